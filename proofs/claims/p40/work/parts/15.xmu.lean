/-! own rows, written by wip/whole/xmu.py: what the writing methods of the class do; their contracts -/
def x_wn (f1 : Nat → Int32) : Nat → Nat := ct (fun p => !x_cs f1 (nI p))
def x_wp (f1 f3 : Nat → Int32) : Nat → Nat → Int32
  | 0 => f3
  | i + 1 => if x_cs f1 (nI i) = true then x_wp f1 f3 i else wr (x_wp f1 f3 i) (nI (x_wn f1 i)) (nI i)
def x_tcn (f0 f1 f2 f3 : Nat → Int32) : Nat → Nat
  | 0 => 0
  | i + 1 => if nI i = 0 then x_tcn f0 f1 f2 f3 i + 1 else if x_kg f0 f1 f2 f3 (nI i - 1) = 2 then x_tcn f0 f1 f2 f3 i + 1 else x_tcn f0 f1 f2 f3 i
def x_wh (f0 f1 f2 f3 f4 : Nat → Int32) : Nat → Nat → Int32
  | 0 => f4
  | i + 1 => wr (x_wh f0 f1 f2 f3 f4 i) (nI i) (nI (x_tcn f0 f1 f2 f3 (i + 1)) - 1)
theorem x_wn_c {f1 : Nat → Int32} {i : Nat} (h : x_cs f1 (nI i) = true) : x_wn f1 (i + 1) = x_wn f1 i := ct_f (by rw [h]; exact Bool.false_ne_true)
theorem x_wn_w {f1 : Nat → Int32} {i : Nat} (h : x_cs f1 (nI i) = false) : x_wn f1 (i + 1) = x_wn f1 i + 1 := ct_t (by rw [h]; rfl)
theorem x_wp_c {f1 f3 : Nat → Int32} {i : Nat} (h : x_cs f1 (nI i) = true) : x_wp f1 f3 (i + 1) = x_wp f1 f3 i := if_pos h
theorem x_wp_w {f1 f3 : Nat → Int32} {i : Nat} (h : x_cs f1 (nI i) = false) : x_wp f1 f3 (i + 1) = wr (x_wp f1 f3 i) (nI (x_wn f1 i)) (nI i) := if_neg (by rw [h]; exact Bool.false_ne_true)
theorem x_tcn_1 {f0 f1 f2 f3 : Nat → Int32} {i : Nat} (h : nI i = 0) : x_tcn f0 f1 f2 f3 (i + 1) = x_tcn f0 f1 f2 f3 i + 1 := if_pos h
theorem x_tcn_2 {f0 f1 f2 f3 : Nat → Int32} {i : Nat} (h : ¬ nI i = 0) (h2 : x_kg f0 f1 f2 f3 (nI i - 1) = 2) : x_tcn f0 f1 f2 f3 (i + 1) = x_tcn f0 f1 f2 f3 i + 1 := (if_neg h).trans (if_pos h2)
theorem x_tcn_3 {f0 f1 f2 f3 : Nat → Int32} {i : Nat} (h : ¬ nI i = 0) (h2 : ¬ x_kg f0 f1 f2 f3 (nI i - 1) = 2) : x_tcn f0 f1 f2 f3 (i + 1) = x_tcn f0 f1 f2 f3 i := (if_neg h).trans (if_neg h2)
theorem x_wh_s {f0 f1 f2 f3 f4 : Nat → Int32} {i : Nat} : x_wh f0 f1 f2 f3 f4 (i + 1) = wr (x_wh f0 f1 f2 f3 f4 i) (nI i) (nI (x_tcn f0 f1 f2 f3 (i + 1)) - 1) := rfl
theorem x_wn_le (f1 : Nat → Int32) (n : Nat) : x_wn f1 n ≤ n := ct_le _ n
def x_mu (f : Nat → Int32) (P : Nat) : Nat → Nat → Int32
  | 0 => f
  | i + 1 => wr (x_mu f P i) (nI (P + i)) (rd (x_mu f P i) (nI (P + i) + 1))
def x_mk (f : Nat → Int32) (N : Nat) : Nat → Nat → Int32
  | 0 => f
  | i + 1 => wr (x_mk f N i) (nI (N - i) - 1 + 1) (rd (x_mk f N i) (nI (N - i) - 1))
theorem nI_m1 {N : Nat} (h : 0 < N) : nI N - 1 = nI (N - 1) := by
  obtain ⟨k, rfl⟩ : ∃ k, N = k + 1 := ⟨N - 1, by omega⟩
  exact nI_pred k
theorem nI_m1T {a : Nat} (ha : a < 2 ^ 30) : (nI a - 1).toInt = (a : Int) - 1 := pk_sub_toInt (b := 1) ha (by decide)
theorem nI_m1lt {a b : Nat} (ha : a < 2 ^ 30) (hb : b < 2 ^ 30) : nI a - 1 < nI b ↔ a ≤ b := by
  rw [Int32.lt_iff_toInt_lt, nI_m1T ha, nI_toInt (by omega)]
  omega
theorem nI_dn {i N : Nat} (h : i < N) : nI (N - i) - 1 + (-1) = nI (N - (i + 1)) - 1 := by
  obtain ⟨k, hk⟩ : ∃ k, N - i = k + 1 := ⟨N - i - 1, by omega⟩
  rw [hk, nI_pred, show N - (i + 1) = k by omega]
  exact (Int32.sub_eq_add_neg _ _).symm
theorem kv_X0_write : yX0_write.cls = RX0 ∧ yX0_write.cls ≠ "java/lang/invoke/MethodHandle" ∧ yX0_write.cls ≠ "java/lang/invoke/VarHandle" ∧ (parseMethodDescriptor yX0_write.desc).map (fun d => d.parameters.length) = some 3 := by decide +kernel
theorem ks_X0_write : yX0_write.cls ≠ "java/lang/invoke/MethodHandle" ∧ yX0_write.cls ≠ "java/lang/invoke/VarHandle" ∧ (parseMethodDescriptor yX0_write.desc).map (fun d => d.parameters.length) = some 3 := kv_X0_write.2
set_option maxHeartbeats 4000000 in
set_option maxRecDepth 100000 in
theorem c_X0_write (l : Launch) (D : va_G) (cI : ClassId) (a : Nat) (f : Nat → Int32) (x1 x2 : Int32) : m_V l yX0_write wsX0_write ({ frames := 0, cells := 0, slots := 0, locals := 0 } : Room) D ([(cI, .int)]) ([(a, .inl (cI, 24, .inl f))]) [.ref a, .int x1, .int x2] [(a, .inl (cI, 24, .inl (wr f x1 x2)))] := by
  refine m_startV (cc := cX0_write) (maxL := 3) (by decide) rfl (Nat.le_of_ble_eq_true rfl) ?_
  intro p e s m below meth c A hx hb hml hr hts hown hlocks hK hA H locs ls hP hD hS hl
  have hl : lv_has ls 3 [(0, .ref a), (1, .int x1), (2, .int x2)] := hl
  refine lv_iload_n hx hb dX0_write_0 rfl (lv_at hl 1 rfl) ?_
  refine lv_if_lt (tgt := 14) hx hb dX0_write_1 (by decide) (fun c_1 => ?_) (fun c_1 => ?_)
  · exact m_retV hx hb hr hlocks hS (by rw [wr, if_pos c_1]; exact hP) dX0_write_14
  · refine lv_iload_n hx hb dX0_write_4 rfl (lv_at hl 1 rfl) ?_
    refine lv_aload_n hx hb dX0_write_5 rfl (lv_at hl 0 rfl) ?_
    refine va_alen hx hb hK hP 0 0 rfl rfl (v := 24) rfl dX0_write_6 ?_
    refine lv_icmp_ge (tgt := 14) hx hb dX0_write_7 (by decide) (fun c_7 => ?_) (fun c_7 => ?_)
    · exact m_retV hx hb hr hlocks hS (by rw [wr, if_neg c_1, if_pos c_7]; exact hP) dX0_write_14
    · refine lv_aload_n hx hb dX0_write_10 rfl (lv_at hl 0 rfl) ?_
      refine lv_iload_n hx hb dX0_write_11 rfl (lv_at hl 1 rfl) ?_
      refine lv_iload_n hx hb dX0_write_12 rfl (lv_at hl 2 rfl) ?_
      refine va_iast hx hb hK hP hD hS 0 0 rfl rfl (vp_in_c rfl (by decide) c_1 c_7) dX0_write_13 (fun H locs hP hD hS => ?_)
      exact m_retV hx hb hr hlocks hS (by rw [wr, if_neg c_1, if_neg c_7]; exact hP) dX0_write_14

theorem kv_X0_put : yX0_put.cls = RX0 ∧ yX0_put.cls ≠ "java/lang/invoke/MethodHandle" ∧ yX0_put.cls ≠ "java/lang/invoke/VarHandle" ∧ (parseMethodDescriptor yX0_put.desc).map (fun d => d.parameters.length) = some 3 := by decide +kernel
theorem ks_X0_put : yX0_put.cls ≠ "java/lang/invoke/MethodHandle" ∧ yX0_put.cls ≠ "java/lang/invoke/VarHandle" ∧ (parseMethodDescriptor yX0_put.desc).map (fun d => d.parameters.length) = some 3 := kv_X0_put.2
set_option maxHeartbeats 4000000 in
set_option maxRecDepth 100000 in
theorem c_X0_put (l : Launch) (D : va_G) (cI : ClassId) (ad : Nat → Nat) (n : Int32) (w : Int32) (t : Int32) (pa pe : Int32) (f0 f1 f2 f3 f4 : Nat → Int32) (x1 : Int32) (x2 : Int32) (x3 : Int32) : m_V l yX0_put wsX0_put ({ frames := 1, cells := 0, slots := 0, locals := 22 } : Room) D ([(cI, .int)]) (xw cI ad n w t pa pe f0 f1 f2 f3 f4) [.ref (ad 0), .int x1, .int x2, .int x3] (xw cI ad n w t pa pe (wr f0 x1 x2) (wr f1 x1 x3) (wr f2 x1 0) f3 f4) := by
  refine m_startV (cc := cX0_put) (maxL := 4) (by decide) rfl (Nat.le_of_ble_eq_true rfl) ?_
  intro p e s m below meth c A hx hb hml hr hts hown hlocks hK hA H locs ls hP hD hS hl
  have hin : ∀ w ∈ wsX00, w ∈ wsX0_put := by decide +kernel
  have hl : lv_has ls 4 [(0, .ref (ad 0)), (1, .int x1), (2, .int x2), (3, .int x3)] := hl
  refine lv_aload_n hx hb dX0_put_0 rfl (lv_at hl 0 rfl) ?_
  refine va_get (D := D) (ci := 0) (v := .ref (ad 1)) (C := RX0) (T := TX0) (N := 10) hx hb hts hin hown hK hP 0 rfl rfl 0 (by decide) (hts (.fieldLink RX0 9 "SplicedTalk" "speakers" "[I") (by decide +kernel)) (fun _ h9 => h9) rfl dX0_put_1 ?_
  refine lv_iload_n hx hb dX0_put_4 rfl (lv_at hl 1 rfl) ?_
  refine lv_iload_n hx hb dX0_put_5 rfl (lv_at hl 2 rfl) ?_
  refine m_callS (As := [.ref (ad 1), .int x1, .int x2]) (rest := []) (Wr := [(ad 0, .inr (0, [.ref (ad 1), .ref (ad 2), .ref (ad 3), .int n, .ref (ad 4), .ref (ad 5), .int w, .int t, .int pa, .int pe])), (ad 2, .inl (cI, 24, .inl f1)), (ad 3, .inl (cI, 24, .inl f2)), (ad 4, .inl (cI, 24, .inl f3)), (ad 5, .inl (cI, 24, .inl f4))]) (W2 := (xw cI ad n w t pa pe (wr f0 x1 x2) f1 f2 f3 f4)) ⟨hx, hb, hml, hown, hts⟩ (c_X0_write l D cI (ad 1) f0 x1 x2) (va_cwS 3 hts gX0_put_X0_write rfl rfl rfl ks_X0_write ⟨Nat.le_of_ble_eq_true rfl, Nat.le_of_ble_eq_true rfl⟩) hP hD hK hA [1] [0, 2, 3, 4, 5] [0, 5, 1, 2, 3, 4] rfl rfl rfl rfl rfl (by decide) rfl rfl rfl hl.1 rfl (Nat.le_of_ble_eq_true rfl) dX0_put_6 (Nat.zero_le _) (Nat.zero_le _) hS (fun H locs hP hS => ?_)
  have hD : va_D A (xw cI ad n w t pa pe (wr f0 x1 x2) f1 f2 f3 f4) := q_Dcong hD rfl
  refine lv_aload_n hx hb dX0_put_9 rfl (lv_at hl 0 rfl) ?_
  refine va_get (D := D) (ci := 0) (v := .ref (ad 2)) (C := RX0) (T := TX0) (N := 10) hx hb hts hin hown hK hP 0 rfl rfl 1 (by decide) (hts (.fieldLink RX0 13 "SplicedTalk" "topics" "[I") (by decide +kernel)) (fun _ h9 => h9) rfl dX0_put_10 ?_
  refine lv_iload_n hx hb dX0_put_13 rfl (lv_at hl 1 rfl) ?_
  refine lv_iload_n hx hb dX0_put_14 rfl (lv_at hl 3 rfl) ?_
  refine m_callS (As := [.ref (ad 2), .int x1, .int x3]) (rest := []) (Wr := [(ad 0, .inr (0, [.ref (ad 1), .ref (ad 2), .ref (ad 3), .int n, .ref (ad 4), .ref (ad 5), .int w, .int t, .int pa, .int pe])), (ad 1, .inl (cI, 24, .inl (wr f0 x1 x2))), (ad 3, .inl (cI, 24, .inl f2)), (ad 4, .inl (cI, 24, .inl f3)), (ad 5, .inl (cI, 24, .inl f4))]) (W2 := (xw cI ad n w t pa pe (wr f0 x1 x2) (wr f1 x1 x3) f2 f3 f4)) ⟨hx, hb, hml, hown, hts⟩ (c_X0_write l D cI (ad 2) f1 x1 x3) (va_cwS 3 hts gX0_put_X0_write rfl rfl rfl ks_X0_write ⟨Nat.le_of_ble_eq_true rfl, Nat.le_of_ble_eq_true rfl⟩) hP hD hK hA [2] [0, 1, 3, 4, 5] [0, 1, 5, 2, 3, 4] rfl rfl rfl rfl rfl (by decide) rfl rfl rfl hl.1 rfl (Nat.le_of_ble_eq_true rfl) dX0_put_15 (Nat.zero_le _) (Nat.zero_le _) hS (fun H locs hP hS => ?_)
  have hD : va_D A (xw cI ad n w t pa pe (wr f0 x1 x2) (wr f1 x1 x3) f2 f3 f4) := q_Dcong hD rfl
  refine lv_aload_n hx hb dX0_put_18 rfl (lv_at hl 0 rfl) ?_
  refine va_get (D := D) (ci := 0) (v := .ref (ad 3)) (C := RX0) (T := TX0) (N := 10) hx hb hts hin hown hK hP 0 rfl rfl 2 (by decide) (hts (.fieldLink RX0 16 "SplicedTalk" "ties" "[I") (by decide +kernel)) (fun _ h9 => h9) rfl dX0_put_19 ?_
  refine lv_iload_n hx hb dX0_put_22 rfl (lv_at hl 1 rfl) ?_
  refine lv_iconst (v := 0) hx hb dX0_put_23 (by decide) ?_
  refine m_callS (As := [.ref (ad 3), .int x1, .int 0]) (rest := []) (Wr := [(ad 0, .inr (0, [.ref (ad 1), .ref (ad 2), .ref (ad 3), .int n, .ref (ad 4), .ref (ad 5), .int w, .int t, .int pa, .int pe])), (ad 1, .inl (cI, 24, .inl (wr f0 x1 x2))), (ad 2, .inl (cI, 24, .inl (wr f1 x1 x3))), (ad 4, .inl (cI, 24, .inl f3)), (ad 5, .inl (cI, 24, .inl f4))]) (W2 := (xw cI ad n w t pa pe (wr f0 x1 x2) (wr f1 x1 x3) (wr f2 x1 0) f3 f4)) ⟨hx, hb, hml, hown, hts⟩ (c_X0_write l D cI (ad 3) f2 x1 0) (va_cwS 3 hts gX0_put_X0_write rfl rfl rfl ks_X0_write ⟨Nat.le_of_ble_eq_true rfl, Nat.le_of_ble_eq_true rfl⟩) hP hD hK hA [3] [0, 1, 2, 4, 5] [0, 1, 2, 5, 3, 4] rfl rfl rfl rfl rfl (by decide) rfl rfl rfl hl.1 rfl (Nat.le_of_ble_eq_true rfl) dX0_put_24 (Nat.zero_le _) (Nat.zero_le _) hS (fun H locs hP hS => ?_)
  have hD : va_D A (xw cI ad n w t pa pe (wr f0 x1 x2) (wr f1 x1 x3) (wr f2 x1 0) f3 f4) := q_Dcong hD rfl
  exact m_retV hx hb hr hlocks hS hP dX0_put_27

theorem kv_X0_copyRemark : yX0_copyRemark.cls = RX0 ∧ yX0_copyRemark.cls ≠ "java/lang/invoke/MethodHandle" ∧ yX0_copyRemark.cls ≠ "java/lang/invoke/VarHandle" ∧ (parseMethodDescriptor yX0_copyRemark.desc).map (fun d => d.parameters.length) = some 2 := by decide +kernel
theorem ks_X0_copyRemark : yX0_copyRemark.cls ≠ "java/lang/invoke/MethodHandle" ∧ yX0_copyRemark.cls ≠ "java/lang/invoke/VarHandle" ∧ (parseMethodDescriptor yX0_copyRemark.desc).map (fun d => d.parameters.length) = some 2 := kv_X0_copyRemark.2
set_option maxHeartbeats 4000000 in
set_option maxRecDepth 100000 in
theorem c_X0_copyRemark (l : Launch) (D : va_G) (cI : ClassId) (ad : Nat → Nat) (n : Int32) (w : Int32) (t : Int32) (pa pe : Int32) (f0 f1 f2 f3 f4 : Nat → Int32) (x1 : Int32) (x2 : Int32) : m_V l yX0_copyRemark wsX0_copyRemark ({ frames := 1, cells := 0, slots := 0, locals := 22 } : Room) D ([(cI, .int)]) (xw cI ad n w t pa pe f0 f1 f2 f3 f4) [.ref (ad 0), .int x1, .int x2] (xw cI ad n w t pa pe (wr f0 x2 (rd f0 x1)) (wr f1 x2 (rd f1 x1)) (wr f2 x2 (rd f2 x1)) f3 f4) := by
  refine m_startV (cc := cX0_copyRemark) (maxL := 3) (by decide) rfl (Nat.le_of_ble_eq_true rfl) ?_
  intro p e s m below meth c A hx hb hml hr hts hown hlocks hK hA H locs ls hP hD hS hl
  have hin : ∀ w ∈ wsX00, w ∈ wsX0_copyRemark := by decide +kernel
  have hl : lv_has ls 3 [(0, .ref (ad 0)), (1, .int x1), (2, .int x2)] := hl
  refine lv_aload_n hx hb dX0_copyRemark_0 rfl (lv_at hl 0 rfl) ?_
  refine va_get (D := D) (ci := 0) (v := .ref (ad 1)) (C := RX0) (T := TX0) (N := 10) hx hb hts hin hown hK hP 0 rfl rfl 0 (by decide) (hts (.fieldLink RX0 9 "SplicedTalk" "speakers" "[I") (by decide +kernel)) (fun _ h9 => h9) rfl dX0_copyRemark_1 ?_
  refine lv_iload_n hx hb dX0_copyRemark_4 rfl (lv_at hl 2 rfl) ?_
  refine lv_aload_n hx hb dX0_copyRemark_5 rfl (lv_at hl 0 rfl) ?_
  refine va_get (D := D) (ci := 0) (v := .ref (ad 1)) (C := RX0) (T := TX0) (N := 10) hx hb hts hin hown hK hP 0 rfl rfl 0 (by decide) (hts (.fieldLink RX0 9 "SplicedTalk" "speakers" "[I") (by decide +kernel)) (fun _ h9 => h9) rfl dX0_copyRemark_6 ?_
  refine lv_iload_n hx hb dX0_copyRemark_9 rfl (lv_at hl 1 rfl) ?_
  refine q_callS (As := [.ref (ad 1), .int x1]) (rest := [.int x2, .ref (ad 1)]) ⟨hx, hb, hml, hown, hts⟩ (c_X0_read l D cI (ad 1) f0 x1) (va_cwS 2 hts gX0_copyRemark_X0_read rfl rfl rfl ks_X0_read ⟨Nat.le_of_ble_eq_true rfl, Nat.le_of_ble_eq_true rfl⟩) (hP.sub [1] rfl) hK rfl hl.1 rfl (Nat.le_of_ble_eq_true rfl) dX0_copyRemark_10 (Nat.zero_le _) (Nat.zero_le _) hS (fun H locs hsm hS => ?_)
  have hP := hsm.P hP
  refine m_callS (As := [.ref (ad 1), .int x2, .int (rd f0 x1)]) (rest := []) (Wr := [(ad 0, .inr (0, [.ref (ad 1), .ref (ad 2), .ref (ad 3), .int n, .ref (ad 4), .ref (ad 5), .int w, .int t, .int pa, .int pe])), (ad 2, .inl (cI, 24, .inl f1)), (ad 3, .inl (cI, 24, .inl f2)), (ad 4, .inl (cI, 24, .inl f3)), (ad 5, .inl (cI, 24, .inl f4))]) (W2 := (xw cI ad n w t pa pe (wr f0 x2 (rd f0 x1)) f1 f2 f3 f4)) ⟨hx, hb, hml, hown, hts⟩ (c_X0_write l D cI (ad 1) f0 x2 (rd f0 x1)) (va_cwS 3 hts gX0_copyRemark_X0_write rfl rfl rfl ks_X0_write ⟨Nat.le_of_ble_eq_true rfl, Nat.le_of_ble_eq_true rfl⟩) hP hD hK hA [1] [0, 2, 3, 4, 5] [0, 5, 1, 2, 3, 4] rfl rfl rfl rfl rfl (by decide) rfl rfl rfl hl.1 rfl (Nat.le_of_ble_eq_true rfl) dX0_copyRemark_13 (Nat.zero_le _) (Nat.zero_le _) hS (fun H locs hP hS => ?_)
  have hD : va_D A (xw cI ad n w t pa pe (wr f0 x2 (rd f0 x1)) f1 f2 f3 f4) := q_Dcong hD rfl
  refine lv_aload_n hx hb dX0_copyRemark_16 rfl (lv_at hl 0 rfl) ?_
  refine va_get (D := D) (ci := 0) (v := .ref (ad 2)) (C := RX0) (T := TX0) (N := 10) hx hb hts hin hown hK hP 0 rfl rfl 1 (by decide) (hts (.fieldLink RX0 13 "SplicedTalk" "topics" "[I") (by decide +kernel)) (fun _ h9 => h9) rfl dX0_copyRemark_17 ?_
  refine lv_iload_n hx hb dX0_copyRemark_20 rfl (lv_at hl 2 rfl) ?_
  refine lv_aload_n hx hb dX0_copyRemark_21 rfl (lv_at hl 0 rfl) ?_
  refine va_get (D := D) (ci := 0) (v := .ref (ad 2)) (C := RX0) (T := TX0) (N := 10) hx hb hts hin hown hK hP 0 rfl rfl 1 (by decide) (hts (.fieldLink RX0 13 "SplicedTalk" "topics" "[I") (by decide +kernel)) (fun _ h9 => h9) rfl dX0_copyRemark_22 ?_
  refine lv_iload_n hx hb dX0_copyRemark_25 rfl (lv_at hl 1 rfl) ?_
  refine q_callS (As := [.ref (ad 2), .int x1]) (rest := [.int x2, .ref (ad 2)]) ⟨hx, hb, hml, hown, hts⟩ (c_X0_read l D cI (ad 2) f1 x1) (va_cwS 2 hts gX0_copyRemark_X0_read rfl rfl rfl ks_X0_read ⟨Nat.le_of_ble_eq_true rfl, Nat.le_of_ble_eq_true rfl⟩) (hP.sub [2] rfl) hK rfl hl.1 rfl (Nat.le_of_ble_eq_true rfl) dX0_copyRemark_26 (Nat.zero_le _) (Nat.zero_le _) hS (fun H locs hsm hS => ?_)
  have hP := hsm.P hP
  refine m_callS (As := [.ref (ad 2), .int x2, .int (rd f1 x1)]) (rest := []) (Wr := [(ad 0, .inr (0, [.ref (ad 1), .ref (ad 2), .ref (ad 3), .int n, .ref (ad 4), .ref (ad 5), .int w, .int t, .int pa, .int pe])), (ad 1, .inl (cI, 24, .inl (wr f0 x2 (rd f0 x1)))), (ad 3, .inl (cI, 24, .inl f2)), (ad 4, .inl (cI, 24, .inl f3)), (ad 5, .inl (cI, 24, .inl f4))]) (W2 := (xw cI ad n w t pa pe (wr f0 x2 (rd f0 x1)) (wr f1 x2 (rd f1 x1)) f2 f3 f4)) ⟨hx, hb, hml, hown, hts⟩ (c_X0_write l D cI (ad 2) f1 x2 (rd f1 x1)) (va_cwS 3 hts gX0_copyRemark_X0_write rfl rfl rfl ks_X0_write ⟨Nat.le_of_ble_eq_true rfl, Nat.le_of_ble_eq_true rfl⟩) hP hD hK hA [2] [0, 1, 3, 4, 5] [0, 1, 5, 2, 3, 4] rfl rfl rfl rfl rfl (by decide) rfl rfl rfl hl.1 rfl (Nat.le_of_ble_eq_true rfl) dX0_copyRemark_29 (Nat.zero_le _) (Nat.zero_le _) hS (fun H locs hP hS => ?_)
  have hD : va_D A (xw cI ad n w t pa pe (wr f0 x2 (rd f0 x1)) (wr f1 x2 (rd f1 x1)) f2 f3 f4) := q_Dcong hD rfl
  refine lv_aload_n hx hb dX0_copyRemark_32 rfl (lv_at hl 0 rfl) ?_
  refine va_get (D := D) (ci := 0) (v := .ref (ad 3)) (C := RX0) (T := TX0) (N := 10) hx hb hts hin hown hK hP 0 rfl rfl 2 (by decide) (hts (.fieldLink RX0 16 "SplicedTalk" "ties" "[I") (by decide +kernel)) (fun _ h9 => h9) rfl dX0_copyRemark_33 ?_
  refine lv_iload_n hx hb dX0_copyRemark_36 rfl (lv_at hl 2 rfl) ?_
  refine lv_aload_n hx hb dX0_copyRemark_37 rfl (lv_at hl 0 rfl) ?_
  refine va_get (D := D) (ci := 0) (v := .ref (ad 3)) (C := RX0) (T := TX0) (N := 10) hx hb hts hin hown hK hP 0 rfl rfl 2 (by decide) (hts (.fieldLink RX0 16 "SplicedTalk" "ties" "[I") (by decide +kernel)) (fun _ h9 => h9) rfl dX0_copyRemark_38 ?_
  refine lv_iload_n hx hb dX0_copyRemark_41 rfl (lv_at hl 1 rfl) ?_
  refine q_callS (As := [.ref (ad 3), .int x1]) (rest := [.int x2, .ref (ad 3)]) ⟨hx, hb, hml, hown, hts⟩ (c_X0_read l D cI (ad 3) f2 x1) (va_cwS 2 hts gX0_copyRemark_X0_read rfl rfl rfl ks_X0_read ⟨Nat.le_of_ble_eq_true rfl, Nat.le_of_ble_eq_true rfl⟩) (hP.sub [3] rfl) hK rfl hl.1 rfl (Nat.le_of_ble_eq_true rfl) dX0_copyRemark_42 (Nat.zero_le _) (Nat.zero_le _) hS (fun H locs hsm hS => ?_)
  have hP := hsm.P hP
  refine m_callS (As := [.ref (ad 3), .int x2, .int (rd f2 x1)]) (rest := []) (Wr := [(ad 0, .inr (0, [.ref (ad 1), .ref (ad 2), .ref (ad 3), .int n, .ref (ad 4), .ref (ad 5), .int w, .int t, .int pa, .int pe])), (ad 1, .inl (cI, 24, .inl (wr f0 x2 (rd f0 x1)))), (ad 2, .inl (cI, 24, .inl (wr f1 x2 (rd f1 x1)))), (ad 4, .inl (cI, 24, .inl f3)), (ad 5, .inl (cI, 24, .inl f4))]) (W2 := (xw cI ad n w t pa pe (wr f0 x2 (rd f0 x1)) (wr f1 x2 (rd f1 x1)) (wr f2 x2 (rd f2 x1)) f3 f4)) ⟨hx, hb, hml, hown, hts⟩ (c_X0_write l D cI (ad 3) f2 x2 (rd f2 x1)) (va_cwS 3 hts gX0_copyRemark_X0_write rfl rfl rfl ks_X0_write ⟨Nat.le_of_ble_eq_true rfl, Nat.le_of_ble_eq_true rfl⟩) hP hD hK hA [3] [0, 1, 2, 4, 5] [0, 1, 2, 5, 3, 4] rfl rfl rfl rfl rfl (by decide) rfl rfl rfl hl.1 rfl (Nat.le_of_ble_eq_true rfl) dX0_copyRemark_45 (Nat.zero_le _) (Nat.zero_le _) hS (fun H locs hP hS => ?_)
  have hD : va_D A (xw cI ad n w t pa pe (wr f0 x2 (rd f0 x1)) (wr f1 x2 (rd f1 x1)) (wr f2 x2 (rd f2 x1)) f3 f4) := q_Dcong hD rfl
  exact m_retV hx hb hr hlocks hS hP dX0_copyRemark_48

theorem kv_X0_pay : yX0_pay.cls = RX0 ∧ yX0_pay.cls ≠ "java/lang/invoke/MethodHandle" ∧ yX0_pay.cls ≠ "java/lang/invoke/VarHandle" ∧ (parseMethodDescriptor yX0_pay.desc).map (fun d => d.parameters.length) = some 1 := by decide +kernel
theorem ks_X0_pay : yX0_pay.cls ≠ "java/lang/invoke/MethodHandle" ∧ yX0_pay.cls ≠ "java/lang/invoke/VarHandle" ∧ (parseMethodDescriptor yX0_pay.desc).map (fun d => d.parameters.length) = some 1 := kv_X0_pay.2
set_option maxHeartbeats 4000000 in
set_option maxRecDepth 100000 in
theorem c_X0_pay (l : Launch) (D : va_G) (cI : ClassId) (ad : Nat → Nat) (n : Int32) (w : Int32) (t : Int32) (pa pe : Int32) (f0 f1 f2 f3 f4 : Nat → Int32) (x1 : Int32) : m_V l yX0_pay wsX0_pay ({ frames := 0, cells := 0, slots := 0, locals := 0 } : Room) D ([(cI, .int)]) (xw cI ad n w t pa pe f0 f1 f2 f3 f4) [.ref (ad 0), .int x1] (xw cI ad n w t (pa - x1) (pe + x1) f0 f1 f2 f3 f4) := by
  refine m_startV (cc := cX0_pay) (maxL := 2) (by decide) rfl (Nat.le_of_ble_eq_true rfl) ?_
  intro p e s m below meth c A hx hb hml hr hts hown hlocks hK hA H locs ls hP hD hS hl
  have hin : ∀ w ∈ wsX00, w ∈ wsX0_pay := by decide +kernel
  have hl : lv_has ls 2 [(0, .ref (ad 0)), (1, .int x1)] := hl
  refine lv_aload_n hx hb dX0_pay_0 rfl (lv_at hl 0 rfl) ?_
  refine lv_dup hx hb dX0_pay_1 rfl ?_
  refine va_get (D := D) (ci := 0) (v := .int pa) (C := RX0) (T := TX0) (N := 10) hx hb hts hin hown hK hP 0 rfl rfl 8 (by decide) (hts (.fieldLink RX0 25 "SplicedTalk" "patienceLeft" "I") (by decide +kernel)) (fun _ h9 => h9) rfl dX0_pay_2 ?_
  refine lv_iload_n hx hb dX0_pay_5 rfl (lv_at hl 1 rfl) ?_
  refine lv_isub hx hb dX0_pay_6 ?_
  refine va_put (D := D) (ci := 0) (v := .int (pa - x1)) (ty := .int) (C := RX0) (T := TX0) (N := 10) hx hb hts hin tyX0 tyX0_ok nmX0 hown hK hP hD hS 0 rfl rfl 8 (by decide) (hts (.fieldLink RX0 25 "SplicedTalk" "patienceLeft" "I") (by decide +kernel)) (fun _ h9 => h9) rfl (by decide +kernel) rfl rfl (Nat.le_of_ble_eq_true rfl) dX0_pay_7 (fun H locs hP hD hS => ?_)
  have hP : va_P D vwCl (xw cI ad n w t (pa - x1) pe f0 f1 f2 f3 f4) H := hP
  have hD : va_D A (xw cI ad n w t (pa - x1) pe f0 f1 f2 f3 f4) := q_Dcong hD rfl
  refine lv_aload_n hx hb dX0_pay_10 rfl (lv_at hl 0 rfl) ?_
  refine lv_dup hx hb dX0_pay_11 rfl ?_
  refine va_get (D := D) (ci := 0) (v := .int pe) (C := RX0) (T := TX0) (N := 10) hx hb hts hin hown hK hP 0 rfl rfl 9 (by decide) (hts (.fieldLink RX0 119 "SplicedTalk" "patienceSpent" "I") (by decide +kernel)) (fun _ h9 => h9) rfl dX0_pay_12 ?_
  refine lv_iload_n hx hb dX0_pay_15 rfl (lv_at hl 1 rfl) ?_
  refine lv_iadd hx hb dX0_pay_16 ?_
  refine va_put (D := D) (ci := 0) (v := .int (pe + x1)) (ty := .int) (C := RX0) (T := TX0) (N := 10) hx hb hts hin tyX0 tyX0_ok nmX0 hown hK hP hD hS 0 rfl rfl 9 (by decide) (hts (.fieldLink RX0 119 "SplicedTalk" "patienceSpent" "I") (by decide +kernel)) (fun _ h9 => h9) rfl (by decide +kernel) rfl rfl (Nat.le_of_ble_eq_true rfl) dX0_pay_17 (fun H locs hP hD hS => ?_)
  have hP : va_P D vwCl (xw cI ad n w t (pa - x1) (pe + x1) f0 f1 f2 f3 f4) H := hP
  have hD : va_D A (xw cI ad n w t (pa - x1) (pe + x1) f0 f1 f2 f3 f4) := q_Dcong hD rfl
  exact m_retV hx hb hr hlocks hS hP dX0_pay_20

theorem kv_X0_moveUpBehind : yX0_moveUpBehind.cls = RX0 ∧ yX0_moveUpBehind.cls ≠ "java/lang/invoke/MethodHandle" ∧ yX0_moveUpBehind.cls ≠ "java/lang/invoke/VarHandle" ∧ (parseMethodDescriptor yX0_moveUpBehind.desc).map (fun d => d.parameters.length) = some 1 := by decide +kernel
theorem ks_X0_moveUpBehind : yX0_moveUpBehind.cls ≠ "java/lang/invoke/MethodHandle" ∧ yX0_moveUpBehind.cls ≠ "java/lang/invoke/VarHandle" ∧ (parseMethodDescriptor yX0_moveUpBehind.desc).map (fun d => d.parameters.length) = some 1 := kv_X0_moveUpBehind.2
set_option maxHeartbeats 4000000 in
set_option maxRecDepth 100000 in
theorem c_X0_moveUpBehind (l : Launch) (D : va_G) (cI : ClassId) (ad : Nat → Nat) (N : Nat) (w : Int32) (t : Int32) (pa pe : Int32) (f0 f1 f2 f3 f4 : Nat → Int32) (P : Nat) (hN : N ≤ 24) (hPN : P < N) : m_V l yX0_moveUpBehind wsX0_moveUpBehind ({ frames := 2, cells := 0, slots := 0, locals := 44 } : Room) D ([(cI, .int)]) (xw cI ad (nI N) w t pa pe f0 f1 f2 f3 f4) [.ref (ad 0), .int (nI P)] (xw cI ad (nI (N - 1)) w t pa pe (x_mu f0 P (N - 1 - P)) (x_mu f1 P (N - 1 - P)) (x_mu f2 P (N - 1 - P)) f3 f4) := by
  refine m_startV (cc := cX0_moveUpBehind) (maxL := 3) (by decide) rfl (Nat.le_of_ble_eq_true rfl) ?_
  intro p e s m below meth c A hx hb hml hr hts hown hlocks hK hA H locs ls hP hD hS hl
  have hin : ∀ w ∈ wsX00, w ∈ wsX0_moveUpBehind := by decide +kernel
  have hl : lv_has ls 3 [(0, .ref (ad 0)), (1, .int (nI P))] := hl
  refine lv_aload_n hx hb dX0_moveUpBehind_0 rfl (lv_at hl 0 rfl) ?_
  refine lv_dup hx hb dX0_moveUpBehind_1 rfl ?_
  refine va_get (D := D) (ci := 0) (v := .int (nI N)) (C := RX0) (T := TX0) (N := 10) hx hb hts hin hown hK hP 0 rfl rfl 3 (by decide) (hts (.fieldLink RX0 69 "SplicedTalk" "remarkCount" "I") (by decide +kernel)) (fun _ h9 => h9) rfl dX0_moveUpBehind_2 ?_
  refine lv_iconst (v := 1) hx hb dX0_moveUpBehind_5 (by decide) ?_
  refine lv_isub hx hb dX0_moveUpBehind_6 ?_
  refine va_put (D := D) (ci := 0) (v := .int ((nI N) - 1)) (ty := .int) (C := RX0) (T := TX0) (N := 10) hx hb hts hin tyX0 tyX0_ok nmX0 hown hK hP hD hS 0 rfl rfl 3 (by decide) (hts (.fieldLink RX0 69 "SplicedTalk" "remarkCount" "I") (by decide +kernel)) (fun _ h9 => h9) rfl (by decide +kernel) rfl rfl (Nat.le_of_ble_eq_true rfl) dX0_moveUpBehind_7 (fun H locs hP hD hS => ?_)
  have hP : va_P D vwCl (xw cI ad ((nI N) - 1) w t pa pe f0 f1 f2 f3 f4) H := hP
  have hD : va_D A (xw cI ad ((nI N) - 1) w t pa pe f0 f1 f2 f3 f4) := q_Dcong hD rfl
  rw [nI_m1 (by omega)] at hP
  have hD : va_D A (xw cI ad (nI (N - 1)) w t pa pe f0 f1 f2 f3 f4) := q_Dcong hD rfl
  refine lv_iload_n hx hb dX0_moveUpBehind_10 rfl (lv_at hl 1 rfl) ?_
  refine lv_istore_n (lv' := [(2, .int (nI P)), (0, .ref (ad 0)), (1, .int (nI P))]) hx hb dX0_moveUpBehind_11 rfl hl (by decide) rfl (fun ls hl => ?_)
  have lo_12 : ∀ (fu i : Nat), (N - 1 - P) - i < fu → i ≤ (N - 1 - P) → ∀ (H : Heap) (locs : List Loc) (ls : Array Slot), va_P D vwCl (xw cI ad (nI (N - 1)) w t pa pe (x_mu f0 P i) (x_mu f1 P i) (x_mu f2 P i) f3 f4) H → va_S A s.heap H locs → lv_has ls 3 [(2, .int (nI (P + i))), (0, .ref (ad 0)), (1, .int (nI P))] → W p l e ({ frames := 2, cells := 0, slots := 0, locals := 44 } : Room) s m [.ref (ad 0), .int (nI P)].toArray below meth c H locs 0 0 (m_EV D below [.ref (ad 0), .int (nI P)].toArray s (xw cI ad (nI (N - 1)) w t pa pe (x_mu f0 P (N - 1 - P)) (x_mu f1 P (N - 1 - P)) (x_mu f2 P (N - 1 - P)) f3 f4) A) (F0 m 12 ls []) := by
    intro fu
    induction fu with
    | zero => intro i hi; exact absurd hi (Nat.not_lt_zero _)
    | succ fu ih =>
      intro i hi hiN H locs ls hP hS hl
      have hD : va_D A (xw cI ad (nI (N - 1)) w t pa pe (x_mu f0 P i) (x_mu f1 P i) (x_mu f2 P i) f3 f4) := q_Dcong hD rfl
      refine lv_iload_n hx hb dX0_moveUpBehind_12 rfl (lv_at hl 0 rfl) ?_
      refine lv_aload_n hx hb dX0_moveUpBehind_13 rfl (lv_at hl 1 rfl) ?_
      refine va_get (D := D) (ci := 0) (v := .int (nI (N - 1))) (C := RX0) (T := TX0) (N := 10) hx hb hts hin hown hK hP 0 rfl rfl 3 (by decide) (hts (.fieldLink RX0 69 "SplicedTalk" "remarkCount" "I") (by decide +kernel)) (fun _ h9 => h9) rfl dX0_moveUpBehind_14 ?_
      refine lv_icmp_ge (tgt := 34) hx hb dX0_moveUpBehind_17 (by decide) (fun c_17 => ?_) (fun c_17 => ?_)
      · have hi9 : P + i = N - 1 := nI_ge' (by omega) (by omega) c_17
        have hi9 : i = N - 1 - P := by omega
        rw [hi9] at hP
        have hD : va_D A (xw cI ad (nI (N - 1)) w t pa pe (x_mu f0 P (N - 1 - P)) (x_mu f1 P (N - 1 - P)) (x_mu f2 P (N - 1 - P)) f3 f4) := q_Dcong hD rfl
        exact m_retV hx hb hr hlocks hS hP dX0_moveUpBehind_34
      · have hi9 : P + i < N - 1 := nI_lt' (by omega) (by omega) c_17
        refine lv_aload_n hx hb dX0_moveUpBehind_20 rfl (lv_at hl 1 rfl) ?_
        refine lv_iload_n hx hb dX0_moveUpBehind_21 rfl (lv_at hl 0 rfl) ?_
        refine lv_iconst (v := 1) hx hb dX0_moveUpBehind_22 (by decide) ?_
        refine lv_iadd hx hb dX0_moveUpBehind_23 ?_
        refine lv_iload_n hx hb dX0_moveUpBehind_24 rfl (lv_at hl 0 rfl) ?_
        refine m_callV (As := [.int ((nI (P + i)) + 1), .int (nI (P + i))]) (rest := []) (Wr := []) (W2 := (xw cI ad (nI (N - 1)) w t pa pe (wr (x_mu f0 P i) (nI (P + i)) (rd (x_mu f0 P i) ((nI (P + i)) + 1))) (wr (x_mu f1 P i) (nI (P + i)) (rd (x_mu f1 P i) ((nI (P + i)) + 1))) (wr (x_mu f2 P i) (nI (P + i)) (rd (x_mu f2 P i) ((nI (P + i)) + 1))) f3 f4)) ⟨hx, hb, hml, hown, hts⟩ (c_X0_copyRemark l D cI ad (nI (N - 1)) w t pa pe (x_mu f0 P i) (x_mu f1 P i) (x_mu f2 P i) f3 f4 ((nI (P + i)) + 1) (nI (P + i))) (cwV 2 hts gX0_moveUpBehind_X0_copyRemark rfl rfl rfl kv_X0_copyRemark ⟨Nat.le_of_ble_eq_true rfl, Nat.le_of_ble_eq_true rfl⟩) (va_recv hK hP (ci := 0) (q0 := 0) rfl rfl) hP hD hK hA [0, 1, 2, 3, 4, 5] [] [0, 1, 2, 3, 4, 5] rfl rfl rfl rfl rfl (by decide) rfl rfl rfl hl.1 rfl (Nat.le_of_ble_eq_true rfl) dX0_moveUpBehind_25 (Nat.zero_le _) (Nat.zero_le _) hS (fun H locs hP hS => ?_)
        have hD : va_D A (xw cI ad (nI (N - 1)) w t pa pe (wr (x_mu f0 P i) (nI (P + i)) (rd (x_mu f0 P i) ((nI (P + i)) + 1))) (wr (x_mu f1 P i) (nI (P + i)) (rd (x_mu f1 P i) ((nI (P + i)) + 1))) (wr (x_mu f2 P i) (nI (P + i)) (rd (x_mu f2 P i) ((nI (P + i)) + 1))) f3 f4) := q_Dcong hD rfl
        refine lv_iinc (v := ((nI (P + i)) + 1)) (lv' := [(2, .int ((nI (P + i)) + 1)), (0, .ref (ad 0)), (1, .int (nI P))]) hx hb dX0_moveUpBehind_28 hl (k := 0) rfl (by rfl) (by decide) rfl (fun ls hl => ?_)
        refine lv_goto (tgt := 12) hx hb dX0_moveUpBehind_31 (by decide) ?_
        have e_2 : (((nI (P + i)) + 1) : Int32) = (nI (P + (i + 1))) := nI_1 (P + i)
        exact ih (i + 1) (by omega) (by omega) H locs ls hP hS (lv_eq (lv_sub (l' := [(2, .int ((nI (P + i)) + 1)), (0, .ref (ad 0)), (1, .int (nI P))]) hl [0, 1, 2] rfl) (by rw [e_2]))
  exact lo_12 ((N - 1 - P) + 1) 0 (by omega) (by omega) H locs ls hP hS (lv_sub hl [0, 1, 2] rfl)

theorem kv_X0_makeRoomAt : yX0_makeRoomAt.cls = RX0 ∧ yX0_makeRoomAt.cls ≠ "java/lang/invoke/MethodHandle" ∧ yX0_makeRoomAt.cls ≠ "java/lang/invoke/VarHandle" ∧ (parseMethodDescriptor yX0_makeRoomAt.desc).map (fun d => d.parameters.length) = some 1 := by decide +kernel
theorem ks_X0_makeRoomAt : yX0_makeRoomAt.cls ≠ "java/lang/invoke/MethodHandle" ∧ yX0_makeRoomAt.cls ≠ "java/lang/invoke/VarHandle" ∧ (parseMethodDescriptor yX0_makeRoomAt.desc).map (fun d => d.parameters.length) = some 1 := kv_X0_makeRoomAt.2
set_option maxHeartbeats 4000000 in
set_option maxRecDepth 100000 in
theorem c_X0_makeRoomAt (l : Launch) (D : va_G) (cI : ClassId) (ad : Nat → Nat) (N : Nat) (w : Int32) (t : Int32) (pa pe : Int32) (f0 f1 f2 f3 f4 : Nat → Int32) (P : Nat) (hN : N ≤ 24) (hPN : P ≤ N) : m_V l yX0_makeRoomAt wsX0_makeRoomAt ({ frames := 2, cells := 0, slots := 0, locals := 44 } : Room) D ([(cI, .int)]) (xw cI ad (nI N) w t pa pe f0 f1 f2 f3 f4) [.ref (ad 0), .int (nI P)] (xw cI ad (nI (N + 1)) w t pa pe (x_mk f0 N (N - P)) (x_mk f1 N (N - P)) (x_mk f2 N (N - P)) f3 f4) := by
  refine m_startV (cc := cX0_makeRoomAt) (maxL := 3) (by decide) rfl (Nat.le_of_ble_eq_true rfl) ?_
  intro p e s m below meth c A hx hb hml hr hts hown hlocks hK hA H locs ls hP hD hS hl
  have hin : ∀ w ∈ wsX00, w ∈ wsX0_makeRoomAt := by decide +kernel
  have hl : lv_has ls 3 [(0, .ref (ad 0)), (1, .int (nI P))] := hl
  refine lv_aload_n hx hb dX0_makeRoomAt_0 rfl (lv_at hl 0 rfl) ?_
  refine va_get (D := D) (ci := 0) (v := .int (nI N)) (C := RX0) (T := TX0) (N := 10) hx hb hts hin hown hK hP 0 rfl rfl 3 (by decide) (hts (.fieldLink RX0 69 "SplicedTalk" "remarkCount" "I") (by decide +kernel)) (fun _ h9 => h9) rfl dX0_makeRoomAt_1 ?_
  refine lv_iconst (v := 1) hx hb dX0_makeRoomAt_4 (by decide) ?_
  refine lv_isub hx hb dX0_makeRoomAt_5 ?_
  refine lv_istore_n (lv' := [(2, .int ((nI N) - 1)), (0, .ref (ad 0)), (1, .int (nI P))]) hx hb dX0_makeRoomAt_6 rfl hl (by decide) rfl (fun ls hl => ?_)
  have lo_7 : ∀ (fu i : Nat), (N - P) - i < fu → i ≤ (N - P) → ∀ (H : Heap) (locs : List Loc) (ls : Array Slot), va_P D vwCl (xw cI ad (nI N) w t pa pe (x_mk f0 N i) (x_mk f1 N i) (x_mk f2 N i) f3 f4) H → va_S A s.heap H locs → lv_has ls 3 [(2, .int ((nI (N - i)) - 1)), (0, .ref (ad 0)), (1, .int (nI P))] → W p l e ({ frames := 2, cells := 0, slots := 0, locals := 44 } : Room) s m [.ref (ad 0), .int (nI P)].toArray below meth c H locs 0 0 (m_EV D below [.ref (ad 0), .int (nI P)].toArray s (xw cI ad (nI (N + 1)) w t pa pe (x_mk f0 N (N - P)) (x_mk f1 N (N - P)) (x_mk f2 N (N - P)) f3 f4) A) (F0 m 7 ls []) := by
    intro fu
    induction fu with
    | zero => intro i hi; exact absurd hi (Nat.not_lt_zero _)
    | succ fu ih =>
      intro i hi hiN H locs ls hP hS hl
      have hD : va_D A (xw cI ad (nI N) w t pa pe (x_mk f0 N i) (x_mk f1 N i) (x_mk f2 N i) f3 f4) := q_Dcong hD rfl
      refine lv_iload_n hx hb dX0_makeRoomAt_7 rfl (lv_at hl 0 rfl) ?_
      refine lv_iload_n hx hb dX0_makeRoomAt_8 rfl (lv_at hl 2 rfl) ?_
      refine lv_icmp_lt (tgt := 26) hx hb dX0_makeRoomAt_9 (by decide) (fun c_9 => ?_) (fun c_9 => ?_)
      · have hi9 : N - i ≤ P := (nI_m1lt (by omega) (by omega)).mp c_9
        have hi9 : i = N - P := by omega
        rw [hi9] at hP
        have hD : va_D A (xw cI ad (nI N) w t pa pe (x_mk f0 N (N - P)) (x_mk f1 N (N - P)) (x_mk f2 N (N - P)) f3 f4) := q_Dcong hD rfl
        refine lv_aload_n hx hb dX0_makeRoomAt_26 rfl (lv_at hl 1 rfl) ?_
        refine lv_dup hx hb dX0_makeRoomAt_27 rfl ?_
        refine va_get (D := D) (ci := 0) (v := .int (nI N)) (C := RX0) (T := TX0) (N := 10) hx hb hts hin hown hK hP 0 rfl rfl 3 (by decide) (hts (.fieldLink RX0 69 "SplicedTalk" "remarkCount" "I") (by decide +kernel)) (fun _ h9 => h9) rfl dX0_makeRoomAt_28 ?_
        refine lv_iconst (v := 1) hx hb dX0_makeRoomAt_31 (by decide) ?_
        refine lv_iadd hx hb dX0_makeRoomAt_32 ?_
        refine va_put (D := D) (ci := 0) (v := .int ((nI N) + 1)) (ty := .int) (C := RX0) (T := TX0) (N := 10) hx hb hts hin tyX0 tyX0_ok nmX0 hown hK hP hD hS 0 rfl rfl 3 (by decide) (hts (.fieldLink RX0 69 "SplicedTalk" "remarkCount" "I") (by decide +kernel)) (fun _ h9 => h9) rfl (by decide +kernel) rfl rfl (Nat.le_of_ble_eq_true rfl) dX0_makeRoomAt_33 (fun H locs hP hD hS => ?_)
        have hP : va_P D vwCl (xw cI ad ((nI N) + 1) w t pa pe (x_mk f0 N (N - P)) (x_mk f1 N (N - P)) (x_mk f2 N (N - P)) f3 f4) H := hP
        have hD : va_D A (xw cI ad ((nI N) + 1) w t pa pe (x_mk f0 N (N - P)) (x_mk f1 N (N - P)) (x_mk f2 N (N - P)) f3 f4) := q_Dcong hD rfl
        rw [nI_1] at hP
        have hD : va_D A (xw cI ad (nI (N + 1)) w t pa pe (x_mk f0 N (N - P)) (x_mk f1 N (N - P)) (x_mk f2 N (N - P)) f3 f4) := q_Dcong hD rfl
        exact m_retV hx hb hr hlocks hS hP dX0_makeRoomAt_36
      · have hi9 : ¬ N - i ≤ P := fun h => c_9 ((nI_m1lt (by omega) (by omega)).mpr h)
        refine lv_aload_n hx hb dX0_makeRoomAt_12 rfl (lv_at hl 1 rfl) ?_
        refine lv_iload_n hx hb dX0_makeRoomAt_13 rfl (lv_at hl 0 rfl) ?_
        refine lv_iload_n hx hb dX0_makeRoomAt_14 rfl (lv_at hl 0 rfl) ?_
        refine lv_iconst (v := 1) hx hb dX0_makeRoomAt_15 (by decide) ?_
        refine lv_iadd hx hb dX0_makeRoomAt_16 ?_
        refine m_callV (As := [.int ((nI (N - i)) - 1), .int (((nI (N - i)) - 1) + 1)]) (rest := []) (Wr := []) (W2 := (xw cI ad (nI N) w t pa pe (wr (x_mk f0 N i) (((nI (N - i)) - 1) + 1) (rd (x_mk f0 N i) ((nI (N - i)) - 1))) (wr (x_mk f1 N i) (((nI (N - i)) - 1) + 1) (rd (x_mk f1 N i) ((nI (N - i)) - 1))) (wr (x_mk f2 N i) (((nI (N - i)) - 1) + 1) (rd (x_mk f2 N i) ((nI (N - i)) - 1))) f3 f4)) ⟨hx, hb, hml, hown, hts⟩ (c_X0_copyRemark l D cI ad (nI N) w t pa pe (x_mk f0 N i) (x_mk f1 N i) (x_mk f2 N i) f3 f4 ((nI (N - i)) - 1) (((nI (N - i)) - 1) + 1)) (cwV 2 hts gX0_makeRoomAt_X0_copyRemark rfl rfl rfl kv_X0_copyRemark ⟨Nat.le_of_ble_eq_true rfl, Nat.le_of_ble_eq_true rfl⟩) (va_recv hK hP (ci := 0) (q0 := 0) rfl rfl) hP hD hK hA [0, 1, 2, 3, 4, 5] [] [0, 1, 2, 3, 4, 5] rfl rfl rfl rfl rfl (by decide) rfl rfl rfl hl.1 rfl (Nat.le_of_ble_eq_true rfl) dX0_makeRoomAt_17 (Nat.zero_le _) (Nat.zero_le _) hS (fun H locs hP hS => ?_)
        have hD : va_D A (xw cI ad (nI N) w t pa pe (wr (x_mk f0 N i) (((nI (N - i)) - 1) + 1) (rd (x_mk f0 N i) ((nI (N - i)) - 1))) (wr (x_mk f1 N i) (((nI (N - i)) - 1) + 1) (rd (x_mk f1 N i) ((nI (N - i)) - 1))) (wr (x_mk f2 N i) (((nI (N - i)) - 1) + 1) (rd (x_mk f2 N i) ((nI (N - i)) - 1))) f3 f4) := q_Dcong hD rfl
        refine lv_iinc (v := (((nI (N - i)) - 1) + (-1))) (lv' := [(2, .int (((nI (N - i)) - 1) + (-1))), (0, .ref (ad 0)), (1, .int (nI P))]) hx hb dX0_makeRoomAt_20 hl (k := 0) rfl (by rfl) (by decide) rfl (fun ls hl => ?_)
        refine lv_goto (tgt := 7) hx hb dX0_makeRoomAt_23 (by decide) ?_
        have e_2 : ((((nI (N - i)) - 1) + (-1)) : Int32) = ((nI (N - (i + 1))) - 1) := nI_dn (by omega)
        exact ih (i + 1) (by omega) (by omega) H locs ls hP hS (lv_eq (lv_sub (l' := [(2, .int (((nI (N - i)) - 1) + (-1))), (0, .ref (ad 0)), (1, .int (nI P))]) hl [0, 1, 2] rfl) (by rw [e_2]))
  exact lo_7 ((N - P) + 1) 0 (by omega) (by omega) H locs ls hP hS (lv_sub hl [0, 1, 2] rfl)

theorem kv_X0_recount : yX0_recount.cls = RX0 ∧ yX0_recount.cls ≠ "java/lang/invoke/MethodHandle" ∧ yX0_recount.cls ≠ "java/lang/invoke/VarHandle" ∧ (parseMethodDescriptor yX0_recount.desc).map (fun d => d.parameters.length) = some 0 := by decide +kernel
theorem ks_X0_recount : yX0_recount.cls ≠ "java/lang/invoke/MethodHandle" ∧ yX0_recount.cls ≠ "java/lang/invoke/VarHandle" ∧ (parseMethodDescriptor yX0_recount.desc).map (fun d => d.parameters.length) = some 0 := kv_X0_recount.2
set_option maxHeartbeats 4000000 in
set_option maxRecDepth 100000 in
theorem c_X0_recount (l : Launch) (D : va_G) (cI : ClassId) (ad : Nat → Nat) (N : Nat) (w : Int32) (t : Int32) (pa pe : Int32) (f0 f1 f2 f3 f4 : Nat → Int32) (hN : N ≤ 24) : m_V l yX0_recount wsX0_recount ({ frames := 4, cells := 0, slots := 0, locals := 85 } : Room) D ([(cI, .int)]) (xw cI ad (nI N) w t pa pe f0 f1 f2 f3 f4) [.ref (ad 0)] (xw cI ad (nI N) (nI (x_wn f1 N)) (nI (x_tcn f0 f1 f2 (x_wp f1 f3 N) (x_wn f1 N))) pa pe f0 f1 f2 (x_wp f1 f3 N) (x_wh f0 f1 f2 (x_wp f1 f3 N) f4 (x_wn f1 N))) := by
  refine m_startV (cc := cX0_recount) (maxL := 2) (by decide) rfl (Nat.le_of_ble_eq_true rfl) ?_
  intro p e s m below meth c A hx hb hml hr hts hown hlocks hK hA H locs ls hP hD hS hl
  have hin : ∀ w ∈ wsX00, w ∈ wsX0_recount := by decide +kernel
  have hl : lv_has ls 2 [(0, .ref (ad 0))] := hl
  have hwle := x_wn_le f1 N
  refine lv_aload_n hx hb dX0_recount_0 rfl (lv_at hl 0 rfl) ?_
  refine lv_iconst (v := 0) hx hb dX0_recount_1 (by decide) ?_
  refine va_put (D := D) (ci := 0) (v := .int 0) (ty := .int) (C := RX0) (T := TX0) (N := 10) hx hb hts hin tyX0 tyX0_ok nmX0 hown hK hP hD hS 0 rfl rfl 6 (by decide) (hts (.fieldLink RX0 116 "SplicedTalk" "wordCount" "I") (by decide +kernel)) (fun _ h9 => h9) rfl (by decide +kernel) rfl rfl (Nat.le_of_ble_eq_true rfl) dX0_recount_2 (fun H locs hP hD hS => ?_)
  have hP : va_P D vwCl (xw cI ad (nI N) 0 t pa pe f0 f1 f2 f3 f4) H := hP
  have hD : va_D A (xw cI ad (nI N) 0 t pa pe f0 f1 f2 f3 f4) := q_Dcong hD rfl
  refine lv_iconst (v := 0) hx hb dX0_recount_5 (by decide) ?_
  refine lv_istore_n (lv' := [(1, .int 0), (0, .ref (ad 0))]) hx hb dX0_recount_6 rfl hl (by decide) rfl (fun ls hl => ?_)
  have lo_7 : ∀ (fu i : Nat), N - i < fu → i ≤ N → ∀ (H : Heap) (locs : List Loc) (ls : Array Slot), va_P D vwCl (xw cI ad (nI N) (nI (x_wn f1 i)) t pa pe f0 f1 f2 (x_wp f1 f3 i) f4) H → va_S A s.heap H locs → lv_has ls 2 [(1, .int (nI i)), (0, .ref (ad 0))] → W p l e ({ frames := 4, cells := 0, slots := 0, locals := 85 } : Room) s m [.ref (ad 0)].toArray below meth c H locs 0 0 (m_EV D below [.ref (ad 0)].toArray s (xw cI ad (nI N) (nI (x_wn f1 N)) (nI (x_tcn f0 f1 f2 (x_wp f1 f3 N) (x_wn f1 N))) pa pe f0 f1 f2 (x_wp f1 f3 N) (x_wh f0 f1 f2 (x_wp f1 f3 N) f4 (x_wn f1 N))) A) (F0 m 7 ls []) := by
    intro fu
    induction fu with
    | zero => intro i hi; exact absurd hi (Nat.not_lt_zero _)
    | succ fu ih =>
      intro i hi hiN H locs ls hP hS hl
      have hD : va_D A (xw cI ad (nI N) (nI (x_wn f1 i)) t pa pe f0 f1 f2 (x_wp f1 f3 i) f4) := q_Dcong hD rfl
      refine lv_iload_n hx hb dX0_recount_7 rfl (lv_at hl 0 rfl) ?_
      refine lv_aload_n hx hb dX0_recount_8 rfl (lv_at hl 1 rfl) ?_
      refine va_get (D := D) (ci := 0) (v := .int (nI N)) (C := RX0) (T := TX0) (N := 10) hx hb hts hin hown hK hP 0 rfl rfl 3 (by decide) (hts (.fieldLink RX0 69 "SplicedTalk" "remarkCount" "I") (by decide +kernel)) (fun _ h9 => h9) rfl dX0_recount_9 ?_
      refine lv_icmp_ge (tgt := 51) hx hb dX0_recount_12 (by decide) (fun c_12 => ?_) (fun c_12 => ?_)
      · have hi9 := nI_ge' hiN (by omega) c_12
        rw [hi9] at hP
        have hD : va_D A (xw cI ad (nI N) (nI (x_wn f1 N)) t pa pe f0 f1 f2 (x_wp f1 f3 N) f4) := q_Dcong hD rfl
        refine lv_aload_n hx hb dX0_recount_51 rfl (lv_at hl 1 rfl) ?_
        refine lv_iconst (v := 0) hx hb dX0_recount_52 (by decide) ?_
        refine va_put (D := D) (ci := 0) (v := .int 0) (ty := .int) (C := RX0) (T := TX0) (N := 10) hx hb hts hin tyX0 tyX0_ok nmX0 hown hK hP hD hS 0 rfl rfl 7 (by decide) (hts (.fieldLink RX0 86 "SplicedTalk" "threadCount" "I") (by decide +kernel)) (fun _ h9 => h9) rfl (by decide +kernel) rfl rfl (Nat.le_of_ble_eq_true rfl) dX0_recount_53 (fun H locs hP hD hS => ?_)
        have hP : va_P D vwCl (xw cI ad (nI N) (nI (x_wn f1 N)) 0 pa pe f0 f1 f2 (x_wp f1 f3 N) f4) H := hP
        have hD : va_D A (xw cI ad (nI N) (nI (x_wn f1 N)) 0 pa pe f0 f1 f2 (x_wp f1 f3 N) f4) := q_Dcong hD rfl
        refine lv_iconst (v := 0) hx hb dX0_recount_56 (by decide) ?_
        refine lv_istore_n (lv' := [(1, .int 0), (0, .ref (ad 0))]) hx hb dX0_recount_57 rfl hl (by decide) rfl (fun ls hl => ?_)
        have lo_58 : ∀ (fu i : Nat), (x_wn f1 N) - i < fu → i ≤ (x_wn f1 N) → ∀ (H : Heap) (locs : List Loc) (ls : Array Slot), va_P D vwCl (xw cI ad (nI N) (nI (x_wn f1 N)) (nI (x_tcn f0 f1 f2 (x_wp f1 f3 N) i)) pa pe f0 f1 f2 (x_wp f1 f3 N) (x_wh f0 f1 f2 (x_wp f1 f3 N) f4 i)) H → va_S A s.heap H locs → lv_has ls 2 [(1, .int (nI i)), (0, .ref (ad 0))] → W p l e ({ frames := 4, cells := 0, slots := 0, locals := 85 } : Room) s m [.ref (ad 0)].toArray below meth c H locs 0 0 (m_EV D below [.ref (ad 0)].toArray s (xw cI ad (nI N) (nI (x_wn f1 N)) (nI (x_tcn f0 f1 f2 (x_wp f1 f3 N) (x_wn f1 N))) pa pe f0 f1 f2 (x_wp f1 f3 N) (x_wh f0 f1 f2 (x_wp f1 f3 N) f4 (x_wn f1 N))) A) (F0 m 58 ls []) := by
          intro fu
          induction fu with
          | zero => intro i hi; exact absurd hi (Nat.not_lt_zero _)
          | succ fu ih =>
            intro i hi hiN H locs ls hP hS hl
            have hD : va_D A (xw cI ad (nI N) (nI (x_wn f1 N)) (nI (x_tcn f0 f1 f2 (x_wp f1 f3 N) i)) pa pe f0 f1 f2 (x_wp f1 f3 N) (x_wh f0 f1 f2 (x_wp f1 f3 N) f4 i)) := q_Dcong hD rfl
            refine lv_iload_n hx hb dX0_recount_58 rfl (lv_at hl 0 rfl) ?_
            refine lv_aload_n hx hb dX0_recount_59 rfl (lv_at hl 1 rfl) ?_
            refine va_get (D := D) (ci := 0) (v := .int (nI (x_wn f1 N))) (C := RX0) (T := TX0) (N := 10) hx hb hts hin hown hK hP 0 rfl rfl 6 (by decide) (hts (.fieldLink RX0 116 "SplicedTalk" "wordCount" "I") (by decide +kernel)) (fun _ h9 => h9) rfl dX0_recount_60 ?_
            refine lv_icmp_ge (tgt := 111) hx hb dX0_recount_63 (by decide) (fun c_63 => ?_) (fun c_63 => ?_)
            · have hi9 := nI_ge' hiN (by omega) c_63
              rw [hi9] at hP
              have hD : va_D A (xw cI ad (nI N) (nI (x_wn f1 N)) (nI (x_tcn f0 f1 f2 (x_wp f1 f3 N) (x_wn f1 N))) pa pe f0 f1 f2 (x_wp f1 f3 N) (x_wh f0 f1 f2 (x_wp f1 f3 N) f4 (x_wn f1 N))) := q_Dcong hD rfl
              exact m_retV hx hb hr hlocks hS hP dX0_recount_111
            · have hi9 := nI_lt' hiN (by omega) c_63
              refine lv_iload_n hx hb dX0_recount_66 rfl (lv_at hl 0 rfl) ?_
              refine lv_if_eq (tgt := 81) hx hb dX0_recount_67 (by decide) (fun c_67 => ?_) (fun c_67 => ?_)
              · refine lv_aload_n hx hb dX0_recount_81 rfl (lv_at hl 1 rfl) ?_
                refine lv_dup hx hb dX0_recount_82 rfl ?_
                refine va_get (D := D) (ci := 0) (v := .int (nI (x_tcn f0 f1 f2 (x_wp f1 f3 N) i))) (C := RX0) (T := TX0) (N := 10) hx hb hts hin hown hK hP 0 rfl rfl 7 (by decide) (hts (.fieldLink RX0 86 "SplicedTalk" "threadCount" "I") (by decide +kernel)) (fun _ h9 => h9) rfl dX0_recount_83 ?_
                refine lv_iconst (v := 1) hx hb dX0_recount_86 (by decide) ?_
                refine lv_iadd hx hb dX0_recount_87 ?_
                refine va_put (D := D) (ci := 0) (v := .int ((nI (x_tcn f0 f1 f2 (x_wp f1 f3 N) i)) + 1)) (ty := .int) (C := RX0) (T := TX0) (N := 10) hx hb hts hin tyX0 tyX0_ok nmX0 hown hK hP hD hS 0 rfl rfl 7 (by decide) (hts (.fieldLink RX0 86 "SplicedTalk" "threadCount" "I") (by decide +kernel)) (fun _ h9 => h9) rfl (by decide +kernel) rfl rfl (Nat.le_of_ble_eq_true rfl) dX0_recount_88 (fun H locs hP hD hS => ?_)
                have hP : va_P D vwCl (xw cI ad (nI N) (nI (x_wn f1 N)) ((nI (x_tcn f0 f1 f2 (x_wp f1 f3 N) i)) + 1) pa pe f0 f1 f2 (x_wp f1 f3 N) (x_wh f0 f1 f2 (x_wp f1 f3 N) f4 i)) H := hP
                have hD : va_D A (xw cI ad (nI N) (nI (x_wn f1 N)) ((nI (x_tcn f0 f1 f2 (x_wp f1 f3 N) i)) + 1) pa pe f0 f1 f2 (x_wp f1 f3 N) (x_wh f0 f1 f2 (x_wp f1 f3 N) f4 i)) := q_Dcong hD rfl
                refine lv_aload_n hx hb dX0_recount_91 rfl (lv_at hl 1 rfl) ?_
                refine va_get (D := D) (ci := 0) (v := .ref (ad 5)) (C := RX0) (T := TX0) (N := 10) hx hb hts hin hown hK hP 0 rfl rfl 5 (by decide) (hts (.fieldLink RX0 22 "SplicedTalk" "wordThreads" "[I") (by decide +kernel)) (fun _ h9 => h9) rfl dX0_recount_92 ?_
                refine lv_iload_n hx hb dX0_recount_95 rfl (lv_at hl 0 rfl) ?_
                refine lv_aload_n hx hb dX0_recount_96 rfl (lv_at hl 1 rfl) ?_
                refine va_get (D := D) (ci := 0) (v := .int ((nI (x_tcn f0 f1 f2 (x_wp f1 f3 N) i)) + 1)) (C := RX0) (T := TX0) (N := 10) hx hb hts hin hown hK hP 0 rfl rfl 7 (by decide) (hts (.fieldLink RX0 86 "SplicedTalk" "threadCount" "I") (by decide +kernel)) (fun _ h9 => h9) rfl dX0_recount_97 ?_
                refine lv_iconst (v := 1) hx hb dX0_recount_100 (by decide) ?_
                refine lv_isub hx hb dX0_recount_101 ?_
                refine m_callS (As := [.ref (ad 5), .int (nI i), .int (((nI (x_tcn f0 f1 f2 (x_wp f1 f3 N) i)) + 1) - 1)]) (rest := []) (Wr := [(ad 0, .inr (0, [.ref (ad 1), .ref (ad 2), .ref (ad 3), .int (nI N), .ref (ad 4), .ref (ad 5), .int (nI (x_wn f1 N)), .int ((nI (x_tcn f0 f1 f2 (x_wp f1 f3 N) i)) + 1), .int pa, .int pe])), (ad 1, .inl (cI, 24, .inl f0)), (ad 2, .inl (cI, 24, .inl f1)), (ad 3, .inl (cI, 24, .inl f2)), (ad 4, .inl (cI, 24, .inl (x_wp f1 f3 N)))]) (W2 := (xw cI ad (nI N) (nI (x_wn f1 N)) ((nI (x_tcn f0 f1 f2 (x_wp f1 f3 N) i)) + 1) pa pe f0 f1 f2 (x_wp f1 f3 N) (wr (x_wh f0 f1 f2 (x_wp f1 f3 N) f4 i) (nI i) (((nI (x_tcn f0 f1 f2 (x_wp f1 f3 N) i)) + 1) - 1)))) ⟨hx, hb, hml, hown, hts⟩ (c_X0_write l D cI (ad 5) (x_wh f0 f1 f2 (x_wp f1 f3 N) f4 i) (nI i) (((nI (x_tcn f0 f1 f2 (x_wp f1 f3 N) i)) + 1) - 1)) (va_cwS 3 hts gX0_recount_X0_write rfl rfl rfl ks_X0_write ⟨Nat.le_of_ble_eq_true rfl, Nat.le_of_ble_eq_true rfl⟩) hP hD hK hA [5] [0, 1, 2, 3, 4] [0, 1, 2, 3, 4, 5] rfl rfl rfl rfl rfl (by decide) rfl rfl rfl hl.1 rfl (Nat.le_of_ble_eq_true rfl) dX0_recount_102 (Nat.zero_le _) (Nat.zero_le _) hS (fun H locs hP hS => ?_)
                have hD : va_D A (xw cI ad (nI N) (nI (x_wn f1 N)) ((nI (x_tcn f0 f1 f2 (x_wp f1 f3 N) i)) + 1) pa pe f0 f1 f2 (x_wp f1 f3 N) (wr (x_wh f0 f1 f2 (x_wp f1 f3 N) f4 i) (nI i) (((nI (x_tcn f0 f1 f2 (x_wp f1 f3 N) i)) + 1) - 1))) := q_Dcong hD rfl
                refine lv_iinc (v := ((nI i) + 1)) (lv' := [(1, .int ((nI i) + 1)), (0, .ref (ad 0))]) hx hb dX0_recount_105 hl (k := 0) rfl (by rfl) (by decide) rfl (fun ls hl => ?_)
                refine lv_goto (tgt := 58) hx hb dX0_recount_108 (by decide) ?_
                have e_1 : (((nI i) + 1) : Int32) = (nI (i + 1)) := nI_1 i
                exact ih (i + 1) (by omega) (by omega) H locs ls (by rw [x_wh_s, x_tcn_1 c_67, ← nI_1]; exact hP) hS (lv_eq (lv_sub (l' := [(1, .int ((nI i) + 1)), (0, .ref (ad 0))]) hl [0, 1] rfl) (by rw [e_1]))
              · refine lv_aload_n hx hb dX0_recount_70 rfl (lv_at hl 1 rfl) ?_
                refine lv_iload_n hx hb dX0_recount_71 rfl (lv_at hl 0 rfl) ?_
                refine lv_iconst (v := 1) hx hb dX0_recount_72 (by decide) ?_
                refine lv_isub hx hb dX0_recount_73 ?_
                refine q_callV (As := [.int ((nI i) - 1)]) (rest := []) ⟨hx, hb, hml, hown, hts⟩ (c_X0_kindOfGap l D cI ad (nI N) (nI (x_wn f1 N)) (nI (x_tcn f0 f1 f2 (x_wp f1 f3 N) i)) pa pe f0 f1 f2 (x_wp f1 f3 N) (x_wh f0 f1 f2 (x_wp f1 f3 N) f4 i) ((nI i) - 1)) (cwV 1 hts gX0_recount_X0_kindOfGap rfl rfl rfl kv_X0_kindOfGap ⟨Nat.le_of_ble_eq_true rfl, Nat.le_of_ble_eq_true rfl⟩) (va_recv hK hP (ci := 0) (q0 := 0) rfl rfl) hP hK rfl hl.1 rfl (Nat.le_of_ble_eq_true rfl) dX0_recount_74 (Nat.zero_le _) (Nat.zero_le _) hS (fun H locs hsm hS => ?_)
                have hP := hsm.P hP
                refine lv_iconst (v := 2) hx hb dX0_recount_77 (by decide) ?_
                refine lv_icmp_ne (tgt := 91) hx hb dX0_recount_78 (by decide) (fun c_78 => ?_) (fun c_78 => ?_)
                · refine lv_aload_n hx hb dX0_recount_91 rfl (lv_at hl 1 rfl) ?_
                  refine va_get (D := D) (ci := 0) (v := .ref (ad 5)) (C := RX0) (T := TX0) (N := 10) hx hb hts hin hown hK hP 0 rfl rfl 5 (by decide) (hts (.fieldLink RX0 22 "SplicedTalk" "wordThreads" "[I") (by decide +kernel)) (fun _ h9 => h9) rfl dX0_recount_92 ?_
                  refine lv_iload_n hx hb dX0_recount_95 rfl (lv_at hl 0 rfl) ?_
                  refine lv_aload_n hx hb dX0_recount_96 rfl (lv_at hl 1 rfl) ?_
                  refine va_get (D := D) (ci := 0) (v := .int (nI (x_tcn f0 f1 f2 (x_wp f1 f3 N) i))) (C := RX0) (T := TX0) (N := 10) hx hb hts hin hown hK hP 0 rfl rfl 7 (by decide) (hts (.fieldLink RX0 86 "SplicedTalk" "threadCount" "I") (by decide +kernel)) (fun _ h9 => h9) rfl dX0_recount_97 ?_
                  refine lv_iconst (v := 1) hx hb dX0_recount_100 (by decide) ?_
                  refine lv_isub hx hb dX0_recount_101 ?_
                  refine m_callS (As := [.ref (ad 5), .int (nI i), .int ((nI (x_tcn f0 f1 f2 (x_wp f1 f3 N) i)) - 1)]) (rest := []) (Wr := [(ad 0, .inr (0, [.ref (ad 1), .ref (ad 2), .ref (ad 3), .int (nI N), .ref (ad 4), .ref (ad 5), .int (nI (x_wn f1 N)), .int (nI (x_tcn f0 f1 f2 (x_wp f1 f3 N) i)), .int pa, .int pe])), (ad 1, .inl (cI, 24, .inl f0)), (ad 2, .inl (cI, 24, .inl f1)), (ad 3, .inl (cI, 24, .inl f2)), (ad 4, .inl (cI, 24, .inl (x_wp f1 f3 N)))]) (W2 := (xw cI ad (nI N) (nI (x_wn f1 N)) (nI (x_tcn f0 f1 f2 (x_wp f1 f3 N) i)) pa pe f0 f1 f2 (x_wp f1 f3 N) (wr (x_wh f0 f1 f2 (x_wp f1 f3 N) f4 i) (nI i) ((nI (x_tcn f0 f1 f2 (x_wp f1 f3 N) i)) - 1)))) ⟨hx, hb, hml, hown, hts⟩ (c_X0_write l D cI (ad 5) (x_wh f0 f1 f2 (x_wp f1 f3 N) f4 i) (nI i) ((nI (x_tcn f0 f1 f2 (x_wp f1 f3 N) i)) - 1)) (va_cwS 3 hts gX0_recount_X0_write rfl rfl rfl ks_X0_write ⟨Nat.le_of_ble_eq_true rfl, Nat.le_of_ble_eq_true rfl⟩) hP hD hK hA [5] [0, 1, 2, 3, 4] [0, 1, 2, 3, 4, 5] rfl rfl rfl rfl rfl (by decide) rfl rfl rfl hl.1 rfl (Nat.le_of_ble_eq_true rfl) dX0_recount_102 (Nat.zero_le _) (Nat.zero_le _) hS (fun H locs hP hS => ?_)
                  have hD : va_D A (xw cI ad (nI N) (nI (x_wn f1 N)) (nI (x_tcn f0 f1 f2 (x_wp f1 f3 N) i)) pa pe f0 f1 f2 (x_wp f1 f3 N) (wr (x_wh f0 f1 f2 (x_wp f1 f3 N) f4 i) (nI i) ((nI (x_tcn f0 f1 f2 (x_wp f1 f3 N) i)) - 1))) := q_Dcong hD rfl
                  refine lv_iinc (v := ((nI i) + 1)) (lv' := [(1, .int ((nI i) + 1)), (0, .ref (ad 0))]) hx hb dX0_recount_105 hl (k := 0) rfl (by rfl) (by decide) rfl (fun ls hl => ?_)
                  refine lv_goto (tgt := 58) hx hb dX0_recount_108 (by decide) ?_
                  have e_1 : (((nI i) + 1) : Int32) = (nI (i + 1)) := nI_1 i
                  exact ih (i + 1) (by omega) (by omega) H locs ls (by rw [x_wh_s, x_tcn_3 c_67 c_78]; exact hP) hS (lv_eq (lv_sub (l' := [(1, .int ((nI i) + 1)), (0, .ref (ad 0))]) hl [0, 1] rfl) (by rw [e_1]))
                · refine lv_aload_n hx hb dX0_recount_81 rfl (lv_at hl 1 rfl) ?_
                  refine lv_dup hx hb dX0_recount_82 rfl ?_
                  refine va_get (D := D) (ci := 0) (v := .int (nI (x_tcn f0 f1 f2 (x_wp f1 f3 N) i))) (C := RX0) (T := TX0) (N := 10) hx hb hts hin hown hK hP 0 rfl rfl 7 (by decide) (hts (.fieldLink RX0 86 "SplicedTalk" "threadCount" "I") (by decide +kernel)) (fun _ h9 => h9) rfl dX0_recount_83 ?_
                  refine lv_iconst (v := 1) hx hb dX0_recount_86 (by decide) ?_
                  refine lv_iadd hx hb dX0_recount_87 ?_
                  refine va_put (D := D) (ci := 0) (v := .int ((nI (x_tcn f0 f1 f2 (x_wp f1 f3 N) i)) + 1)) (ty := .int) (C := RX0) (T := TX0) (N := 10) hx hb hts hin tyX0 tyX0_ok nmX0 hown hK hP hD hS 0 rfl rfl 7 (by decide) (hts (.fieldLink RX0 86 "SplicedTalk" "threadCount" "I") (by decide +kernel)) (fun _ h9 => h9) rfl (by decide +kernel) rfl rfl (Nat.le_of_ble_eq_true rfl) dX0_recount_88 (fun H locs hP hD hS => ?_)
                  have hP : va_P D vwCl (xw cI ad (nI N) (nI (x_wn f1 N)) ((nI (x_tcn f0 f1 f2 (x_wp f1 f3 N) i)) + 1) pa pe f0 f1 f2 (x_wp f1 f3 N) (x_wh f0 f1 f2 (x_wp f1 f3 N) f4 i)) H := hP
                  have hD : va_D A (xw cI ad (nI N) (nI (x_wn f1 N)) ((nI (x_tcn f0 f1 f2 (x_wp f1 f3 N) i)) + 1) pa pe f0 f1 f2 (x_wp f1 f3 N) (x_wh f0 f1 f2 (x_wp f1 f3 N) f4 i)) := q_Dcong hD rfl
                  refine lv_aload_n hx hb dX0_recount_91 rfl (lv_at hl 1 rfl) ?_
                  refine va_get (D := D) (ci := 0) (v := .ref (ad 5)) (C := RX0) (T := TX0) (N := 10) hx hb hts hin hown hK hP 0 rfl rfl 5 (by decide) (hts (.fieldLink RX0 22 "SplicedTalk" "wordThreads" "[I") (by decide +kernel)) (fun _ h9 => h9) rfl dX0_recount_92 ?_
                  refine lv_iload_n hx hb dX0_recount_95 rfl (lv_at hl 0 rfl) ?_
                  refine lv_aload_n hx hb dX0_recount_96 rfl (lv_at hl 1 rfl) ?_
                  refine va_get (D := D) (ci := 0) (v := .int ((nI (x_tcn f0 f1 f2 (x_wp f1 f3 N) i)) + 1)) (C := RX0) (T := TX0) (N := 10) hx hb hts hin hown hK hP 0 rfl rfl 7 (by decide) (hts (.fieldLink RX0 86 "SplicedTalk" "threadCount" "I") (by decide +kernel)) (fun _ h9 => h9) rfl dX0_recount_97 ?_
                  refine lv_iconst (v := 1) hx hb dX0_recount_100 (by decide) ?_
                  refine lv_isub hx hb dX0_recount_101 ?_
                  refine m_callS (As := [.ref (ad 5), .int (nI i), .int (((nI (x_tcn f0 f1 f2 (x_wp f1 f3 N) i)) + 1) - 1)]) (rest := []) (Wr := [(ad 0, .inr (0, [.ref (ad 1), .ref (ad 2), .ref (ad 3), .int (nI N), .ref (ad 4), .ref (ad 5), .int (nI (x_wn f1 N)), .int ((nI (x_tcn f0 f1 f2 (x_wp f1 f3 N) i)) + 1), .int pa, .int pe])), (ad 1, .inl (cI, 24, .inl f0)), (ad 2, .inl (cI, 24, .inl f1)), (ad 3, .inl (cI, 24, .inl f2)), (ad 4, .inl (cI, 24, .inl (x_wp f1 f3 N)))]) (W2 := (xw cI ad (nI N) (nI (x_wn f1 N)) ((nI (x_tcn f0 f1 f2 (x_wp f1 f3 N) i)) + 1) pa pe f0 f1 f2 (x_wp f1 f3 N) (wr (x_wh f0 f1 f2 (x_wp f1 f3 N) f4 i) (nI i) (((nI (x_tcn f0 f1 f2 (x_wp f1 f3 N) i)) + 1) - 1)))) ⟨hx, hb, hml, hown, hts⟩ (c_X0_write l D cI (ad 5) (x_wh f0 f1 f2 (x_wp f1 f3 N) f4 i) (nI i) (((nI (x_tcn f0 f1 f2 (x_wp f1 f3 N) i)) + 1) - 1)) (va_cwS 3 hts gX0_recount_X0_write rfl rfl rfl ks_X0_write ⟨Nat.le_of_ble_eq_true rfl, Nat.le_of_ble_eq_true rfl⟩) hP hD hK hA [5] [0, 1, 2, 3, 4] [0, 1, 2, 3, 4, 5] rfl rfl rfl rfl rfl (by decide) rfl rfl rfl hl.1 rfl (Nat.le_of_ble_eq_true rfl) dX0_recount_102 (Nat.zero_le _) (Nat.zero_le _) hS (fun H locs hP hS => ?_)
                  have hD : va_D A (xw cI ad (nI N) (nI (x_wn f1 N)) ((nI (x_tcn f0 f1 f2 (x_wp f1 f3 N) i)) + 1) pa pe f0 f1 f2 (x_wp f1 f3 N) (wr (x_wh f0 f1 f2 (x_wp f1 f3 N) f4 i) (nI i) (((nI (x_tcn f0 f1 f2 (x_wp f1 f3 N) i)) + 1) - 1))) := q_Dcong hD rfl
                  refine lv_iinc (v := ((nI i) + 1)) (lv' := [(1, .int ((nI i) + 1)), (0, .ref (ad 0))]) hx hb dX0_recount_105 hl (k := 0) rfl (by rfl) (by decide) rfl (fun ls hl => ?_)
                  refine lv_goto (tgt := 58) hx hb dX0_recount_108 (by decide) ?_
                  have e_1 : (((nI i) + 1) : Int32) = (nI (i + 1)) := nI_1 i
                  exact ih (i + 1) (by omega) (by omega) H locs ls (by rw [x_wh_s, x_tcn_2 c_67 c_78, ← nI_1]; exact hP) hS (lv_eq (lv_sub (l' := [(1, .int ((nI i) + 1)), (0, .ref (ad 0))]) hl [0, 1] rfl) (by rw [e_1]))
        exact lo_58 ((x_wn f1 N) + 1) 0 (by omega) (by omega) H locs ls hP hS (lv_sub hl [0, 1] rfl)
      · have hi9 := nI_lt' hiN (by omega) c_12
        refine lv_aload_n hx hb dX0_recount_15 rfl (lv_at hl 1 rfl) ?_
        refine lv_iload_n hx hb dX0_recount_16 rfl (lv_at hl 0 rfl) ?_
        refine q_callV (As := [.int (nI i)]) (rest := []) ⟨hx, hb, hml, hown, hts⟩ (c_X0_coughStandsAt l D cI ad (nI N) (nI (x_wn f1 i)) t pa pe f0 f1 f2 (x_wp f1 f3 i) f4 (nI i)) (cwV 1 hts gX0_recount_X0_coughStandsAt rfl rfl rfl kv_X0_coughStandsAt ⟨Nat.le_of_ble_eq_true rfl, Nat.le_of_ble_eq_true rfl⟩) (va_recv hK hP (ci := 0) (q0 := 0) rfl rfl) hP hK rfl hl.1 rfl (Nat.le_of_ble_eq_true rfl) dX0_recount_17 (Nat.zero_le _) (Nat.zero_le _) hS (fun H locs hsm hS => ?_)
        have hP := hsm.P hP
        refine lv_if_ne (tgt := 45) hx hb dX0_recount_20 (by decide) (fun c_20 => ?_) (fun c_20 => ?_)
        · refine lv_iinc (v := ((nI i) + 1)) (lv' := [(1, .int ((nI i) + 1)), (0, .ref (ad 0))]) hx hb dX0_recount_45 hl (k := 0) rfl (by rfl) (by decide) rfl (fun ls hl => ?_)
          refine lv_goto (tgt := 7) hx hb dX0_recount_48 (by decide) ?_
          have e_1 : (((nI i) + 1) : Int32) = (nI (i + 1)) := nI_1 i
          exact ih (i + 1) (by omega) (by omega) H locs ls (by rw [x_wn_c (bI_n0.mp c_20), x_wp_c (bI_n0.mp c_20)]; exact hP) hS (lv_eq (lv_sub (l' := [(1, .int ((nI i) + 1)), (0, .ref (ad 0))]) hl [0, 1] rfl) (by rw [e_1]))
        · refine lv_aload_n hx hb dX0_recount_23 rfl (lv_at hl 1 rfl) ?_
          refine va_get (D := D) (ci := 0) (v := .ref (ad 4)) (C := RX0) (T := TX0) (N := 10) hx hb hts hin hown hK hP 0 rfl rfl 4 (by decide) (hts (.fieldLink RX0 19 "SplicedTalk" "wordPlaces" "[I") (by decide +kernel)) (fun _ h9 => h9) rfl dX0_recount_24 ?_
          refine lv_aload_n hx hb dX0_recount_27 rfl (lv_at hl 1 rfl) ?_
          refine va_get (D := D) (ci := 0) (v := .int (nI (x_wn f1 i))) (C := RX0) (T := TX0) (N := 10) hx hb hts hin hown hK hP 0 rfl rfl 6 (by decide) (hts (.fieldLink RX0 116 "SplicedTalk" "wordCount" "I") (by decide +kernel)) (fun _ h9 => h9) rfl dX0_recount_28 ?_
          refine lv_iload_n hx hb dX0_recount_31 rfl (lv_at hl 0 rfl) ?_
          refine m_callS (As := [.ref (ad 4), .int (nI (x_wn f1 i)), .int (nI i)]) (rest := []) (Wr := [(ad 0, .inr (0, [.ref (ad 1), .ref (ad 2), .ref (ad 3), .int (nI N), .ref (ad 4), .ref (ad 5), .int (nI (x_wn f1 i)), .int t, .int pa, .int pe])), (ad 1, .inl (cI, 24, .inl f0)), (ad 2, .inl (cI, 24, .inl f1)), (ad 3, .inl (cI, 24, .inl f2)), (ad 5, .inl (cI, 24, .inl f4))]) (W2 := (xw cI ad (nI N) (nI (x_wn f1 i)) t pa pe f0 f1 f2 (wr (x_wp f1 f3 i) (nI (x_wn f1 i)) (nI i)) f4)) ⟨hx, hb, hml, hown, hts⟩ (c_X0_write l D cI (ad 4) (x_wp f1 f3 i) (nI (x_wn f1 i)) (nI i)) (va_cwS 3 hts gX0_recount_X0_write rfl rfl rfl ks_X0_write ⟨Nat.le_of_ble_eq_true rfl, Nat.le_of_ble_eq_true rfl⟩) hP hD hK hA [4] [0, 1, 2, 3, 5] [0, 1, 2, 3, 5, 4] rfl rfl rfl rfl rfl (by decide) rfl rfl rfl hl.1 rfl (Nat.le_of_ble_eq_true rfl) dX0_recount_32 (Nat.zero_le _) (Nat.zero_le _) hS (fun H locs hP hS => ?_)
          have hD : va_D A (xw cI ad (nI N) (nI (x_wn f1 i)) t pa pe f0 f1 f2 (wr (x_wp f1 f3 i) (nI (x_wn f1 i)) (nI i)) f4) := q_Dcong hD rfl
          refine lv_aload_n hx hb dX0_recount_35 rfl (lv_at hl 1 rfl) ?_
          refine lv_dup hx hb dX0_recount_36 rfl ?_
          refine va_get (D := D) (ci := 0) (v := .int (nI (x_wn f1 i))) (C := RX0) (T := TX0) (N := 10) hx hb hts hin hown hK hP 0 rfl rfl 6 (by decide) (hts (.fieldLink RX0 116 "SplicedTalk" "wordCount" "I") (by decide +kernel)) (fun _ h9 => h9) rfl dX0_recount_37 ?_
          refine lv_iconst (v := 1) hx hb dX0_recount_40 (by decide) ?_
          refine lv_iadd hx hb dX0_recount_41 ?_
          refine va_put (D := D) (ci := 0) (v := .int ((nI (x_wn f1 i)) + 1)) (ty := .int) (C := RX0) (T := TX0) (N := 10) hx hb hts hin tyX0 tyX0_ok nmX0 hown hK hP hD hS 0 rfl rfl 6 (by decide) (hts (.fieldLink RX0 116 "SplicedTalk" "wordCount" "I") (by decide +kernel)) (fun _ h9 => h9) rfl (by decide +kernel) rfl rfl (Nat.le_of_ble_eq_true rfl) dX0_recount_42 (fun H locs hP hD hS => ?_)
          have hP : va_P D vwCl (xw cI ad (nI N) ((nI (x_wn f1 i)) + 1) t pa pe f0 f1 f2 (wr (x_wp f1 f3 i) (nI (x_wn f1 i)) (nI i)) f4) H := hP
          have hD : va_D A (xw cI ad (nI N) ((nI (x_wn f1 i)) + 1) t pa pe f0 f1 f2 (wr (x_wp f1 f3 i) (nI (x_wn f1 i)) (nI i)) f4) := q_Dcong hD rfl
          refine lv_iinc (v := ((nI i) + 1)) (lv' := [(1, .int ((nI i) + 1)), (0, .ref (ad 0))]) hx hb dX0_recount_45 hl (k := 0) rfl (by rfl) (by decide) rfl (fun ls hl => ?_)
          refine lv_goto (tgt := 7) hx hb dX0_recount_48 (by decide) ?_
          have e_1 : (((nI i) + 1) : Int32) = (nI (i + 1)) := nI_1 i
          exact ih (i + 1) (by omega) (by omega) H locs ls (by rw [x_wn_w (bI_0.mp c_20), x_wp_w (bI_0.mp c_20), ← nI_1]; exact hP) hS (lv_eq (lv_sub (l' := [(1, .int ((nI i) + 1)), (0, .ref (ad 0))]) hl [0, 1] rfl) (by rw [e_1]))
  exact lo_7 (N + 1) 0 (by omega) (by omega) H locs ls hP hS (lv_sub hl [0, 1] rfl)

theorem kv_X0_append : yX0_append.cls = RX0 ∧ yX0_append.cls ≠ "java/lang/invoke/MethodHandle" ∧ yX0_append.cls ≠ "java/lang/invoke/VarHandle" ∧ (parseMethodDescriptor yX0_append.desc).map (fun d => d.parameters.length) = some 2 := by decide +kernel
theorem ks_X0_append : yX0_append.cls ≠ "java/lang/invoke/MethodHandle" ∧ yX0_append.cls ≠ "java/lang/invoke/VarHandle" ∧ (parseMethodDescriptor yX0_append.desc).map (fun d => d.parameters.length) = some 2 := kv_X0_append.2
set_option maxHeartbeats 4000000 in
set_option maxRecDepth 100000 in
theorem c_X0_append (l : Launch) (D : va_G) (cI : ClassId) (ad : Nat → Nat) (N : Nat) (w : Int32) (t : Int32) (pa pe : Int32) (f0 f1 f2 f3 f4 : Nat → Int32) (x1 : Int32) (x2 : Int32) (hN : N < 24) : m_I l yX0_append wsX0_append ({ frames := 5, cells := 0, slots := 0, locals := 106 } : Room) D ([(cI, .int)]) (xw cI ad (nI N) w t pa pe f0 f1 f2 f3 f4) [.ref (ad 0), .int x1, .int x2] (nI N) (xw cI ad (nI (N + 1)) (nI (x_wn (wr f1 (nI N) x2) (N + 1))) (nI (x_tcn (wr f0 (nI N) x1) (wr f1 (nI N) x2) (wr f2 (nI N) 0) (x_wp (wr f1 (nI N) x2) f3 (N + 1)) (x_wn (wr f1 (nI N) x2) (N + 1)))) pa pe (wr f0 (nI N) x1) (wr f1 (nI N) x2) (wr f2 (nI N) 0) (x_wp (wr f1 (nI N) x2) f3 (N + 1)) (x_wh (wr f0 (nI N) x1) (wr f1 (nI N) x2) (wr f2 (nI N) 0) (x_wp (wr f1 (nI N) x2) f3 (N + 1)) f4 (x_wn (wr f1 (nI N) x2) (N + 1)))) := by
  refine m_startI (cc := cX0_append) (maxL := 4) (rt := .int) (by decide) rfl (Nat.le_of_ble_eq_true rfl) ?_
  intro p e s m below meth c A hx hb hml hr hts hown hlocks hK hA H locs ls hP hD hS hl
  have hin : ∀ w ∈ wsX00, w ∈ wsX0_append := by decide +kernel
  have hl : lv_has ls 4 [(0, .ref (ad 0)), (1, .int x1), (2, .int x2)] := hl
  refine lv_aload_n hx hb dX0_append_0 rfl (lv_at hl 0 rfl) ?_
  refine va_get (D := D) (ci := 0) (v := .int (nI N)) (C := RX0) (T := TX0) (N := 10) hx hb hts hin hown hK hP 0 rfl rfl 3 (by decide) (hts (.fieldLink RX0 69 "SplicedTalk" "remarkCount" "I") (by decide +kernel)) (fun _ h9 => h9) rfl dX0_append_1 ?_
  refine lv_istore_n (lv' := [(3, .int (nI N)), (0, .ref (ad 0)), (1, .int x1), (2, .int x2)]) hx hb dX0_append_4 rfl hl (by decide) rfl (fun ls hl => ?_)
  refine lv_aload_n hx hb dX0_append_5 rfl (lv_at hl 1 rfl) ?_
  refine lv_dup hx hb dX0_append_6 rfl ?_
  refine va_get (D := D) (ci := 0) (v := .int (nI N)) (C := RX0) (T := TX0) (N := 10) hx hb hts hin hown hK hP 0 rfl rfl 3 (by decide) (hts (.fieldLink RX0 69 "SplicedTalk" "remarkCount" "I") (by decide +kernel)) (fun _ h9 => h9) rfl dX0_append_7 ?_
  refine lv_iconst (v := 1) hx hb dX0_append_10 (by decide) ?_
  refine lv_iadd hx hb dX0_append_11 ?_
  refine va_put (D := D) (ci := 0) (v := .int ((nI N) + 1)) (ty := .int) (C := RX0) (T := TX0) (N := 10) hx hb hts hin tyX0 tyX0_ok nmX0 hown hK hP hD hS 0 rfl rfl 3 (by decide) (hts (.fieldLink RX0 69 "SplicedTalk" "remarkCount" "I") (by decide +kernel)) (fun _ h9 => h9) rfl (by decide +kernel) rfl rfl (Nat.le_of_ble_eq_true rfl) dX0_append_12 (fun H locs hP hD hS => ?_)
  have hP : va_P D vwCl (xw cI ad ((nI N) + 1) w t pa pe f0 f1 f2 f3 f4) H := hP
  have hD : va_D A (xw cI ad ((nI N) + 1) w t pa pe f0 f1 f2 f3 f4) := q_Dcong hD rfl
  rw [nI_1] at hP
  have hD : va_D A (xw cI ad (nI (N + 1)) w t pa pe f0 f1 f2 f3 f4) := q_Dcong hD rfl
  refine lv_aload_n hx hb dX0_append_15 rfl (lv_at hl 1 rfl) ?_
  refine lv_iload_n hx hb dX0_append_16 rfl (lv_at hl 0 rfl) ?_
  refine lv_iload_n hx hb dX0_append_17 rfl (lv_at hl 2 rfl) ?_
  refine lv_iload_n hx hb dX0_append_18 rfl (lv_at hl 3 rfl) ?_
  refine m_callV (As := [.int (nI N), .int x1, .int x2]) (rest := []) (Wr := []) (W2 := (xw cI ad (nI (N + 1)) w t pa pe (wr f0 (nI N) x1) (wr f1 (nI N) x2) (wr f2 (nI N) 0) f3 f4)) ⟨hx, hb, hml, hown, hts⟩ (c_X0_put l D cI ad (nI (N + 1)) w t pa pe f0 f1 f2 f3 f4 (nI N) x1 x2) (cwV 3 hts gX0_append_X0_put rfl rfl rfl kv_X0_put ⟨Nat.le_of_ble_eq_true rfl, Nat.le_of_ble_eq_true rfl⟩) (va_recv hK hP (ci := 0) (q0 := 0) rfl rfl) hP hD hK hA [0, 1, 2, 3, 4, 5] [] [0, 1, 2, 3, 4, 5] rfl rfl rfl rfl rfl (by decide) rfl rfl rfl hl.1 rfl (Nat.le_of_ble_eq_true rfl) dX0_append_19 (Nat.zero_le _) (Nat.zero_le _) hS (fun H locs hP hS => ?_)
  have hD : va_D A (xw cI ad (nI (N + 1)) w t pa pe (wr f0 (nI N) x1) (wr f1 (nI N) x2) (wr f2 (nI N) 0) f3 f4) := q_Dcong hD rfl
  refine lv_aload_n hx hb dX0_append_22 rfl (lv_at hl 1 rfl) ?_
  refine m_callV (As := []) (rest := []) (Wr := []) (W2 := (xw cI ad (nI (N + 1)) (nI (x_wn (wr f1 (nI N) x2) (N + 1))) (nI (x_tcn (wr f0 (nI N) x1) (wr f1 (nI N) x2) (wr f2 (nI N) 0) (x_wp (wr f1 (nI N) x2) f3 (N + 1)) (x_wn (wr f1 (nI N) x2) (N + 1)))) pa pe (wr f0 (nI N) x1) (wr f1 (nI N) x2) (wr f2 (nI N) 0) (x_wp (wr f1 (nI N) x2) f3 (N + 1)) (x_wh (wr f0 (nI N) x1) (wr f1 (nI N) x2) (wr f2 (nI N) 0) (x_wp (wr f1 (nI N) x2) f3 (N + 1)) f4 (x_wn (wr f1 (nI N) x2) (N + 1))))) ⟨hx, hb, hml, hown, hts⟩ (c_X0_recount l D cI ad (N + 1) w t pa pe (wr f0 (nI N) x1) (wr f1 (nI N) x2) (wr f2 (nI N) 0) f3 f4 (by omega)) (cwV 0 hts gX0_append_X0_recount rfl rfl rfl kv_X0_recount ⟨Nat.le_of_ble_eq_true rfl, Nat.le_of_ble_eq_true rfl⟩) (va_recv hK hP (ci := 0) (q0 := 0) rfl rfl) hP hD hK hA [0, 1, 2, 3, 4, 5] [] [0, 1, 2, 3, 4, 5] rfl rfl rfl rfl rfl (by decide) rfl rfl rfl hl.1 rfl (Nat.le_of_ble_eq_true rfl) dX0_append_23 (Nat.zero_le _) (Nat.zero_le _) hS (fun H locs hP hS => ?_)
  have hD : va_D A (xw cI ad (nI (N + 1)) (nI (x_wn (wr f1 (nI N) x2) (N + 1))) (nI (x_tcn (wr f0 (nI N) x1) (wr f1 (nI N) x2) (wr f2 (nI N) 0) (x_wp (wr f1 (nI N) x2) f3 (N + 1)) (x_wn (wr f1 (nI N) x2) (N + 1)))) pa pe (wr f0 (nI N) x1) (wr f1 (nI N) x2) (wr f2 (nI N) 0) (x_wp (wr f1 (nI N) x2) f3 (N + 1)) (x_wh (wr f0 (nI N) x1) (wr f1 (nI N) x2) (wr f2 (nI N) 0) (x_wp (wr f1 (nI N) x2) f3 (N + 1)) f4 (x_wn (wr f1 (nI N) x2) (N + 1)))) := q_Dcong hD rfl
  refine lv_iload_n hx hb dX0_append_26 rfl (lv_at hl 0 rfl) ?_
  exact m_retI hx hb hr hlocks hS hP rfl dX0_append_27
