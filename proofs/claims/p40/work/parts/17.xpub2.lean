/-! own rows, written by wip/whole/xpub2.py: the public methods of the class that write -/
theorem kv_X0_tie : yX0_tie.cls = RX0 ∧ yX0_tie.cls ≠ "java/lang/invoke/MethodHandle" ∧ yX0_tie.cls ≠ "java/lang/invoke/VarHandle" ∧ (parseMethodDescriptor yX0_tie.desc).map (fun d => d.parameters.length) = some 1 := by decide +kernel
theorem ks_X0_tie : yX0_tie.cls ≠ "java/lang/invoke/MethodHandle" ∧ yX0_tie.cls ≠ "java/lang/invoke/VarHandle" ∧ (parseMethodDescriptor yX0_tie.desc).map (fun d => d.parameters.length) = some 1 := kv_X0_tie.2
set_option maxHeartbeats 4000000 in
set_option maxRecDepth 100000 in
theorem c_X0_tie (l : Launch) (D : va_G) (cI : ClassId) (ad : Nat → Nat) (N : Nat) (w : Int32) (t : Int32) (pa pe : Int32) (f0 f1 f2 f3 f4 : Nat → Int32) (x1 : Int32) (h1a : ¬ x1 < 0) (h1b : x1 < (x_gc w)) (h2a : x_ti f2 f3 x1 = false) (h3a : 3 ≤ pa) (hN : N ≤ 24) : m_I l yX0_tie wsX0_tie ({ frames := 5, cells := 0, slots := 0, locals := 106 } : Room) D ([(cI, .int)]) (xw cI ad (nI N) w t pa pe f0 f1 f2 f3 f4) [.ref (ad 0), .int x1] (nI (x_tcn f0 f1 (wr f2 (rd f3 x1) 1) (x_wp f1 f3 N) (x_wn f1 N))) (xw cI ad (nI N) (nI (x_wn f1 N)) (nI (x_tcn f0 f1 (wr f2 (rd f3 x1) 1) (x_wp f1 f3 N) (x_wn f1 N))) (pa - 3) (pe + 3) f0 f1 (wr f2 (rd f3 x1) 1) (x_wp f1 f3 N) (x_wh f0 f1 (wr f2 (rd f3 x1) 1) (x_wp f1 f3 N) f4 (x_wn f1 N))) := by
  refine m_startI (cc := cX0_tie) (maxL := 2) (rt := .int) (by decide) rfl (Nat.le_of_ble_eq_true rfl) ?_
  intro p e s m below meth c A hx hb hml hr hts hown hlocks hK hA H locs ls hP hD hS hl
  have hin : ∀ w ∈ wsX00, w ∈ wsX0_tie := by decide +kernel
  have hl : lv_has ls 2 [(0, .ref (ad 0)), (1, .int x1)] := hl
  refine lv_aload_n hx hb dX0_tie_0 rfl (lv_at hl 0 rfl) ?_
  refine lv_iload_n hx hb dX0_tie_1 rfl (lv_at hl 1 rfl) ?_
  refine q_callVV (As := [.int x1]) (rest := []) ⟨hx, hb, hml, hown, hts⟩ (c_X0_requireGap l D cI ad (nI N) w t pa pe f0 f1 f2 f3 f4 x1 h1a h1b) (cwV 1 hts gX0_tie_X0_requireGap rfl rfl rfl kv_X0_requireGap ⟨Nat.le_of_ble_eq_true rfl, Nat.le_of_ble_eq_true rfl⟩) (va_recv hK hP (ci := 0) (q0 := 0) rfl rfl) hP hK rfl hl.1 rfl (Nat.le_of_ble_eq_true rfl) dX0_tie_2 (Nat.zero_le _) (Nat.zero_le _) hS (fun H locs hsm hS => ?_)
  have hP := hsm.P hP
  refine lv_aload_n hx hb dX0_tie_5 rfl (lv_at hl 0 rfl) ?_
  refine lv_iload_n hx hb dX0_tie_6 rfl (lv_at hl 1 rfl) ?_
  refine q_callVV (As := [.int x1]) (rest := []) ⟨hx, hb, hml, hown, hts⟩ (c_X0_requireUntied l D cI ad (nI N) w t pa pe f0 f1 f2 f3 f4 x1 h2a) (cwV 1 hts gX0_tie_X0_requireUntied rfl rfl rfl kv_X0_requireUntied ⟨Nat.le_of_ble_eq_true rfl, Nat.le_of_ble_eq_true rfl⟩) (va_recv hK hP (ci := 0) (q0 := 0) rfl rfl) hP hK rfl hl.1 rfl (Nat.le_of_ble_eq_true rfl) dX0_tie_7 (Nat.zero_le _) (Nat.zero_le _) hS (fun H locs hsm hS => ?_)
  have hP := hsm.P hP
  refine lv_aload_n hx hb dX0_tie_10 rfl (lv_at hl 0 rfl) ?_
  refine lv_iconst (v := 3) hx hb dX0_tie_11 (by decide) ?_
  refine q_callVV (As := [.int 3]) (rest := []) ⟨hx, hb, hml, hown, hts⟩ (c_X0_requirePatience l D cI ad (nI N) w t pa pe f0 f1 f2 f3 f4 3 h3a) (cwV 1 hts gX0_tie_X0_requirePatience rfl rfl rfl kv_X0_requirePatience ⟨Nat.le_of_ble_eq_true rfl, Nat.le_of_ble_eq_true rfl⟩) (va_recv hK hP (ci := 0) (q0 := 0) rfl rfl) hP hK rfl hl.1 rfl (Nat.le_of_ble_eq_true rfl) dX0_tie_12 (Nat.zero_le _) (Nat.zero_le _) hS (fun H locs hsm hS => ?_)
  have hP := hsm.P hP
  refine lv_aload_n hx hb dX0_tie_15 rfl (lv_at hl 0 rfl) ?_
  refine lv_iconst (v := 3) hx hb dX0_tie_16 (by decide) ?_
  refine m_callV (As := [.int 3]) (rest := []) (Wr := []) (W2 := (xw cI ad (nI N) w t (pa - 3) (pe + 3) f0 f1 f2 f3 f4)) ⟨hx, hb, hml, hown, hts⟩ (c_X0_pay l D cI ad (nI N) w t pa pe f0 f1 f2 f3 f4 3) (cwV 1 hts gX0_tie_X0_pay rfl rfl rfl kv_X0_pay ⟨Nat.le_of_ble_eq_true rfl, Nat.le_of_ble_eq_true rfl⟩) (va_recv hK hP (ci := 0) (q0 := 0) rfl rfl) hP hD hK hA [0, 1, 2, 3, 4, 5] [] [0, 1, 2, 3, 4, 5] rfl rfl rfl rfl rfl (by decide) rfl rfl rfl hl.1 rfl (Nat.le_of_ble_eq_true rfl) dX0_tie_17 (Nat.zero_le _) (Nat.zero_le _) hS (fun H locs hP hS => ?_)
  have hD : va_D A (xw cI ad (nI N) w t (pa - 3) (pe + 3) f0 f1 f2 f3 f4) := q_Dcong hD rfl
  refine lv_aload_n hx hb dX0_tie_20 rfl (lv_at hl 0 rfl) ?_
  refine va_get (D := D) (ci := 0) (v := .ref (ad 3)) (C := RX0) (T := TX0) (N := 10) hx hb hts hin hown hK hP 0 rfl rfl 2 (by decide) (hts (.fieldLink RX0 16 "SplicedTalk" "ties" "[I") (by decide +kernel)) (fun _ h9 => h9) rfl dX0_tie_21 ?_
  refine lv_aload_n hx hb dX0_tie_24 rfl (lv_at hl 0 rfl) ?_
  refine va_get (D := D) (ci := 0) (v := .ref (ad 4)) (C := RX0) (T := TX0) (N := 10) hx hb hts hin hown hK hP 0 rfl rfl 4 (by decide) (hts (.fieldLink RX0 19 "SplicedTalk" "wordPlaces" "[I") (by decide +kernel)) (fun _ h9 => h9) rfl dX0_tie_25 ?_
  refine lv_iload_n hx hb dX0_tie_28 rfl (lv_at hl 1 rfl) ?_
  refine q_callS (As := [.ref (ad 4), .int x1]) (rest := [.ref (ad 3)]) ⟨hx, hb, hml, hown, hts⟩ (c_X0_read l D cI (ad 4) f3 x1) (va_cwS 2 hts gX0_tie_X0_read rfl rfl rfl ks_X0_read ⟨Nat.le_of_ble_eq_true rfl, Nat.le_of_ble_eq_true rfl⟩) (hP.sub [4] rfl) hK rfl hl.1 rfl (Nat.le_of_ble_eq_true rfl) dX0_tie_29 (Nat.zero_le _) (Nat.zero_le _) hS (fun H locs hsm hS => ?_)
  have hP := hsm.P hP
  refine lv_iconst (v := 1) hx hb dX0_tie_32 (by decide) ?_
  refine m_callS (As := [.ref (ad 3), .int (rd f3 x1), .int 1]) (rest := []) (Wr := [(ad 0, .inr (0, [.ref (ad 1), .ref (ad 2), .ref (ad 3), .int (nI N), .ref (ad 4), .ref (ad 5), .int w, .int t, .int (pa - 3), .int (pe + 3)])), (ad 1, .inl (cI, 24, .inl f0)), (ad 2, .inl (cI, 24, .inl f1)), (ad 4, .inl (cI, 24, .inl f3)), (ad 5, .inl (cI, 24, .inl f4))]) (W2 := (xw cI ad (nI N) w t (pa - 3) (pe + 3) f0 f1 (wr f2 (rd f3 x1) 1) f3 f4)) ⟨hx, hb, hml, hown, hts⟩ (c_X0_write l D cI (ad 3) f2 (rd f3 x1) 1) (va_cwS 3 hts gX0_tie_X0_write rfl rfl rfl ks_X0_write ⟨Nat.le_of_ble_eq_true rfl, Nat.le_of_ble_eq_true rfl⟩) hP hD hK hA [3] [0, 1, 2, 4, 5] [0, 1, 2, 5, 3, 4] rfl rfl rfl rfl rfl (by decide) rfl rfl rfl hl.1 rfl (Nat.le_of_ble_eq_true rfl) dX0_tie_33 (Nat.zero_le _) (Nat.zero_le _) hS (fun H locs hP hS => ?_)
  have hD : va_D A (xw cI ad (nI N) w t (pa - 3) (pe + 3) f0 f1 (wr f2 (rd f3 x1) 1) f3 f4) := q_Dcong hD rfl
  refine lv_aload_n hx hb dX0_tie_36 rfl (lv_at hl 0 rfl) ?_
  refine m_callV (As := []) (rest := []) (Wr := []) (W2 := (xw cI ad (nI N) (nI (x_wn f1 N)) (nI (x_tcn f0 f1 (wr f2 (rd f3 x1) 1) (x_wp f1 f3 N) (x_wn f1 N))) (pa - 3) (pe + 3) f0 f1 (wr f2 (rd f3 x1) 1) (x_wp f1 f3 N) (x_wh f0 f1 (wr f2 (rd f3 x1) 1) (x_wp f1 f3 N) f4 (x_wn f1 N)))) ⟨hx, hb, hml, hown, hts⟩ (c_X0_recount l D cI ad N w t (pa - 3) (pe + 3) f0 f1 (wr f2 (rd f3 x1) 1) f3 f4 hN) (cwV 0 hts gX0_tie_X0_recount rfl rfl rfl kv_X0_recount ⟨Nat.le_of_ble_eq_true rfl, Nat.le_of_ble_eq_true rfl⟩) (va_recv hK hP (ci := 0) (q0 := 0) rfl rfl) hP hD hK hA [0, 1, 2, 3, 4, 5] [] [0, 1, 2, 3, 4, 5] rfl rfl rfl rfl rfl (by decide) rfl rfl rfl hl.1 rfl (Nat.le_of_ble_eq_true rfl) dX0_tie_37 (Nat.zero_le _) (Nat.zero_le _) hS (fun H locs hP hS => ?_)
  have hD : va_D A (xw cI ad (nI N) (nI (x_wn f1 N)) (nI (x_tcn f0 f1 (wr f2 (rd f3 x1) 1) (x_wp f1 f3 N) (x_wn f1 N))) (pa - 3) (pe + 3) f0 f1 (wr f2 (rd f3 x1) 1) (x_wp f1 f3 N) (x_wh f0 f1 (wr f2 (rd f3 x1) 1) (x_wp f1 f3 N) f4 (x_wn f1 N))) := q_Dcong hD rfl
  refine lv_aload_n hx hb dX0_tie_40 rfl (lv_at hl 0 rfl) ?_
  refine va_get (D := D) (ci := 0) (v := .int (nI (x_tcn f0 f1 (wr f2 (rd f3 x1) 1) (x_wp f1 f3 N) (x_wn f1 N)))) (C := RX0) (T := TX0) (N := 10) hx hb hts hin hown hK hP 0 rfl rfl 7 (by decide) (hts (.fieldLink RX0 86 "SplicedTalk" "threadCount" "I") (by decide +kernel)) (fun _ h9 => h9) rfl dX0_tie_41 ?_
  exact m_retI hx hb hr hlocks hS hP rfl dX0_tie_44

theorem kv_X0_splice : yX0_splice.cls = RX0 ∧ yX0_splice.cls ≠ "java/lang/invoke/MethodHandle" ∧ yX0_splice.cls ≠ "java/lang/invoke/VarHandle" ∧ (parseMethodDescriptor yX0_splice.desc).map (fun d => d.parameters.length) = some 1 := by decide +kernel
theorem ks_X0_splice : yX0_splice.cls ≠ "java/lang/invoke/MethodHandle" ∧ yX0_splice.cls ≠ "java/lang/invoke/VarHandle" ∧ (parseMethodDescriptor yX0_splice.desc).map (fun d => d.parameters.length) = some 1 := kv_X0_splice.2
set_option maxHeartbeats 4000000 in
set_option maxRecDepth 100000 in
theorem c_X0_splice (l : Launch) (D : va_G) (cI : ClassId) (ad : Nat → Nat) (N : Nat) (w : Int32) (t : Int32) (pa pe : Int32) (f0 f1 f2 f3 f4 : Nat → Int32) (x1 : Int32) (h1a : ¬ x1 < 0) (h1b : x1 < (x_gc w)) (h2a : x_ti f2 f3 x1 = false) (h3a : (nI N) < 24) (h4a : 2 ≤ pa) (P : Nat) (hPe : rd f3 x1 + 1 = nI P) (hPN : P ≤ N) (hN : N < 24) : m_I l yX0_splice wsX0_splice ({ frames := 5, cells := 0, slots := 0, locals := 106 } : Room) D ([(cI, .int)]) (xw cI ad (nI N) w t pa pe f0 f1 f2 f3 f4) [.ref (ad 0), .int x1] (x_btw (x_tp f1 f3 x1) (x_tp f1 f3 (x1 + 1))) (xw cI ad (nI (N + 1)) (nI (x_wn (wr (x_mk f1 N (N - P)) (nI P) (x_btw (x_tp f1 f3 x1) (x_tp f1 f3 (x1 + 1)))) (N + 1))) (nI (x_tcn (wr (x_mk f0 N (N - P)) (nI P) (x_sp f0 f3 x1)) (wr (x_mk f1 N (N - P)) (nI P) (x_btw (x_tp f1 f3 x1) (x_tp f1 f3 (x1 + 1)))) (wr (x_mk f2 N (N - P)) (nI P) 0) (x_wp (wr (x_mk f1 N (N - P)) (nI P) (x_btw (x_tp f1 f3 x1) (x_tp f1 f3 (x1 + 1)))) f3 (N + 1)) (x_wn (wr (x_mk f1 N (N - P)) (nI P) (x_btw (x_tp f1 f3 x1) (x_tp f1 f3 (x1 + 1)))) (N + 1)))) (pa - 2) (pe + 2) (wr (x_mk f0 N (N - P)) (nI P) (x_sp f0 f3 x1)) (wr (x_mk f1 N (N - P)) (nI P) (x_btw (x_tp f1 f3 x1) (x_tp f1 f3 (x1 + 1)))) (wr (x_mk f2 N (N - P)) (nI P) 0) (x_wp (wr (x_mk f1 N (N - P)) (nI P) (x_btw (x_tp f1 f3 x1) (x_tp f1 f3 (x1 + 1)))) f3 (N + 1)) (x_wh (wr (x_mk f0 N (N - P)) (nI P) (x_sp f0 f3 x1)) (wr (x_mk f1 N (N - P)) (nI P) (x_btw (x_tp f1 f3 x1) (x_tp f1 f3 (x1 + 1)))) (wr (x_mk f2 N (N - P)) (nI P) 0) (x_wp (wr (x_mk f1 N (N - P)) (nI P) (x_btw (x_tp f1 f3 x1) (x_tp f1 f3 (x1 + 1)))) f3 (N + 1)) f4 (x_wn (wr (x_mk f1 N (N - P)) (nI P) (x_btw (x_tp f1 f3 x1) (x_tp f1 f3 (x1 + 1)))) (N + 1)))) := by
  refine m_startI (cc := cX0_splice) (maxL := 5) (rt := .int) (by decide) rfl (Nat.le_of_ble_eq_true rfl) ?_
  intro p e s m below meth c A hx hb hml hr hts hown hlocks hK hA H locs ls hP hD hS hl
  have hin : ∀ w ∈ wsX00, w ∈ wsX0_splice := by decide +kernel
  have hl : lv_has ls 5 [(0, .ref (ad 0)), (1, .int x1)] := hl
  refine lv_aload_n hx hb dX0_splice_0 rfl (lv_at hl 0 rfl) ?_
  refine lv_iload_n hx hb dX0_splice_1 rfl (lv_at hl 1 rfl) ?_
  refine q_callVV (As := [.int x1]) (rest := []) ⟨hx, hb, hml, hown, hts⟩ (c_X0_requireGap l D cI ad (nI N) w t pa pe f0 f1 f2 f3 f4 x1 h1a h1b) (cwV 1 hts gX0_splice_X0_requireGap rfl rfl rfl kv_X0_requireGap ⟨Nat.le_of_ble_eq_true rfl, Nat.le_of_ble_eq_true rfl⟩) (va_recv hK hP (ci := 0) (q0 := 0) rfl rfl) hP hK rfl hl.1 rfl (Nat.le_of_ble_eq_true rfl) dX0_splice_2 (Nat.zero_le _) (Nat.zero_le _) hS (fun H locs hsm hS => ?_)
  have hP := hsm.P hP
  refine lv_aload_n hx hb dX0_splice_5 rfl (lv_at hl 0 rfl) ?_
  refine lv_iload_n hx hb dX0_splice_6 rfl (lv_at hl 1 rfl) ?_
  refine q_callVV (As := [.int x1]) (rest := []) ⟨hx, hb, hml, hown, hts⟩ (c_X0_requireUntied l D cI ad (nI N) w t pa pe f0 f1 f2 f3 f4 x1 h2a) (cwV 1 hts gX0_splice_X0_requireUntied rfl rfl rfl kv_X0_requireUntied ⟨Nat.le_of_ble_eq_true rfl, Nat.le_of_ble_eq_true rfl⟩) (va_recv hK hP (ci := 0) (q0 := 0) rfl rfl) hP hK rfl hl.1 rfl (Nat.le_of_ble_eq_true rfl) dX0_splice_7 (Nat.zero_le _) (Nat.zero_le _) hS (fun H locs hsm hS => ?_)
  have hP := hsm.P hP
  refine lv_aload_n hx hb dX0_splice_10 rfl (lv_at hl 0 rfl) ?_
  refine q_callVV (As := []) (rest := []) ⟨hx, hb, hml, hown, hts⟩ (c_X0_requireRoom l D cI ad (nI N) w t pa pe f0 f1 f2 f3 f4 h3a) (cwV 0 hts gX0_splice_X0_requireRoom rfl rfl rfl kv_X0_requireRoom ⟨Nat.le_of_ble_eq_true rfl, Nat.le_of_ble_eq_true rfl⟩) (va_recv hK hP (ci := 0) (q0 := 0) rfl rfl) hP hK rfl hl.1 rfl (Nat.le_of_ble_eq_true rfl) dX0_splice_11 (Nat.zero_le _) (Nat.zero_le _) hS (fun H locs hsm hS => ?_)
  have hP := hsm.P hP
  refine lv_aload_n hx hb dX0_splice_14 rfl (lv_at hl 0 rfl) ?_
  refine lv_iconst (v := 2) hx hb dX0_splice_15 (by decide) ?_
  refine q_callVV (As := [.int 2]) (rest := []) ⟨hx, hb, hml, hown, hts⟩ (c_X0_requirePatience l D cI ad (nI N) w t pa pe f0 f1 f2 f3 f4 2 h4a) (cwV 1 hts gX0_splice_X0_requirePatience rfl rfl rfl kv_X0_requirePatience ⟨Nat.le_of_ble_eq_true rfl, Nat.le_of_ble_eq_true rfl⟩) (va_recv hK hP (ci := 0) (q0 := 0) rfl rfl) hP hK rfl hl.1 rfl (Nat.le_of_ble_eq_true rfl) dX0_splice_16 (Nat.zero_le _) (Nat.zero_le _) hS (fun H locs hsm hS => ?_)
  have hP := hsm.P hP
  refine lv_aload_n hx hb dX0_splice_19 rfl (lv_at hl 0 rfl) ?_
  refine lv_iconst (v := 2) hx hb dX0_splice_20 (by decide) ?_
  refine m_callV (As := [.int 2]) (rest := []) (Wr := []) (W2 := (xw cI ad (nI N) w t (pa - 2) (pe + 2) f0 f1 f2 f3 f4)) ⟨hx, hb, hml, hown, hts⟩ (c_X0_pay l D cI ad (nI N) w t pa pe f0 f1 f2 f3 f4 2) (cwV 1 hts gX0_splice_X0_pay rfl rfl rfl kv_X0_pay ⟨Nat.le_of_ble_eq_true rfl, Nat.le_of_ble_eq_true rfl⟩) (va_recv hK hP (ci := 0) (q0 := 0) rfl rfl) hP hD hK hA [0, 1, 2, 3, 4, 5] [] [0, 1, 2, 3, 4, 5] rfl rfl rfl rfl rfl (by decide) rfl rfl rfl hl.1 rfl (Nat.le_of_ble_eq_true rfl) dX0_splice_21 (Nat.zero_le _) (Nat.zero_le _) hS (fun H locs hP hS => ?_)
  have hD : va_D A (xw cI ad (nI N) w t (pa - 2) (pe + 2) f0 f1 f2 f3 f4) := q_Dcong hD rfl
  refine lv_aload_n hx hb dX0_splice_24 rfl (lv_at hl 0 rfl) ?_
  refine lv_iload_n hx hb dX0_splice_25 rfl (lv_at hl 1 rfl) ?_
  refine q_callV (As := [.int x1]) (rest := []) ⟨hx, hb, hml, hown, hts⟩ (c_X0_speakerOfWord l D cI ad (nI N) w t (pa - 2) (pe + 2) f0 f1 f2 f3 f4 x1) (cwV 1 hts gX0_splice_X0_speakerOfWord rfl rfl rfl kv_X0_speakerOfWord ⟨Nat.le_of_ble_eq_true rfl, Nat.le_of_ble_eq_true rfl⟩) (va_recv hK hP (ci := 0) (q0 := 0) rfl rfl) hP hK rfl hl.1 rfl (Nat.le_of_ble_eq_true rfl) dX0_splice_26 (Nat.zero_le _) (Nat.zero_le _) hS (fun H locs hsm hS => ?_)
  have hP := hsm.P hP
  refine lv_istore_n (lv' := [(2, .int (x_sp f0 f3 x1)), (0, .ref (ad 0)), (1, .int x1)]) hx hb dX0_splice_29 rfl hl (by decide) rfl (fun ls hl => ?_)
  refine lv_aload_n hx hb dX0_splice_30 rfl (lv_at hl 1 rfl) ?_
  refine lv_iload_n hx hb dX0_splice_31 rfl (lv_at hl 2 rfl) ?_
  refine q_callV (As := [.int x1]) (rest := []) ⟨hx, hb, hml, hown, hts⟩ (c_X0_topicOfWord l D cI ad (nI N) w t (pa - 2) (pe + 2) f0 f1 f2 f3 f4 x1) (cwV 1 hts gX0_splice_X0_topicOfWord rfl rfl rfl kv_X0_topicOfWord ⟨Nat.le_of_ble_eq_true rfl, Nat.le_of_ble_eq_true rfl⟩) (va_recv hK hP (ci := 0) (q0 := 0) rfl rfl) hP hK rfl hl.1 rfl (Nat.le_of_ble_eq_true rfl) dX0_splice_32 (Nat.zero_le _) (Nat.zero_le _) hS (fun H locs hsm hS => ?_)
  have hP := hsm.P hP
  refine lv_aload_n hx hb dX0_splice_35 rfl (lv_at hl 1 rfl) ?_
  refine lv_iload_n hx hb dX0_splice_36 rfl (lv_at hl 2 rfl) ?_
  refine lv_iconst (v := 1) hx hb dX0_splice_37 (by decide) ?_
  refine lv_iadd hx hb dX0_splice_38 ?_
  refine q_callV (As := [.int (x1 + 1)]) (rest := [.int (x_tp f1 f3 x1)]) ⟨hx, hb, hml, hown, hts⟩ (c_X0_topicOfWord l D cI ad (nI N) w t (pa - 2) (pe + 2) f0 f1 f2 f3 f4 (x1 + 1)) (cwV 1 hts gX0_splice_X0_topicOfWord rfl rfl rfl kv_X0_topicOfWord ⟨Nat.le_of_ble_eq_true rfl, Nat.le_of_ble_eq_true rfl⟩) (va_recv hK hP (ci := 0) (q0 := 0) rfl rfl) hP hK rfl hl.1 rfl (Nat.le_of_ble_eq_true rfl) dX0_splice_39 (Nat.zero_le _) (Nat.zero_le _) hS (fun H locs hsm hS => ?_)
  have hP := hsm.P hP
  refine q_callS (As := [.int (x_tp f1 f3 x1), .int (x_tp f1 f3 (x1 + 1))]) (rest := []) ⟨hx, hb, hml, hown, hts⟩ (c_X0_topicBetween l D (x_tp f1 f3 x1) (x_tp f1 f3 (x1 + 1))) (va_cwS 2 hts gX0_splice_X0_topicBetween rfl rfl rfl ks_X0_topicBetween ⟨Nat.le_of_ble_eq_true rfl, Nat.le_of_ble_eq_true rfl⟩) (hP.sub [] rfl) (hK.sub [] rfl) rfl hl.1 rfl (Nat.le_of_ble_eq_true rfl) dX0_splice_42 (Nat.zero_le _) (Nat.zero_le _) hS (fun H locs hsm hS => ?_)
  have hP := hsm.P hP
  refine lv_istore_n (lv' := [(3, .int (x_btw (x_tp f1 f3 x1) (x_tp f1 f3 (x1 + 1)))), (2, .int (x_sp f0 f3 x1)), (0, .ref (ad 0)), (1, .int x1)]) hx hb dX0_splice_45 rfl hl (by decide) rfl (fun ls hl => ?_)
  refine lv_aload_n hx hb dX0_splice_46 rfl (lv_at hl 2 rfl) ?_
  refine va_get (D := D) (ci := 0) (v := .ref (ad 4)) (C := RX0) (T := TX0) (N := 10) hx hb hts hin hown hK hP 0 rfl rfl 4 (by decide) (hts (.fieldLink RX0 19 "SplicedTalk" "wordPlaces" "[I") (by decide +kernel)) (fun _ h9 => h9) rfl dX0_splice_47 ?_
  refine lv_iload_n hx hb dX0_splice_50 rfl (lv_at hl 3 rfl) ?_
  refine q_callS (As := [.ref (ad 4), .int x1]) (rest := []) ⟨hx, hb, hml, hown, hts⟩ (c_X0_read l D cI (ad 4) f3 x1) (va_cwS 2 hts gX0_splice_X0_read rfl rfl rfl ks_X0_read ⟨Nat.le_of_ble_eq_true rfl, Nat.le_of_ble_eq_true rfl⟩) (hP.sub [4] rfl) hK rfl hl.1 rfl (Nat.le_of_ble_eq_true rfl) dX0_splice_51 (Nat.zero_le _) (Nat.zero_le _) hS (fun H locs hsm hS => ?_)
  have hP := hsm.P hP
  refine lv_iconst (v := 1) hx hb dX0_splice_54 (by decide) ?_
  refine lv_iadd hx hb dX0_splice_55 ?_
  rw [hPe]
  refine lv_istore (lv' := [(4, .int (nI P)), (3, .int (x_btw (x_tp f1 f3 x1) (x_tp f1 f3 (x1 + 1)))), (2, .int (x_sp f0 f3 x1)), (0, .ref (ad 0)), (1, .int x1)]) hx hb dX0_splice_56 hl (by decide) rfl (fun ls hl => ?_)
  refine lv_aload_n hx hb dX0_splice_58 rfl (lv_at hl 3 rfl) ?_
  refine lv_iload hx hb dX0_splice_59 (lv_at hl 0 rfl) ?_
  refine m_callV (As := [.int (nI P)]) (rest := []) (Wr := []) (W2 := (xw cI ad (nI (N + 1)) w t (pa - 2) (pe + 2) (x_mk f0 N (N - P)) (x_mk f1 N (N - P)) (x_mk f2 N (N - P)) f3 f4)) ⟨hx, hb, hml, hown, hts⟩ (c_X0_makeRoomAt l D cI ad N w t (pa - 2) (pe + 2) f0 f1 f2 f3 f4 P (by omega) hPN) (cwV 1 hts gX0_splice_X0_makeRoomAt rfl rfl rfl kv_X0_makeRoomAt ⟨Nat.le_of_ble_eq_true rfl, Nat.le_of_ble_eq_true rfl⟩) (va_recv hK hP (ci := 0) (q0 := 0) rfl rfl) hP hD hK hA [0, 1, 2, 3, 4, 5] [] [0, 1, 2, 3, 4, 5] rfl rfl rfl rfl rfl (by decide) rfl rfl rfl hl.1 rfl (Nat.le_of_ble_eq_true rfl) dX0_splice_61 (Nat.zero_le _) (Nat.zero_le _) hS (fun H locs hP hS => ?_)
  have hD : va_D A (xw cI ad (nI (N + 1)) w t (pa - 2) (pe + 2) (x_mk f0 N (N - P)) (x_mk f1 N (N - P)) (x_mk f2 N (N - P)) f3 f4) := q_Dcong hD rfl
  refine lv_aload_n hx hb dX0_splice_64 rfl (lv_at hl 3 rfl) ?_
  refine lv_iload hx hb dX0_splice_65 (lv_at hl 0 rfl) ?_
  refine lv_iload_n hx hb dX0_splice_67 rfl (lv_at hl 2 rfl) ?_
  refine lv_iload_n hx hb dX0_splice_68 rfl (lv_at hl 1 rfl) ?_
  refine m_callV (As := [.int (nI P), .int (x_sp f0 f3 x1), .int (x_btw (x_tp f1 f3 x1) (x_tp f1 f3 (x1 + 1)))]) (rest := []) (Wr := []) (W2 := (xw cI ad (nI (N + 1)) w t (pa - 2) (pe + 2) (wr (x_mk f0 N (N - P)) (nI P) (x_sp f0 f3 x1)) (wr (x_mk f1 N (N - P)) (nI P) (x_btw (x_tp f1 f3 x1) (x_tp f1 f3 (x1 + 1)))) (wr (x_mk f2 N (N - P)) (nI P) 0) f3 f4)) ⟨hx, hb, hml, hown, hts⟩ (c_X0_put l D cI ad (nI (N + 1)) w t (pa - 2) (pe + 2) (x_mk f0 N (N - P)) (x_mk f1 N (N - P)) (x_mk f2 N (N - P)) f3 f4 (nI P) (x_sp f0 f3 x1) (x_btw (x_tp f1 f3 x1) (x_tp f1 f3 (x1 + 1)))) (cwV 3 hts gX0_splice_X0_put rfl rfl rfl kv_X0_put ⟨Nat.le_of_ble_eq_true rfl, Nat.le_of_ble_eq_true rfl⟩) (va_recv hK hP (ci := 0) (q0 := 0) rfl rfl) hP hD hK hA [0, 1, 2, 3, 4, 5] [] [0, 1, 2, 3, 4, 5] rfl rfl rfl rfl rfl (by decide) rfl rfl rfl hl.1 rfl (Nat.le_of_ble_eq_true rfl) dX0_splice_69 (Nat.zero_le _) (Nat.zero_le _) hS (fun H locs hP hS => ?_)
  have hD : va_D A (xw cI ad (nI (N + 1)) w t (pa - 2) (pe + 2) (wr (x_mk f0 N (N - P)) (nI P) (x_sp f0 f3 x1)) (wr (x_mk f1 N (N - P)) (nI P) (x_btw (x_tp f1 f3 x1) (x_tp f1 f3 (x1 + 1)))) (wr (x_mk f2 N (N - P)) (nI P) 0) f3 f4) := q_Dcong hD rfl
  refine lv_aload_n hx hb dX0_splice_72 rfl (lv_at hl 3 rfl) ?_
  refine m_callV (As := []) (rest := []) (Wr := []) (W2 := (xw cI ad (nI (N + 1)) (nI (x_wn (wr (x_mk f1 N (N - P)) (nI P) (x_btw (x_tp f1 f3 x1) (x_tp f1 f3 (x1 + 1)))) (N + 1))) (nI (x_tcn (wr (x_mk f0 N (N - P)) (nI P) (x_sp f0 f3 x1)) (wr (x_mk f1 N (N - P)) (nI P) (x_btw (x_tp f1 f3 x1) (x_tp f1 f3 (x1 + 1)))) (wr (x_mk f2 N (N - P)) (nI P) 0) (x_wp (wr (x_mk f1 N (N - P)) (nI P) (x_btw (x_tp f1 f3 x1) (x_tp f1 f3 (x1 + 1)))) f3 (N + 1)) (x_wn (wr (x_mk f1 N (N - P)) (nI P) (x_btw (x_tp f1 f3 x1) (x_tp f1 f3 (x1 + 1)))) (N + 1)))) (pa - 2) (pe + 2) (wr (x_mk f0 N (N - P)) (nI P) (x_sp f0 f3 x1)) (wr (x_mk f1 N (N - P)) (nI P) (x_btw (x_tp f1 f3 x1) (x_tp f1 f3 (x1 + 1)))) (wr (x_mk f2 N (N - P)) (nI P) 0) (x_wp (wr (x_mk f1 N (N - P)) (nI P) (x_btw (x_tp f1 f3 x1) (x_tp f1 f3 (x1 + 1)))) f3 (N + 1)) (x_wh (wr (x_mk f0 N (N - P)) (nI P) (x_sp f0 f3 x1)) (wr (x_mk f1 N (N - P)) (nI P) (x_btw (x_tp f1 f3 x1) (x_tp f1 f3 (x1 + 1)))) (wr (x_mk f2 N (N - P)) (nI P) 0) (x_wp (wr (x_mk f1 N (N - P)) (nI P) (x_btw (x_tp f1 f3 x1) (x_tp f1 f3 (x1 + 1)))) f3 (N + 1)) f4 (x_wn (wr (x_mk f1 N (N - P)) (nI P) (x_btw (x_tp f1 f3 x1) (x_tp f1 f3 (x1 + 1)))) (N + 1))))) ⟨hx, hb, hml, hown, hts⟩ (c_X0_recount l D cI ad (N + 1) w t (pa - 2) (pe + 2) (wr (x_mk f0 N (N - P)) (nI P) (x_sp f0 f3 x1)) (wr (x_mk f1 N (N - P)) (nI P) (x_btw (x_tp f1 f3 x1) (x_tp f1 f3 (x1 + 1)))) (wr (x_mk f2 N (N - P)) (nI P) 0) f3 f4 (by omega)) (cwV 0 hts gX0_splice_X0_recount rfl rfl rfl kv_X0_recount ⟨Nat.le_of_ble_eq_true rfl, Nat.le_of_ble_eq_true rfl⟩) (va_recv hK hP (ci := 0) (q0 := 0) rfl rfl) hP hD hK hA [0, 1, 2, 3, 4, 5] [] [0, 1, 2, 3, 4, 5] rfl rfl rfl rfl rfl (by decide) rfl rfl rfl hl.1 rfl (Nat.le_of_ble_eq_true rfl) dX0_splice_73 (Nat.zero_le _) (Nat.zero_le _) hS (fun H locs hP hS => ?_)
  have hD : va_D A (xw cI ad (nI (N + 1)) (nI (x_wn (wr (x_mk f1 N (N - P)) (nI P) (x_btw (x_tp f1 f3 x1) (x_tp f1 f3 (x1 + 1)))) (N + 1))) (nI (x_tcn (wr (x_mk f0 N (N - P)) (nI P) (x_sp f0 f3 x1)) (wr (x_mk f1 N (N - P)) (nI P) (x_btw (x_tp f1 f3 x1) (x_tp f1 f3 (x1 + 1)))) (wr (x_mk f2 N (N - P)) (nI P) 0) (x_wp (wr (x_mk f1 N (N - P)) (nI P) (x_btw (x_tp f1 f3 x1) (x_tp f1 f3 (x1 + 1)))) f3 (N + 1)) (x_wn (wr (x_mk f1 N (N - P)) (nI P) (x_btw (x_tp f1 f3 x1) (x_tp f1 f3 (x1 + 1)))) (N + 1)))) (pa - 2) (pe + 2) (wr (x_mk f0 N (N - P)) (nI P) (x_sp f0 f3 x1)) (wr (x_mk f1 N (N - P)) (nI P) (x_btw (x_tp f1 f3 x1) (x_tp f1 f3 (x1 + 1)))) (wr (x_mk f2 N (N - P)) (nI P) 0) (x_wp (wr (x_mk f1 N (N - P)) (nI P) (x_btw (x_tp f1 f3 x1) (x_tp f1 f3 (x1 + 1)))) f3 (N + 1)) (x_wh (wr (x_mk f0 N (N - P)) (nI P) (x_sp f0 f3 x1)) (wr (x_mk f1 N (N - P)) (nI P) (x_btw (x_tp f1 f3 x1) (x_tp f1 f3 (x1 + 1)))) (wr (x_mk f2 N (N - P)) (nI P) 0) (x_wp (wr (x_mk f1 N (N - P)) (nI P) (x_btw (x_tp f1 f3 x1) (x_tp f1 f3 (x1 + 1)))) f3 (N + 1)) f4 (x_wn (wr (x_mk f1 N (N - P)) (nI P) (x_btw (x_tp f1 f3 x1) (x_tp f1 f3 (x1 + 1)))) (N + 1)))) := q_Dcong hD rfl
  refine lv_iload_n hx hb dX0_splice_76 rfl (lv_at hl 1 rfl) ?_
  exact m_retI hx hb hr hlocks hS hP rfl dX0_splice_77

theorem kv_X0_removeCough : yX0_removeCough.cls = RX0 ∧ yX0_removeCough.cls ≠ "java/lang/invoke/MethodHandle" ∧ yX0_removeCough.cls ≠ "java/lang/invoke/VarHandle" ∧ (parseMethodDescriptor yX0_removeCough.desc).map (fun d => d.parameters.length) = some 1 := by decide +kernel
theorem ks_X0_removeCough : yX0_removeCough.cls ≠ "java/lang/invoke/MethodHandle" ∧ yX0_removeCough.cls ≠ "java/lang/invoke/VarHandle" ∧ (parseMethodDescriptor yX0_removeCough.desc).map (fun d => d.parameters.length) = some 1 := kv_X0_removeCough.2
set_option maxHeartbeats 4000000 in
set_option maxRecDepth 100000 in
theorem c_X0_removeCough (l : Launch) (D : va_G) (cI : ClassId) (ad : Nat → Nat) (N : Nat) (w : Int32) (t : Int32) (pa pe : Int32) (f0 f1 f2 f3 f4 : Nat → Int32) (P : Nat) (h1a : ¬ nI P < 0) (h1b : nI P < nI N) (h2a : x_cs f1 (nI P) = true) (h3a : 1 ≤ pa) (hN : N ≤ 24) (hPN : P < N) : m_I l yX0_removeCough wsX0_removeCough ({ frames := 5, cells := 0, slots := 0, locals := 106 } : Room) D ([(cI, .int)]) (xw cI ad (nI N) w t pa pe f0 f1 f2 f3 f4) [.ref (ad 0), .int (nI P)] (nI (N - 1)) (xw cI ad (nI (N - 1)) (nI (x_wn (x_mu f1 P (N - 1 - P)) (N - 1))) (nI (x_tcn (x_mu f0 P (N - 1 - P)) (x_mu f1 P (N - 1 - P)) (x_mu f2 P (N - 1 - P)) (x_wp (x_mu f1 P (N - 1 - P)) f3 (N - 1)) (x_wn (x_mu f1 P (N - 1 - P)) (N - 1)))) (pa - 1) (pe + 1) (x_mu f0 P (N - 1 - P)) (x_mu f1 P (N - 1 - P)) (x_mu f2 P (N - 1 - P)) (x_wp (x_mu f1 P (N - 1 - P)) f3 (N - 1)) (x_wh (x_mu f0 P (N - 1 - P)) (x_mu f1 P (N - 1 - P)) (x_mu f2 P (N - 1 - P)) (x_wp (x_mu f1 P (N - 1 - P)) f3 (N - 1)) f4 (x_wn (x_mu f1 P (N - 1 - P)) (N - 1)))) := by
  refine m_startI (cc := cX0_removeCough) (maxL := 2) (rt := .int) (by decide) rfl (Nat.le_of_ble_eq_true rfl) ?_
  intro p e s m below meth c A hx hb hml hr hts hown hlocks hK hA H locs ls hP hD hS hl
  have hin : ∀ w ∈ wsX00, w ∈ wsX0_removeCough := by decide +kernel
  have hl : lv_has ls 2 [(0, .ref (ad 0)), (1, .int (nI P))] := hl
  refine lv_aload_n hx hb dX0_removeCough_0 rfl (lv_at hl 0 rfl) ?_
  refine lv_iload_n hx hb dX0_removeCough_1 rfl (lv_at hl 1 rfl) ?_
  refine q_callVV (As := [.int (nI P)]) (rest := []) ⟨hx, hb, hml, hown, hts⟩ (c_X0_requirePlace l D cI ad (nI N) w t pa pe f0 f1 f2 f3 f4 (nI P) h1a h1b) (cwV 1 hts gX0_removeCough_X0_requirePlace rfl rfl rfl kv_X0_requirePlace ⟨Nat.le_of_ble_eq_true rfl, Nat.le_of_ble_eq_true rfl⟩) (va_recv hK hP (ci := 0) (q0 := 0) rfl rfl) hP hK rfl hl.1 rfl (Nat.le_of_ble_eq_true rfl) dX0_removeCough_2 (Nat.zero_le _) (Nat.zero_le _) hS (fun H locs hsm hS => ?_)
  have hP := hsm.P hP
  refine lv_aload_n hx hb dX0_removeCough_5 rfl (lv_at hl 0 rfl) ?_
  refine lv_iload_n hx hb dX0_removeCough_6 rfl (lv_at hl 1 rfl) ?_
  refine q_callV (As := [.int (nI P)]) (rest := []) ⟨hx, hb, hml, hown, hts⟩ (c_X0_coughStandsAt l D cI ad (nI N) w t pa pe f0 f1 f2 f3 f4 (nI P)) (cwV 1 hts gX0_removeCough_X0_coughStandsAt rfl rfl rfl kv_X0_coughStandsAt ⟨Nat.le_of_ble_eq_true rfl, Nat.le_of_ble_eq_true rfl⟩) (va_recv hK hP (ci := 0) (q0 := 0) rfl rfl) hP hK rfl hl.1 rfl (Nat.le_of_ble_eq_true rfl) dX0_removeCough_7 (Nat.zero_le _) (Nat.zero_le _) hS (fun H locs hsm hS => ?_)
  have hP := hsm.P hP
  refine lv_if_ne (tgt := 23) hx hb dX0_removeCough_10 (by decide) (fun c_10 => ?_) (fun h9 => absurd (h2a.symm.trans (bI_0.mp h9)) (by decide))
  refine lv_aload_n hx hb dX0_removeCough_23 rfl (lv_at hl 0 rfl) ?_
  refine lv_iconst (v := 1) hx hb dX0_removeCough_24 (by decide) ?_
  refine q_callVV (As := [.int 1]) (rest := []) ⟨hx, hb, hml, hown, hts⟩ (c_X0_requirePatience l D cI ad (nI N) w t pa pe f0 f1 f2 f3 f4 1 h3a) (cwV 1 hts gX0_removeCough_X0_requirePatience rfl rfl rfl kv_X0_requirePatience ⟨Nat.le_of_ble_eq_true rfl, Nat.le_of_ble_eq_true rfl⟩) (va_recv hK hP (ci := 0) (q0 := 0) rfl rfl) hP hK rfl hl.1 rfl (Nat.le_of_ble_eq_true rfl) dX0_removeCough_25 (Nat.zero_le _) (Nat.zero_le _) hS (fun H locs hsm hS => ?_)
  have hP := hsm.P hP
  refine lv_aload_n hx hb dX0_removeCough_28 rfl (lv_at hl 0 rfl) ?_
  refine lv_iconst (v := 1) hx hb dX0_removeCough_29 (by decide) ?_
  refine m_callV (As := [.int 1]) (rest := []) (Wr := []) (W2 := (xw cI ad (nI N) w t (pa - 1) (pe + 1) f0 f1 f2 f3 f4)) ⟨hx, hb, hml, hown, hts⟩ (c_X0_pay l D cI ad (nI N) w t pa pe f0 f1 f2 f3 f4 1) (cwV 1 hts gX0_removeCough_X0_pay rfl rfl rfl kv_X0_pay ⟨Nat.le_of_ble_eq_true rfl, Nat.le_of_ble_eq_true rfl⟩) (va_recv hK hP (ci := 0) (q0 := 0) rfl rfl) hP hD hK hA [0, 1, 2, 3, 4, 5] [] [0, 1, 2, 3, 4, 5] rfl rfl rfl rfl rfl (by decide) rfl rfl rfl hl.1 rfl (Nat.le_of_ble_eq_true rfl) dX0_removeCough_30 (Nat.zero_le _) (Nat.zero_le _) hS (fun H locs hP hS => ?_)
  have hD : va_D A (xw cI ad (nI N) w t (pa - 1) (pe + 1) f0 f1 f2 f3 f4) := q_Dcong hD rfl
  refine lv_aload_n hx hb dX0_removeCough_33 rfl (lv_at hl 0 rfl) ?_
  refine lv_iload_n hx hb dX0_removeCough_34 rfl (lv_at hl 1 rfl) ?_
  refine m_callV (As := [.int (nI P)]) (rest := []) (Wr := []) (W2 := (xw cI ad (nI (N - 1)) w t (pa - 1) (pe + 1) (x_mu f0 P (N - 1 - P)) (x_mu f1 P (N - 1 - P)) (x_mu f2 P (N - 1 - P)) f3 f4)) ⟨hx, hb, hml, hown, hts⟩ (c_X0_moveUpBehind l D cI ad N w t (pa - 1) (pe + 1) f0 f1 f2 f3 f4 P hN hPN) (cwV 1 hts gX0_removeCough_X0_moveUpBehind rfl rfl rfl kv_X0_moveUpBehind ⟨Nat.le_of_ble_eq_true rfl, Nat.le_of_ble_eq_true rfl⟩) (va_recv hK hP (ci := 0) (q0 := 0) rfl rfl) hP hD hK hA [0, 1, 2, 3, 4, 5] [] [0, 1, 2, 3, 4, 5] rfl rfl rfl rfl rfl (by decide) rfl rfl rfl hl.1 rfl (Nat.le_of_ble_eq_true rfl) dX0_removeCough_35 (Nat.zero_le _) (Nat.zero_le _) hS (fun H locs hP hS => ?_)
  have hD : va_D A (xw cI ad (nI (N - 1)) w t (pa - 1) (pe + 1) (x_mu f0 P (N - 1 - P)) (x_mu f1 P (N - 1 - P)) (x_mu f2 P (N - 1 - P)) f3 f4) := q_Dcong hD rfl
  refine lv_aload_n hx hb dX0_removeCough_38 rfl (lv_at hl 0 rfl) ?_
  refine m_callV (As := []) (rest := []) (Wr := []) (W2 := (xw cI ad (nI (N - 1)) (nI (x_wn (x_mu f1 P (N - 1 - P)) (N - 1))) (nI (x_tcn (x_mu f0 P (N - 1 - P)) (x_mu f1 P (N - 1 - P)) (x_mu f2 P (N - 1 - P)) (x_wp (x_mu f1 P (N - 1 - P)) f3 (N - 1)) (x_wn (x_mu f1 P (N - 1 - P)) (N - 1)))) (pa - 1) (pe + 1) (x_mu f0 P (N - 1 - P)) (x_mu f1 P (N - 1 - P)) (x_mu f2 P (N - 1 - P)) (x_wp (x_mu f1 P (N - 1 - P)) f3 (N - 1)) (x_wh (x_mu f0 P (N - 1 - P)) (x_mu f1 P (N - 1 - P)) (x_mu f2 P (N - 1 - P)) (x_wp (x_mu f1 P (N - 1 - P)) f3 (N - 1)) f4 (x_wn (x_mu f1 P (N - 1 - P)) (N - 1))))) ⟨hx, hb, hml, hown, hts⟩ (c_X0_recount l D cI ad (N - 1) w t (pa - 1) (pe + 1) (x_mu f0 P (N - 1 - P)) (x_mu f1 P (N - 1 - P)) (x_mu f2 P (N - 1 - P)) f3 f4 (by omega)) (cwV 0 hts gX0_removeCough_X0_recount rfl rfl rfl kv_X0_recount ⟨Nat.le_of_ble_eq_true rfl, Nat.le_of_ble_eq_true rfl⟩) (va_recv hK hP (ci := 0) (q0 := 0) rfl rfl) hP hD hK hA [0, 1, 2, 3, 4, 5] [] [0, 1, 2, 3, 4, 5] rfl rfl rfl rfl rfl (by decide) rfl rfl rfl hl.1 rfl (Nat.le_of_ble_eq_true rfl) dX0_removeCough_39 (Nat.zero_le _) (Nat.zero_le _) hS (fun H locs hP hS => ?_)
  have hD : va_D A (xw cI ad (nI (N - 1)) (nI (x_wn (x_mu f1 P (N - 1 - P)) (N - 1))) (nI (x_tcn (x_mu f0 P (N - 1 - P)) (x_mu f1 P (N - 1 - P)) (x_mu f2 P (N - 1 - P)) (x_wp (x_mu f1 P (N - 1 - P)) f3 (N - 1)) (x_wn (x_mu f1 P (N - 1 - P)) (N - 1)))) (pa - 1) (pe + 1) (x_mu f0 P (N - 1 - P)) (x_mu f1 P (N - 1 - P)) (x_mu f2 P (N - 1 - P)) (x_wp (x_mu f1 P (N - 1 - P)) f3 (N - 1)) (x_wh (x_mu f0 P (N - 1 - P)) (x_mu f1 P (N - 1 - P)) (x_mu f2 P (N - 1 - P)) (x_wp (x_mu f1 P (N - 1 - P)) f3 (N - 1)) f4 (x_wn (x_mu f1 P (N - 1 - P)) (N - 1)))) := q_Dcong hD rfl
  refine lv_aload_n hx hb dX0_removeCough_42 rfl (lv_at hl 0 rfl) ?_
  refine va_get (D := D) (ci := 0) (v := .int (nI (N - 1))) (C := RX0) (T := TX0) (N := 10) hx hb hts hin hown hK hP 0 rfl rfl 3 (by decide) (hts (.fieldLink RX0 69 "SplicedTalk" "remarkCount" "I") (by decide +kernel)) (fun _ h9 => h9) rfl dX0_removeCough_43 ?_
  exact m_retI hx hb hr hlocks hS hP rfl dX0_removeCough_46

theorem kv_X0_rest : yX0_rest.cls = RX0 ∧ yX0_rest.cls ≠ "java/lang/invoke/MethodHandle" ∧ yX0_rest.cls ≠ "java/lang/invoke/VarHandle" ∧ (parseMethodDescriptor yX0_rest.desc).map (fun d => d.parameters.length) = some 1 := by decide +kernel
theorem ks_X0_rest : yX0_rest.cls ≠ "java/lang/invoke/MethodHandle" ∧ yX0_rest.cls ≠ "java/lang/invoke/VarHandle" ∧ (parseMethodDescriptor yX0_rest.desc).map (fun d => d.parameters.length) = some 1 := kv_X0_rest.2
set_option maxHeartbeats 4000000 in
set_option maxRecDepth 100000 in
theorem c_X0_rest (l : Launch) (D : va_G) (cI : ClassId) (ad : Nat → Nat) (n : Int32) (w : Int32) (t : Int32) (pa pe : Int32) (f0 f1 f2 f3 f4 : Nat → Int32) (x1 : Int32) (h1a : ¬ x1 < 1) (h1b : x1 ≤ 60) : m_I l yX0_rest wsX0_rest ({ frames := 1, cells := 0, slots := 0, locals := 21 } : Room) D ([(cI, .int)]) (xw cI ad n w t pa pe f0 f1 f2 f3 f4) [.ref (ad 0), .int x1] (i_min 99 (pa + x1)) (xw cI ad n w t (i_min 99 (pa + x1)) pe f0 f1 f2 f3 f4) := by
  refine m_startI (cc := cX0_rest) (maxL := 2) (rt := .int) (by decide) rfl (Nat.le_of_ble_eq_true rfl) ?_
  intro p e s m below meth c A hx hb hml hr hts hown hlocks hK hA H locs ls hP hD hS hl
  have hin : ∀ w ∈ wsX00, w ∈ wsX0_rest := by decide +kernel
  have hl : lv_has ls 2 [(0, .ref (ad 0)), (1, .int x1)] := hl
  refine lv_iload_n hx hb dX0_rest_0 rfl (lv_at hl 1 rfl) ?_
  refine lv_iconst (v := 1) hx hb dX0_rest_1 (by decide) ?_
  refine lv_icmp_lt (tgt := 11) hx hb dX0_rest_2 (by decide) (fun h9 => absurd h9 h1a) (fun c_2 => ?_)
  refine lv_iload_n hx hb dX0_rest_5 rfl (lv_at hl 1 rfl) ?_
  refine lv_bipush (v := 60) hx hb dX0_rest_6 (by decide) ?_
  refine lv_icmp_le (tgt := 21) hx hb dX0_rest_8 (by decide) (fun c_8 => ?_) (fun h9 => absurd h1b h9)
  refine lv_aload_n hx hb dX0_rest_21 rfl (lv_at hl 0 rfl) ?_
  refine lv_bipush (v := 99) hx hb dX0_rest_22 (by decide) ?_
  refine lv_aload_n hx hb dX0_rest_24 rfl (lv_at hl 0 rfl) ?_
  refine va_get (D := D) (ci := 0) (v := .int pa) (C := RX0) (T := TX0) (N := 10) hx hb hts hin hown hK hP 0 rfl rfl 8 (by decide) (hts (.fieldLink RX0 25 "SplicedTalk" "patienceLeft" "I") (by decide +kernel)) (fun _ h9 => h9) rfl dX0_rest_25 ?_
  refine lv_iload_n hx hb dX0_rest_28 rfl (lv_at hl 1 rfl) ?_
  refine lv_iadd hx hb dX0_rest_29 ?_
  refine va_mmin hx hb (hml.trans hl.1.symm) hown (hts (.methodLink RX0 111 Lib.Math.min.name) (by decide +kernel)) (hts (.static Lib.Math.min.name) (by decide +kernel)) (hts (.initialized "java/lang/Math") (by decide +kernel)) (hts (.code Lib.Math.min.name Lib.Math.min.code 2 (some .int)) (by decide +kernel)) (Nat.le_of_ble_eq_true rfl) (Nat.le_of_ble_eq_true rfl) (Nat.zero_le _) (Nat.zero_le _) dX0_rest_30 ?_
  refine va_put (D := D) (ci := 0) (v := .int (i_min 99 (pa + x1))) (ty := .int) (C := RX0) (T := TX0) (N := 10) hx hb hts hin tyX0 tyX0_ok nmX0 hown hK hP hD hS 0 rfl rfl 8 (by decide) (hts (.fieldLink RX0 25 "SplicedTalk" "patienceLeft" "I") (by decide +kernel)) (fun _ h9 => h9) rfl (by decide +kernel) rfl rfl (Nat.le_of_ble_eq_true rfl) dX0_rest_33 (fun H locs hP hD hS => ?_)
  have hP : va_P D vwCl (xw cI ad n w t (i_min 99 (pa + x1)) pe f0 f1 f2 f3 f4) H := hP
  have hD : va_D A (xw cI ad n w t (i_min 99 (pa + x1)) pe f0 f1 f2 f3 f4) := q_Dcong hD rfl
  refine lv_aload_n hx hb dX0_rest_36 rfl (lv_at hl 0 rfl) ?_
  refine va_get (D := D) (ci := 0) (v := .int (i_min 99 (pa + x1))) (C := RX0) (T := TX0) (N := 10) hx hb hts hin hown hK hP 0 rfl rfl 8 (by decide) (hts (.fieldLink RX0 25 "SplicedTalk" "patienceLeft" "I") (by decide +kernel)) (fun _ h9 => h9) rfl dX0_rest_37 ?_
  exact m_retI hx hb hr hlocks hS hP rfl dX0_rest_40
