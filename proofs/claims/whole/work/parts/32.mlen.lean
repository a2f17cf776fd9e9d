/-! own rows, written by wip/whole/mlen.py: the reference's lengthOf -/
theorem kv_X1_lengthOf : yX1_lengthOf.cls = RX1 ∧ yX1_lengthOf.cls ≠ "java/lang/invoke/MethodHandle" ∧ yX1_lengthOf.cls ≠ "java/lang/invoke/VarHandle" ∧ (parseMethodDescriptor yX1_lengthOf.desc).map (fun d => d.parameters.length) = some 1 := by decide +kernel
theorem ks_X1_lengthOf : yX1_lengthOf.cls ≠ "java/lang/invoke/MethodHandle" ∧ yX1_lengthOf.cls ≠ "java/lang/invoke/VarHandle" ∧ (parseMethodDescriptor yX1_lengthOf.desc).map (fun d => d.parameters.length) = some 1 := kv_X1_lengthOf.2
set_option maxHeartbeats 4000000 in
set_option maxRecDepth 100000 in
theorem c_X1_lengthOf_1 (l : Launch) (D : va_G) (cI cZ : ClassId) (ad : Nat → Nat) (th : Int32) (N : Nat) (pa pe : Int32) (g0 g1 g2 : Nat → Int32) (hN : N ≤ 24) (x1 : Int32) (h1 : m_in x1 0 (nI (m_tn g0 g1 g2 N) - 1) = false) : m_I l yX1_lengthOf wsX1_lengthOf ({ frames := 8, cells := 0, slots := 0, locals := 170 } : Room) D ([(cI, .int), (cZ, .boolean)]) (mw cI cZ ad th (nI N) pa pe g0 g1 g2) [.ref (ad 0), .int x1] 0 (mw cI cZ ad 1 (nI N) pa pe g0 g1 g2) := by
  refine m_startI (cc := cX1_lengthOf) (maxL := 2) (rt := .int) (by decide) rfl (Nat.le_of_ble_eq_true rfl) ?_
  intro p e s m below meth c A hx hb hml hr hts hown hlocks hK hA H locs ls hP hD hS hl
  have hin : ∀ w ∈ wsX10, w ∈ wsX1_lengthOf := by decide +kernel
  have hl : lv_has ls 2 [(0, .ref (ad 0)), (1, .int x1)] := hl
  refine lv_aload_n hx hb dX1_lengthOf_0 rfl (lv_at hl 0 rfl) ?_
  refine lv_iconst (v := 0) hx hb dX1_lengthOf_1 (by decide) ?_
  refine va_put (D := D) (ci := 1) (v := .int 0) (ty := .int) (C := RX1) (T := TX1) (N := 7) hx hb hts hin tyX1 tyX1_ok nmX1 hown hK hP hD hS 0 rfl rfl 0 (by decide) (hts (.fieldLink RX1 24 "SplicedTalkModel" "thrown" "I") (by decide +kernel)) (fun _ h9 => h9) rfl (by decide +kernel) rfl rfl (Nat.le_of_ble_eq_true rfl) dX1_lengthOf_2 (fun H locs hP hD hS => ?_)
  have hP : va_P D vwCl (mw cI cZ ad 0 (nI N) pa pe g0 g1 g2) H := hP
  have hD : va_D A (mw cI cZ ad 0 (nI N) pa pe g0 g1 g2) := q_Dc (L := [ad 0, ad 1, ad 2, ad 3]) hD rfl rfl
  refine lv_aload_n hx hb dX1_lengthOf_5 rfl (lv_at hl 0 rfl) ?_
  refine lv_iload_n hx hb dX1_lengthOf_6 rfl (lv_at hl 1 rfl) ?_
  refine q_callV (As := [.int x1]) (rest := []) ⟨hx, hb, hml, hown, hts⟩ (c_X1_isThread l D cI cZ ad 0 N pa pe g0 g1 g2 hN x1) (cwV 1 hts gX1_lengthOf_X1_isThread rfl rfl rfl kv_X1_isThread ⟨Nat.le_of_ble_eq_true rfl, Nat.le_of_ble_eq_true rfl⟩) (va_recv hK hP (ci := 1) (q0 := 0) rfl rfl) hP hK rfl hl.1 rfl (Nat.le_of_ble_eq_true rfl) dX1_lengthOf_7 (Nat.zero_le _) (Nat.zero_le _) hS (fun H locs hsm hS => ?_)
  have hP := hsm.P hP
  refine lv_if_eq (tgt := 21) hx hb dX1_lengthOf_10 (by decide) (fun c_10 => ?_) (fun h9 => absurd (bI_0.mpr h1) h9)
  refine lv_aload_n hx hb dX1_lengthOf_21 rfl (lv_at hl 0 rfl) ?_
  refine lv_iconst (v := 1) hx hb dX1_lengthOf_22 (by decide) ?_
  refine m_callVI (As := [.int 1]) (rest := []) (Wr := []) (W2 := (mw cI cZ ad 1 (nI N) pa pe g0 g1 g2)) ⟨hx, hb, hml, hown, hts⟩ (c_X1_fail l D cI cZ ad 0 N pa pe g0 g1 g2 hN 1) (cwV 1 hts gX1_lengthOf_X1_fail rfl rfl rfl kv_X1_fail ⟨Nat.le_of_ble_eq_true rfl, Nat.le_of_ble_eq_true rfl⟩) (va_recv hK hP (ci := 1) (q0 := 0) rfl rfl) hP hD hK hA [0, 1, 2, 3] [] [0, 1, 2, 3] rfl rfl rfl rfl rfl (by decide) rfl rfl rfl hl.1 rfl (Nat.le_of_ble_eq_true rfl) dX1_lengthOf_23 (Nat.zero_le _) (Nat.zero_le _) hS (fun H locs hP hS => ?_)
  have hD : va_D A (mw cI cZ ad 1 (nI N) pa pe g0 g1 g2) := q_Dc (L := [ad 0, ad 1, ad 2, ad 3]) hD rfl rfl
  exact m_retI hx hb hr hlocks hS hP rfl dX1_lengthOf_26

set_option maxHeartbeats 4000000 in
set_option maxRecDepth 100000 in
theorem c_X1_lengthOf_ok (l : Launch) (D : va_G) (cI cZ : ClassId) (ad : Nat → Nat) (th : Int32) (N : Nat) (pa pe : Int32) (g0 g1 g2 : Nat → Int32) (hN : N ≤ 24) (x1 : Int32) (h1 : m_in x1 0 (nI (m_tn g0 g1 g2 N) - 1) = true) : m_I l yX1_lengthOf wsX1_lengthOf ({ frames := 8, cells := 0, slots := 0, locals := 170 } : Room) D ([(cI, .int), (cZ, .boolean)]) (mw cI cZ ad th (nI N) pa pe g0 g1 g2) [.ref (ad 0), .int x1] (nI (m_ln g0 g1 g2 N x1)) (mw cI cZ ad 0 (nI N) pa pe g0 g1 g2) := by
  refine m_startI (cc := cX1_lengthOf) (maxL := 2) (rt := .int) (by decide) rfl (Nat.le_of_ble_eq_true rfl) ?_
  intro p e s m below meth c A hx hb hml hr hts hown hlocks hK hA H locs ls hP hD hS hl
  have hin : ∀ w ∈ wsX10, w ∈ wsX1_lengthOf := by decide +kernel
  have hl : lv_has ls 2 [(0, .ref (ad 0)), (1, .int x1)] := hl
  refine lv_aload_n hx hb dX1_lengthOf_0 rfl (lv_at hl 0 rfl) ?_
  refine lv_iconst (v := 0) hx hb dX1_lengthOf_1 (by decide) ?_
  refine va_put (D := D) (ci := 1) (v := .int 0) (ty := .int) (C := RX1) (T := TX1) (N := 7) hx hb hts hin tyX1 tyX1_ok nmX1 hown hK hP hD hS 0 rfl rfl 0 (by decide) (hts (.fieldLink RX1 24 "SplicedTalkModel" "thrown" "I") (by decide +kernel)) (fun _ h9 => h9) rfl (by decide +kernel) rfl rfl (Nat.le_of_ble_eq_true rfl) dX1_lengthOf_2 (fun H locs hP hD hS => ?_)
  have hP : va_P D vwCl (mw cI cZ ad 0 (nI N) pa pe g0 g1 g2) H := hP
  have hD : va_D A (mw cI cZ ad 0 (nI N) pa pe g0 g1 g2) := q_Dc (L := [ad 0, ad 1, ad 2, ad 3]) hD rfl rfl
  refine lv_aload_n hx hb dX1_lengthOf_5 rfl (lv_at hl 0 rfl) ?_
  refine lv_iload_n hx hb dX1_lengthOf_6 rfl (lv_at hl 1 rfl) ?_
  refine q_callV (As := [.int x1]) (rest := []) ⟨hx, hb, hml, hown, hts⟩ (c_X1_isThread l D cI cZ ad 0 N pa pe g0 g1 g2 hN x1) (cwV 1 hts gX1_lengthOf_X1_isThread rfl rfl rfl kv_X1_isThread ⟨Nat.le_of_ble_eq_true rfl, Nat.le_of_ble_eq_true rfl⟩) (va_recv hK hP (ci := 1) (q0 := 0) rfl rfl) hP hK rfl hl.1 rfl (Nat.le_of_ble_eq_true rfl) dX1_lengthOf_7 (Nat.zero_le _) (Nat.zero_le _) hS (fun H locs hsm hS => ?_)
  have hP := hsm.P hP
  refine lv_if_eq (tgt := 21) hx hb dX1_lengthOf_10 (by decide) (fun h9 => absurd (h1.symm.trans (bI_0.mp h9)) (by decide)) (fun c_10 => ?_)
  refine lv_aload_n hx hb dX1_lengthOf_13 rfl (lv_at hl 0 rfl) ?_
  refine lv_iload_n hx hb dX1_lengthOf_14 rfl (lv_at hl 1 rfl) ?_
  refine q_callV (As := [.int x1]) (rest := []) ⟨hx, hb, hml, hown, hts⟩ (c_X1_length l D cI cZ ad 0 N pa pe g0 g1 g2 hN x1) (cwV 1 hts gX1_lengthOf_X1_length rfl rfl rfl kv_X1_length ⟨Nat.le_of_ble_eq_true rfl, Nat.le_of_ble_eq_true rfl⟩) (va_recv hK hP (ci := 1) (q0 := 0) rfl rfl) hP hK rfl hl.1 rfl (Nat.le_of_ble_eq_true rfl) dX1_lengthOf_15 (Nat.zero_le _) (Nat.zero_le _) hS (fun H locs hsm hS => ?_)
  have hP := hsm.P hP
  refine lv_goto (tgt := 26) hx hb dX1_lengthOf_18 (by decide) ?_
  exact m_retI hx hb hr hlocks hS hP rfl dX1_lengthOf_26
