/-! own rows, written by wip/whole/mmu.py: the reference's methods that write -/
theorem k_Nm1 {N : Nat} (h : 0 < N) : nI N + (-1) = nI (N - 1) := by
  obtain ⟨k, rfl⟩ : ∃ k, N = k + 1 := ⟨N - 1, by omega⟩
  exact pk_m1 k
theorem kv_X1_fail : yX1_fail.cls = RX1 ∧ yX1_fail.cls ≠ "java/lang/invoke/MethodHandle" ∧ yX1_fail.cls ≠ "java/lang/invoke/VarHandle" ∧ (parseMethodDescriptor yX1_fail.desc).map (fun d => d.parameters.length) = some 1 := by decide +kernel
theorem ks_X1_fail : yX1_fail.cls ≠ "java/lang/invoke/MethodHandle" ∧ yX1_fail.cls ≠ "java/lang/invoke/VarHandle" ∧ (parseMethodDescriptor yX1_fail.desc).map (fun d => d.parameters.length) = some 1 := kv_X1_fail.2
set_option maxHeartbeats 4000000 in
set_option maxRecDepth 100000 in
theorem c_X1_fail (l : Launch) (D : va_G) (cI cZ : ClassId) (ad : Nat → Nat) (th : Int32) (N : Nat) (pa pe : Int32) (g0 g1 g2 : Nat → Int32) (hN : N ≤ 24) (x1 : Int32) : m_I l yX1_fail wsX1_fail ({ frames := 0, cells := 0, slots := 0, locals := 0 } : Room) D ([(cI, .int), (cZ, .boolean)]) (mw cI cZ ad th (nI N) pa pe g0 g1 g2) [.ref (ad 0), .int x1] 0 (mw cI cZ ad x1 (nI N) pa pe g0 g1 g2) := by
  refine m_startI (cc := cX1_fail) (maxL := 2) (rt := .int) (by decide) rfl (Nat.le_of_ble_eq_true rfl) ?_
  intro p e s m below meth c A hx hb hml hr hts hown hlocks hK hA H locs ls hP hD hS hl
  have hin : ∀ w ∈ wsX10, w ∈ wsX1_fail := by decide +kernel
  have hl : lv_has ls 2 [(0, .ref (ad 0)), (1, .int x1)] := hl
  refine lv_aload_n hx hb dX1_fail_0 rfl (lv_at hl 0 rfl) ?_
  refine lv_iload_n hx hb dX1_fail_1 rfl (lv_at hl 1 rfl) ?_
  refine va_put (D := D) (ci := 1) (v := .int x1) (ty := .int) (C := RX1) (T := TX1) (N := 7) hx hb hts hin tyX1 tyX1_ok nmX1 hown hK hP hD hS 0 rfl rfl 0 (by decide) (hts (.fieldLink RX1 24 "SplicedTalkModel" "thrown" "I") (by decide +kernel)) (fun _ h9 => h9) rfl (by decide +kernel) rfl rfl (Nat.le_of_ble_eq_true rfl) dX1_fail_2 (fun H locs hP hD hS => ?_)
  have hP : va_P D vwCl (mw cI cZ ad x1 (nI N) pa pe g0 g1 g2) H := hP
  have hD : va_D A (mw cI cZ ad x1 (nI N) pa pe g0 g1 g2) := q_Dc (L := [ad 0, ad 1, ad 2, ad 3]) hD rfl rfl
  refine lv_iconst (v := 0) hx hb dX1_fail_5 (by decide) ?_
  exact m_retI hx hb hr hlocks hS hP rfl dX1_fail_6

theorem kv_X1_told : yX1_told.cls = RX1 ∧ yX1_told.cls ≠ "java/lang/invoke/MethodHandle" ∧ yX1_told.cls ≠ "java/lang/invoke/VarHandle" ∧ (parseMethodDescriptor yX1_told.desc).map (fun d => d.parameters.length) = some 1 := by decide +kernel
theorem ks_X1_told : yX1_told.cls ≠ "java/lang/invoke/MethodHandle" ∧ yX1_told.cls ≠ "java/lang/invoke/VarHandle" ∧ (parseMethodDescriptor yX1_told.desc).map (fun d => d.parameters.length) = some 1 := kv_X1_told.2
set_option maxHeartbeats 4000000 in
set_option maxRecDepth 100000 in
theorem c_X1_told (l : Launch) (D : va_G) (cI cZ : ClassId) (ad : Nat → Nat) (th : Int32) (N : Nat) (pa pe : Int32) (g0 g1 g2 : Nat → Int32) (hN : N ≤ 24) (x1 : Int32) : m_I l yX1_told wsX1_told ({ frames := 0, cells := 0, slots := 0, locals := 0 } : Room) D ([(cI, .int), (cZ, .boolean)]) (mw cI cZ ad th (nI N) pa pe g0 g1 g2) [.ref (ad 0), .int x1] x1 (mw cI cZ ad 0 (nI N) pa pe g0 g1 g2) := by
  refine m_startI (cc := cX1_told) (maxL := 2) (rt := .int) (by decide) rfl (Nat.le_of_ble_eq_true rfl) ?_
  intro p e s m below meth c A hx hb hml hr hts hown hlocks hK hA H locs ls hP hD hS hl
  have hin : ∀ w ∈ wsX10, w ∈ wsX1_told := by decide +kernel
  have hl : lv_has ls 2 [(0, .ref (ad 0)), (1, .int x1)] := hl
  refine lv_aload_n hx hb dX1_told_0 rfl (lv_at hl 0 rfl) ?_
  refine lv_iconst (v := 0) hx hb dX1_told_1 (by decide) ?_
  refine va_put (D := D) (ci := 1) (v := .int 0) (ty := .int) (C := RX1) (T := TX1) (N := 7) hx hb hts hin tyX1 tyX1_ok nmX1 hown hK hP hD hS 0 rfl rfl 0 (by decide) (hts (.fieldLink RX1 24 "SplicedTalkModel" "thrown" "I") (by decide +kernel)) (fun _ h9 => h9) rfl (by decide +kernel) rfl rfl (Nat.le_of_ble_eq_true rfl) dX1_told_2 (fun H locs hP hD hS => ?_)
  have hP : va_P D vwCl (mw cI cZ ad 0 (nI N) pa pe g0 g1 g2) H := hP
  have hD : va_D A (mw cI cZ ad 0 (nI N) pa pe g0 g1 g2) := q_Dc (L := [ad 0, ad 1, ad 2, ad 3]) hD rfl rfl
  refine lv_iload_n hx hb dX1_told_5 rfl (lv_at hl 1 rfl) ?_
  exact m_retI hx hb hr hlocks hS hP rfl dX1_told_6

theorem kv_X1_pay : yX1_pay.cls = RX1 ∧ yX1_pay.cls ≠ "java/lang/invoke/MethodHandle" ∧ yX1_pay.cls ≠ "java/lang/invoke/VarHandle" ∧ (parseMethodDescriptor yX1_pay.desc).map (fun d => d.parameters.length) = some 1 := by decide +kernel
theorem ks_X1_pay : yX1_pay.cls ≠ "java/lang/invoke/MethodHandle" ∧ yX1_pay.cls ≠ "java/lang/invoke/VarHandle" ∧ (parseMethodDescriptor yX1_pay.desc).map (fun d => d.parameters.length) = some 1 := kv_X1_pay.2
set_option maxHeartbeats 4000000 in
set_option maxRecDepth 100000 in
theorem c_X1_pay (l : Launch) (D : va_G) (cI cZ : ClassId) (ad : Nat → Nat) (th : Int32) (N : Nat) (pa pe : Int32) (g0 g1 g2 : Nat → Int32) (hN : N ≤ 24) (x1 : Int32) : m_I l yX1_pay wsX1_pay ({ frames := 0, cells := 0, slots := 0, locals := 0 } : Room) D ([(cI, .int), (cZ, .boolean)]) (mw cI cZ ad th (nI N) pa pe g0 g1 g2) [.ref (ad 0), .int x1] 1 (mw cI cZ ad th (nI N) (pa - x1) (pe + x1) g0 g1 g2) := by
  refine m_startI (cc := cX1_pay) (maxL := 2) (rt := .boolean) (by decide) rfl (Nat.le_of_ble_eq_true rfl) ?_
  intro p e s m below meth c A hx hb hml hr hts hown hlocks hK hA H locs ls hP hD hS hl
  have hin : ∀ w ∈ wsX10, w ∈ wsX1_pay := by decide +kernel
  have hl : lv_has ls 2 [(0, .ref (ad 0)), (1, .int x1)] := hl
  refine lv_aload_n hx hb dX1_pay_0 rfl (lv_at hl 0 rfl) ?_
  refine lv_dup hx hb dX1_pay_1 rfl ?_
  refine va_get (D := D) (ci := 1) (v := .int pa) (C := RX1) (T := TX1) (N := 7) hx hb hts hin hown hK hP 0 rfl rfl 2 (by decide) (hts (.fieldLink RX1 7 "SplicedTalkModel" "patience" "I") (by decide +kernel)) (fun _ h9 => h9) rfl dX1_pay_2 ?_
  refine lv_iload_n hx hb dX1_pay_5 rfl (lv_at hl 1 rfl) ?_
  refine lv_isub hx hb dX1_pay_6 ?_
  refine va_put (D := D) (ci := 1) (v := .int (pa - x1)) (ty := .int) (C := RX1) (T := TX1) (N := 7) hx hb hts hin tyX1 tyX1_ok nmX1 hown hK hP hD hS 0 rfl rfl 2 (by decide) (hts (.fieldLink RX1 7 "SplicedTalkModel" "patience" "I") (by decide +kernel)) (fun _ h9 => h9) rfl (by decide +kernel) rfl rfl (Nat.le_of_ble_eq_true rfl) dX1_pay_7 (fun H locs hP hD hS => ?_)
  have hP : va_P D vwCl (mw cI cZ ad th (nI N) (pa - x1) pe g0 g1 g2) H := hP
  have hD : va_D A (mw cI cZ ad th (nI N) (pa - x1) pe g0 g1 g2) := q_Dc (L := [ad 0, ad 1, ad 2, ad 3]) hD rfl rfl
  refine lv_aload_n hx hb dX1_pay_10 rfl (lv_at hl 0 rfl) ?_
  refine lv_dup hx hb dX1_pay_11 rfl ?_
  refine va_get (D := D) (ci := 1) (v := .int pe) (C := RX1) (T := TX1) (N := 7) hx hb hts hin hown hK hP 0 rfl rfl 3 (by decide) (hts (.fieldLink RX1 80 "SplicedTalkModel" "spent" "I") (by decide +kernel)) (fun _ h9 => h9) rfl dX1_pay_12 ?_
  refine lv_iload_n hx hb dX1_pay_15 rfl (lv_at hl 1 rfl) ?_
  refine lv_iadd hx hb dX1_pay_16 ?_
  refine va_put (D := D) (ci := 1) (v := .int (pe + x1)) (ty := .int) (C := RX1) (T := TX1) (N := 7) hx hb hts hin tyX1 tyX1_ok nmX1 hown hK hP hD hS 0 rfl rfl 3 (by decide) (hts (.fieldLink RX1 80 "SplicedTalkModel" "spent" "I") (by decide +kernel)) (fun _ h9 => h9) rfl (by decide +kernel) rfl rfl (Nat.le_of_ble_eq_true rfl) dX1_pay_17 (fun H locs hP hD hS => ?_)
  have hP : va_P D vwCl (mw cI cZ ad th (nI N) (pa - x1) (pe + x1) g0 g1 g2) H := hP
  have hD : va_D A (mw cI cZ ad th (nI N) (pa - x1) (pe + x1) g0 g1 g2) := q_Dc (L := [ad 0, ad 1, ad 2, ad 3]) hD rfl rfl
  refine lv_iconst (v := 1) hx hb dX1_pay_20 (by decide) ?_
  exact m_retZ hx hb hr hlocks hS hP rfl (Or.inr rfl) dX1_pay_21

theorem kv_X1_put : yX1_put.cls = RX1 ∧ yX1_put.cls ≠ "java/lang/invoke/MethodHandle" ∧ yX1_put.cls ≠ "java/lang/invoke/VarHandle" ∧ (parseMethodDescriptor yX1_put.desc).map (fun d => d.parameters.length) = some 2 := by decide +kernel
theorem ks_X1_put : yX1_put.cls ≠ "java/lang/invoke/MethodHandle" ∧ yX1_put.cls ≠ "java/lang/invoke/VarHandle" ∧ (parseMethodDescriptor yX1_put.desc).map (fun d => d.parameters.length) = some 2 := kv_X1_put.2
set_option maxHeartbeats 4000000 in
set_option maxRecDepth 100000 in
theorem c_X1_put (l : Launch) (D : va_G) (cI cZ : ClassId) (ad : Nat → Nat) (th : Int32) (N : Nat) (pa pe : Int32) (g0 g1 g2 : Nat → Int32) (hN : N ≤ 24) (x1 : Int32) (x2 : Int32) : m_I l yX1_put wsX1_put ({ frames := 0, cells := 0, slots := 0, locals := 0 } : Room) D ([(cI, .int), (cZ, .boolean)]) (mw cI cZ ad th (nI N) pa pe g0 g1 g2) [.ref (ad 0), .int x1, .int x2] (nI N) (mw cI cZ ad th (nI (N + 1)) pa pe (upd g0 N x1) (upd g1 N x2) (upd g2 N 0)) := by
  refine m_startI (cc := cX1_put) (maxL := 3) (rt := .int) (by decide) rfl (Nat.le_of_ble_eq_true rfl) ?_
  intro p e s m below meth c A hx hb hml hr hts hown hlocks hK hA H locs ls hP hD hS hl
  have hin : ∀ w ∈ wsX10, w ∈ wsX1_put := by decide +kernel
  have hl : lv_has ls 3 [(0, .ref (ad 0)), (1, .int x1), (2, .int x2)] := hl
  refine lv_aload_n hx hb dX1_put_0 rfl (lv_at hl 0 rfl) ?_
  refine va_get (D := D) (ci := 1) (v := .ref (ad 1)) (C := RX1) (T := TX1) (N := 7) hx hb hts hin hown hK hP 0 rfl rfl 4 (by decide) (hts (.fieldLink RX1 13 "SplicedTalkModel" "topic" "[I") (by decide +kernel)) (fun _ h9 => h9) rfl dX1_put_1 ?_
  refine lv_aload_n hx hb dX1_put_4 rfl (lv_at hl 0 rfl) ?_
  refine va_get (D := D) (ci := 1) (v := .int (nI N)) (C := RX1) (T := TX1) (N := 7) hx hb hts hin hown hK hP 0 rfl rfl 1 (by decide) (hts (.fieldLink RX1 31 "SplicedTalkModel" "remarks" "I") (by decide +kernel)) (fun _ h9 => h9) rfl dX1_put_5 ?_
  refine lv_iload_n hx hb dX1_put_8 rfl (lv_at hl 1 rfl) ?_
  refine va_iast hx hb hK hP hD hS 1 0 rfl rfl (vp_in_nI (by have := hN; skip; omega) (by decide)) dX1_put_9 (fun H locs hP hD hS => ?_)
  rw [nI_clamp (by have := hN; skip; omega)] at hP
  have hD : va_D A (mw cI cZ ad th (nI N) pa pe (upd g0 N x1) g1 g2) := q_Dc (L := [ad 0, ad 1, ad 2, ad 3]) hD rfl rfl
  have hP : va_P D vwCl (mw cI cZ ad th (nI N) pa pe (upd g0 N x1) g1 g2) H := hP
  refine lv_aload_n hx hb dX1_put_10 rfl (lv_at hl 0 rfl) ?_
  refine va_get (D := D) (ci := 1) (v := .ref (ad 2)) (C := RX1) (T := TX1) (N := 7) hx hb hts hin hown hK hP 0 rfl rfl 5 (by decide) (hts (.fieldLink RX1 17 "SplicedTalkModel" "speaker" "[I") (by decide +kernel)) (fun _ h9 => h9) rfl dX1_put_11 ?_
  refine lv_aload_n hx hb dX1_put_14 rfl (lv_at hl 0 rfl) ?_
  refine va_get (D := D) (ci := 1) (v := .int (nI N)) (C := RX1) (T := TX1) (N := 7) hx hb hts hin hown hK hP 0 rfl rfl 1 (by decide) (hts (.fieldLink RX1 31 "SplicedTalkModel" "remarks" "I") (by decide +kernel)) (fun _ h9 => h9) rfl dX1_put_15 ?_
  refine lv_iload_n hx hb dX1_put_18 rfl (lv_at hl 2 rfl) ?_
  refine va_iast hx hb hK hP hD hS 2 0 rfl rfl (vp_in_nI (by have := hN; skip; omega) (by decide)) dX1_put_19 (fun H locs hP hD hS => ?_)
  rw [nI_clamp (by have := hN; skip; omega)] at hP
  have hD : va_D A (mw cI cZ ad th (nI N) pa pe (upd g0 N x1) (upd g1 N x2) g2) := q_Dc (L := [ad 0, ad 1, ad 2, ad 3]) hD rfl rfl
  have hP : va_P D vwCl (mw cI cZ ad th (nI N) pa pe (upd g0 N x1) (upd g1 N x2) g2) H := hP
  refine lv_aload_n hx hb dX1_put_20 rfl (lv_at hl 0 rfl) ?_
  refine va_get (D := D) (ci := 1) (v := .ref (ad 3)) (C := RX1) (T := TX1) (N := 7) hx hb hts hin hown hK hP 0 rfl rfl 6 (by decide) (hts (.fieldLink RX1 20 "SplicedTalkModel" "tied" "[Z") (by decide +kernel)) (fun _ h9 => h9) rfl dX1_put_21 ?_
  refine lv_aload_n hx hb dX1_put_24 rfl (lv_at hl 0 rfl) ?_
  refine va_get (D := D) (ci := 1) (v := .int (nI N)) (C := RX1) (T := TX1) (N := 7) hx hb hts hin hown hK hP 0 rfl rfl 1 (by decide) (hts (.fieldLink RX1 31 "SplicedTalkModel" "remarks" "I") (by decide +kernel)) (fun _ h9 => h9) rfl dX1_put_25 ?_
  refine lv_iconst (v := 0) hx hb dX1_put_28 (by decide) ?_
  refine va_zast hx hb hK hP hD hS 3 1 rfl rfl (vp_in_nI (by have := hN; skip; omega) (by decide)) dX1_put_29 (fun H locs hP hD hS => ?_)
  rw [nI_clamp (by have := hN; skip; omega)] at hP
  have hD : va_D A (mw cI cZ ad th (nI N) pa pe (upd g0 N x1) (upd g1 N x2) (upd g2 N 0)) := q_Dc (L := [ad 0, ad 1, ad 2, ad 3]) hD rfl rfl
  have hP : va_P D vwCl (mw cI cZ ad th (nI N) pa pe (upd g0 N x1) (upd g1 N x2) (upd g2 N 0)) H := hP
  refine lv_aload_n hx hb dX1_put_30 rfl (lv_at hl 0 rfl) ?_
  refine lv_dup hx hb dX1_put_31 rfl ?_
  refine va_get (D := D) (ci := 1) (v := .int (nI N)) (C := RX1) (T := TX1) (N := 7) hx hb hts hin hown hK hP 0 rfl rfl 1 (by decide) (hts (.fieldLink RX1 31 "SplicedTalkModel" "remarks" "I") (by decide +kernel)) (fun _ h9 => h9) rfl dX1_put_32 ?_
  refine lv_iconst (v := 1) hx hb dX1_put_35 (by decide) ?_
  refine lv_iadd hx hb dX1_put_36 ?_
  refine va_put (D := D) (ci := 1) (v := .int ((nI N) + 1)) (ty := .int) (C := RX1) (T := TX1) (N := 7) hx hb hts hin tyX1 tyX1_ok nmX1 hown hK hP hD hS 0 rfl rfl 1 (by decide) (hts (.fieldLink RX1 31 "SplicedTalkModel" "remarks" "I") (by decide +kernel)) (fun _ h9 => h9) rfl (by decide +kernel) rfl rfl (Nat.le_of_ble_eq_true rfl) dX1_put_37 (fun H locs hP hD hS => ?_)
  have hP : va_P D vwCl (mw cI cZ ad th ((nI N) + 1) pa pe (upd g0 N x1) (upd g1 N x2) (upd g2 N 0)) H := hP
  have hD : va_D A (mw cI cZ ad th ((nI N) + 1) pa pe (upd g0 N x1) (upd g1 N x2) (upd g2 N 0)) := q_Dc (L := [ad 0, ad 1, ad 2, ad 3]) hD rfl rfl
  rw [nI_1] at hP
  have hD : va_D A (mw cI cZ ad th (nI (N + 1)) pa pe (upd g0 N x1) (upd g1 N x2) (upd g2 N 0)) := q_Dc (L := [ad 0, ad 1, ad 2, ad 3]) hD rfl rfl
  refine lv_aload_n hx hb dX1_put_40 rfl (lv_at hl 0 rfl) ?_
  refine va_get (D := D) (ci := 1) (v := .int (nI (N + 1))) (C := RX1) (T := TX1) (N := 7) hx hb hts hin hown hK hP 0 rfl rfl 1 (by decide) (hts (.fieldLink RX1 31 "SplicedTalkModel" "remarks" "I") (by decide +kernel)) (fun _ h9 => h9) rfl dX1_put_41 ?_
  refine lv_iconst (v := 1) hx hb dX1_put_44 (by decide) ?_
  refine lv_isub hx hb dX1_put_45 ?_
  rw [nI_pred]
  exact m_retI hx hb hr hlocks hS hP rfl dX1_put_46

theorem kv_X1_move : yX1_move.cls = RX1 ∧ yX1_move.cls ≠ "java/lang/invoke/MethodHandle" ∧ yX1_move.cls ≠ "java/lang/invoke/VarHandle" ∧ (parseMethodDescriptor yX1_move.desc).map (fun d => d.parameters.length) = some 2 := by decide +kernel
theorem ks_X1_move : yX1_move.cls ≠ "java/lang/invoke/MethodHandle" ∧ yX1_move.cls ≠ "java/lang/invoke/VarHandle" ∧ (parseMethodDescriptor yX1_move.desc).map (fun d => d.parameters.length) = some 2 := kv_X1_move.2
set_option maxHeartbeats 4000000 in
set_option maxRecDepth 100000 in
theorem c_X1_move_up (l : Launch) (D : va_G) (cI cZ : ClassId) (ad : Nat → Nat) (th : Int32) (N : Nat) (pa pe : Int32) (g0 g1 g2 : Nat → Int32) (hN : N ≤ 24) (P : Nat) (hPN : P < N) (h2f : ∀ k : Nat, k < N → fits .boolean (.int (g2 k)) = true) : m_V l yX1_move wsX1_move ({ frames := 1, cells := 0, slots := 0, locals := 30 } : Room) D ([(cI, .int), (cZ, .boolean)]) (mw cI cZ ad th (nI N) pa pe g0 g1 g2) [.ref (ad 0), .int (nI (P + 1)), .int (-1)] (mw cI cZ ad th (nI (N - 1)) pa pe (va_cpy g0 g0 (P + 1) P (N - (P + 1))) (va_cpy g1 g1 (P + 1) P (N - (P + 1))) (va_cpy g2 g2 (P + 1) P (N - (P + 1)))) := by
  refine m_startV (cc := cX1_move) (maxL := 3) (by decide) rfl (Nat.le_of_ble_eq_true rfl) ?_
  intro p e s m below meth c A hx hb hml hr hts hown hlocks hK hA H locs ls hP hD hS hl
  have hin : ∀ w ∈ wsX10, w ∈ wsX1_move := by decide +kernel
  have hl : lv_has ls 3 [(0, .ref (ad 0)), (1, .int (nI (P + 1))), (2, .int (-1))] := hl
  refine lv_aload_n hx hb dX1_move_0 rfl (lv_at hl 0 rfl) ?_
  refine va_get (D := D) (ci := 1) (v := .ref (ad 1)) (C := RX1) (T := TX1) (N := 7) hx hb hts hin hown hK hP 0 rfl rfl 4 (by decide) (hts (.fieldLink RX1 13 "SplicedTalkModel" "topic" "[I") (by decide +kernel)) (fun _ h9 => h9) rfl dX1_move_1 ?_
  refine lv_iload_n hx hb dX1_move_4 rfl (lv_at hl 1 rfl) ?_
  refine lv_aload_n hx hb dX1_move_5 rfl (lv_at hl 0 rfl) ?_
  refine va_get (D := D) (ci := 1) (v := .ref (ad 1)) (C := RX1) (T := TX1) (N := 7) hx hb hts hin hown hK hP 0 rfl rfl 4 (by decide) (hts (.fieldLink RX1 13 "SplicedTalkModel" "topic" "[I") (by decide +kernel)) (fun _ h9 => h9) rfl dX1_move_6 ?_
  refine lv_iload_n hx hb dX1_move_9 rfl (lv_at hl 1 rfl) ?_
  refine lv_iload_n hx hb dX1_move_10 rfl (lv_at hl 2 rfl) ?_
  refine lv_iadd hx hb dX1_move_11 ?_
  rw [pk_m1]
  refine lv_aload_n hx hb dX1_move_12 rfl (lv_at hl 0 rfl) ?_
  refine va_get (D := D) (ci := 1) (v := .int (nI N)) (C := RX1) (T := TX1) (N := 7) hx hb hts hin hown hK hP 0 rfl rfl 1 (by decide) (hts (.fieldLink RX1 31 "SplicedTalkModel" "remarks" "I") (by decide +kernel)) (fun _ h9 => h9) rfl dX1_move_13 ?_
  refine lv_iload_n hx hb dX1_move_16 rfl (lv_at hl 1 rfl) ?_
  refine lv_isub hx hb dX1_move_17 ?_
  rw [pk_sub (by omega)]
  refine va_copyi hx hb (hml.trans hl.1.symm) hown (hts (.methodLink RX1 92 arraycopyName) (by decide +kernel)) (hts (.native arraycopyName) (by decide +kernel)) (hts (.static arraycopyName) (by decide +kernel)) (hts (.initialized "java/lang/System") (by decide +kernel)) hK hP hD hS 1 1 0 0 rfl rfl rfl rfl rfl (nI_pos (by omega)) (nI_pos (by omega)) (nI_pos (by omega)) (by rw [nI_clamp (by omega), nI_clamp (by omega)]; omega) (by rw [nI_clamp (by omega), nI_clamp (by omega)]; omega) (fun i hi => rfl) (Nat.le_of_ble_eq_true rfl) (Nat.le_of_ble_eq_true rfl) dX1_move_18 (fun H locs hP hD hS => ?_)
  rw [nI_clamp (show (P + 1) < 2 ^ 31 by omega), nI_clamp (show P < 2 ^ 31 by omega), nI_clamp (show (N - (P + 1)) < 2 ^ 31 by omega)] at hP
  have hD : va_D A (mw cI cZ ad th (nI N) pa pe (va_cpy g0 g0 (P + 1) P (N - (P + 1))) g1 g2) := q_Dc (L := [ad 0, ad 1, ad 2, ad 3]) hD rfl rfl
  have hP : va_P D vwCl (mw cI cZ ad th (nI N) pa pe (va_cpy g0 g0 (P + 1) P (N - (P + 1))) g1 g2) H := hP
  refine lv_aload_n hx hb dX1_move_21 rfl (lv_at hl 0 rfl) ?_
  refine va_get (D := D) (ci := 1) (v := .ref (ad 2)) (C := RX1) (T := TX1) (N := 7) hx hb hts hin hown hK hP 0 rfl rfl 5 (by decide) (hts (.fieldLink RX1 17 "SplicedTalkModel" "speaker" "[I") (by decide +kernel)) (fun _ h9 => h9) rfl dX1_move_22 ?_
  refine lv_iload_n hx hb dX1_move_25 rfl (lv_at hl 1 rfl) ?_
  refine lv_aload_n hx hb dX1_move_26 rfl (lv_at hl 0 rfl) ?_
  refine va_get (D := D) (ci := 1) (v := .ref (ad 2)) (C := RX1) (T := TX1) (N := 7) hx hb hts hin hown hK hP 0 rfl rfl 5 (by decide) (hts (.fieldLink RX1 17 "SplicedTalkModel" "speaker" "[I") (by decide +kernel)) (fun _ h9 => h9) rfl dX1_move_27 ?_
  refine lv_iload_n hx hb dX1_move_30 rfl (lv_at hl 1 rfl) ?_
  refine lv_iload_n hx hb dX1_move_31 rfl (lv_at hl 2 rfl) ?_
  refine lv_iadd hx hb dX1_move_32 ?_
  rw [pk_m1]
  refine lv_aload_n hx hb dX1_move_33 rfl (lv_at hl 0 rfl) ?_
  refine va_get (D := D) (ci := 1) (v := .int (nI N)) (C := RX1) (T := TX1) (N := 7) hx hb hts hin hown hK hP 0 rfl rfl 1 (by decide) (hts (.fieldLink RX1 31 "SplicedTalkModel" "remarks" "I") (by decide +kernel)) (fun _ h9 => h9) rfl dX1_move_34 ?_
  refine lv_iload_n hx hb dX1_move_37 rfl (lv_at hl 1 rfl) ?_
  refine lv_isub hx hb dX1_move_38 ?_
  rw [pk_sub (by omega)]
  refine va_copyi hx hb (hml.trans hl.1.symm) hown (hts (.methodLink RX1 92 arraycopyName) (by decide +kernel)) (hts (.native arraycopyName) (by decide +kernel)) (hts (.static arraycopyName) (by decide +kernel)) (hts (.initialized "java/lang/System") (by decide +kernel)) hK hP hD hS 2 2 0 0 rfl rfl rfl rfl rfl (nI_pos (by omega)) (nI_pos (by omega)) (nI_pos (by omega)) (by rw [nI_clamp (by omega), nI_clamp (by omega)]; omega) (by rw [nI_clamp (by omega), nI_clamp (by omega)]; omega) (fun i hi => rfl) (Nat.le_of_ble_eq_true rfl) (Nat.le_of_ble_eq_true rfl) dX1_move_39 (fun H locs hP hD hS => ?_)
  rw [nI_clamp (show (P + 1) < 2 ^ 31 by omega), nI_clamp (show P < 2 ^ 31 by omega), nI_clamp (show (N - (P + 1)) < 2 ^ 31 by omega)] at hP
  have hD : va_D A (mw cI cZ ad th (nI N) pa pe (va_cpy g0 g0 (P + 1) P (N - (P + 1))) (va_cpy g1 g1 (P + 1) P (N - (P + 1))) g2) := q_Dc (L := [ad 0, ad 1, ad 2, ad 3]) hD rfl rfl
  have hP : va_P D vwCl (mw cI cZ ad th (nI N) pa pe (va_cpy g0 g0 (P + 1) P (N - (P + 1))) (va_cpy g1 g1 (P + 1) P (N - (P + 1))) g2) H := hP
  refine lv_aload_n hx hb dX1_move_42 rfl (lv_at hl 0 rfl) ?_
  refine va_get (D := D) (ci := 1) (v := .ref (ad 3)) (C := RX1) (T := TX1) (N := 7) hx hb hts hin hown hK hP 0 rfl rfl 6 (by decide) (hts (.fieldLink RX1 20 "SplicedTalkModel" "tied" "[Z") (by decide +kernel)) (fun _ h9 => h9) rfl dX1_move_43 ?_
  refine lv_iload_n hx hb dX1_move_46 rfl (lv_at hl 1 rfl) ?_
  refine lv_aload_n hx hb dX1_move_47 rfl (lv_at hl 0 rfl) ?_
  refine va_get (D := D) (ci := 1) (v := .ref (ad 3)) (C := RX1) (T := TX1) (N := 7) hx hb hts hin hown hK hP 0 rfl rfl 6 (by decide) (hts (.fieldLink RX1 20 "SplicedTalkModel" "tied" "[Z") (by decide +kernel)) (fun _ h9 => h9) rfl dX1_move_48 ?_
  refine lv_iload_n hx hb dX1_move_51 rfl (lv_at hl 1 rfl) ?_
  refine lv_iload_n hx hb dX1_move_52 rfl (lv_at hl 2 rfl) ?_
  refine lv_iadd hx hb dX1_move_53 ?_
  rw [pk_m1]
  refine lv_aload_n hx hb dX1_move_54 rfl (lv_at hl 0 rfl) ?_
  refine va_get (D := D) (ci := 1) (v := .int (nI N)) (C := RX1) (T := TX1) (N := 7) hx hb hts hin hown hK hP 0 rfl rfl 1 (by decide) (hts (.fieldLink RX1 31 "SplicedTalkModel" "remarks" "I") (by decide +kernel)) (fun _ h9 => h9) rfl dX1_move_55 ?_
  refine lv_iload_n hx hb dX1_move_58 rfl (lv_at hl 1 rfl) ?_
  refine lv_isub hx hb dX1_move_59 ?_
  rw [pk_sub (by omega)]
  refine va_copyi hx hb (hml.trans hl.1.symm) hown (hts (.methodLink RX1 92 arraycopyName) (by decide +kernel)) (hts (.native arraycopyName) (by decide +kernel)) (hts (.static arraycopyName) (by decide +kernel)) (hts (.initialized "java/lang/System") (by decide +kernel)) hK hP hD hS 3 3 1 1 rfl rfl rfl rfl rfl (nI_pos (by omega)) (nI_pos (by omega)) (nI_pos (by omega)) (by rw [nI_clamp (by omega), nI_clamp (by omega)]; omega) (by rw [nI_clamp (by omega), nI_clamp (by omega)]; omega) (fun i hi => h2f _ (by rw [nI_clamp (by omega)] at hi ⊢; omega)) (Nat.le_of_ble_eq_true rfl) (Nat.le_of_ble_eq_true rfl) dX1_move_60 (fun H locs hP hD hS => ?_)
  rw [nI_clamp (show (P + 1) < 2 ^ 31 by omega), nI_clamp (show P < 2 ^ 31 by omega), nI_clamp (show (N - (P + 1)) < 2 ^ 31 by omega)] at hP
  have hD : va_D A (mw cI cZ ad th (nI N) pa pe (va_cpy g0 g0 (P + 1) P (N - (P + 1))) (va_cpy g1 g1 (P + 1) P (N - (P + 1))) (va_cpy g2 g2 (P + 1) P (N - (P + 1)))) := q_Dc (L := [ad 0, ad 1, ad 2, ad 3]) hD rfl rfl
  have hP : va_P D vwCl (mw cI cZ ad th (nI N) pa pe (va_cpy g0 g0 (P + 1) P (N - (P + 1))) (va_cpy g1 g1 (P + 1) P (N - (P + 1))) (va_cpy g2 g2 (P + 1) P (N - (P + 1)))) H := hP
  refine lv_aload_n hx hb dX1_move_63 rfl (lv_at hl 0 rfl) ?_
  refine lv_dup hx hb dX1_move_64 rfl ?_
  refine va_get (D := D) (ci := 1) (v := .int (nI N)) (C := RX1) (T := TX1) (N := 7) hx hb hts hin hown hK hP 0 rfl rfl 1 (by decide) (hts (.fieldLink RX1 31 "SplicedTalkModel" "remarks" "I") (by decide +kernel)) (fun _ h9 => h9) rfl dX1_move_65 ?_
  refine lv_iload_n hx hb dX1_move_68 rfl (lv_at hl 2 rfl) ?_
  refine lv_iadd hx hb dX1_move_69 ?_
  refine va_put (D := D) (ci := 1) (v := .int ((nI N) + (-1))) (ty := .int) (C := RX1) (T := TX1) (N := 7) hx hb hts hin tyX1 tyX1_ok nmX1 hown hK hP hD hS 0 rfl rfl 1 (by decide) (hts (.fieldLink RX1 31 "SplicedTalkModel" "remarks" "I") (by decide +kernel)) (fun _ h9 => h9) rfl (by decide +kernel) rfl rfl (Nat.le_of_ble_eq_true rfl) dX1_move_70 (fun H locs hP hD hS => ?_)
  have hP : va_P D vwCl (mw cI cZ ad th ((nI N) + (-1)) pa pe (va_cpy g0 g0 (P + 1) P (N - (P + 1))) (va_cpy g1 g1 (P + 1) P (N - (P + 1))) (va_cpy g2 g2 (P + 1) P (N - (P + 1)))) H := hP
  have hD : va_D A (mw cI cZ ad th ((nI N) + (-1)) pa pe (va_cpy g0 g0 (P + 1) P (N - (P + 1))) (va_cpy g1 g1 (P + 1) P (N - (P + 1))) (va_cpy g2 g2 (P + 1) P (N - (P + 1)))) := q_Dc (L := [ad 0, ad 1, ad 2, ad 3]) hD rfl rfl
  rw [k_Nm1 (by omega)] at hP
  have hD : va_D A (mw cI cZ ad th (nI (N - 1)) pa pe (va_cpy g0 g0 (P + 1) P (N - (P + 1))) (va_cpy g1 g1 (P + 1) P (N - (P + 1))) (va_cpy g2 g2 (P + 1) P (N - (P + 1)))) := q_Dc (L := [ad 0, ad 1, ad 2, ad 3]) hD rfl rfl
  exact m_retV hx hb hr hlocks hS hP dX1_move_73

set_option maxHeartbeats 4000000 in
set_option maxRecDepth 100000 in
theorem c_X1_move_dn (l : Launch) (D : va_G) (cI cZ : ClassId) (ad : Nat → Nat) (th : Int32) (N : Nat) (pa pe : Int32) (g0 g1 g2 : Nat → Int32) (hN : N ≤ 24) (P : Nat) (hPN : P < N) (h2f : ∀ k : Nat, k < N → fits .boolean (.int (g2 k)) = true) : m_V l yX1_move wsX1_move ({ frames := 1, cells := 0, slots := 0, locals := 30 } : Room) D ([(cI, .int), (cZ, .boolean)]) (mw cI cZ ad th (nI N) pa pe g0 g1 g2) [.ref (ad 0), .int (nI (P + 1)), .int 1] (mw cI cZ ad th (nI (N + 1)) pa pe (va_cpy g0 g0 (P + 1) (P + 1 + 1) (N - (P + 1))) (va_cpy g1 g1 (P + 1) (P + 1 + 1) (N - (P + 1))) (va_cpy g2 g2 (P + 1) (P + 1 + 1) (N - (P + 1)))) := by
  refine m_startV (cc := cX1_move) (maxL := 3) (by decide) rfl (Nat.le_of_ble_eq_true rfl) ?_
  intro p e s m below meth c A hx hb hml hr hts hown hlocks hK hA H locs ls hP hD hS hl
  have hin : ∀ w ∈ wsX10, w ∈ wsX1_move := by decide +kernel
  have hl : lv_has ls 3 [(0, .ref (ad 0)), (1, .int (nI (P + 1))), (2, .int 1)] := hl
  refine lv_aload_n hx hb dX1_move_0 rfl (lv_at hl 0 rfl) ?_
  refine va_get (D := D) (ci := 1) (v := .ref (ad 1)) (C := RX1) (T := TX1) (N := 7) hx hb hts hin hown hK hP 0 rfl rfl 4 (by decide) (hts (.fieldLink RX1 13 "SplicedTalkModel" "topic" "[I") (by decide +kernel)) (fun _ h9 => h9) rfl dX1_move_1 ?_
  refine lv_iload_n hx hb dX1_move_4 rfl (lv_at hl 1 rfl) ?_
  refine lv_aload_n hx hb dX1_move_5 rfl (lv_at hl 0 rfl) ?_
  refine va_get (D := D) (ci := 1) (v := .ref (ad 1)) (C := RX1) (T := TX1) (N := 7) hx hb hts hin hown hK hP 0 rfl rfl 4 (by decide) (hts (.fieldLink RX1 13 "SplicedTalkModel" "topic" "[I") (by decide +kernel)) (fun _ h9 => h9) rfl dX1_move_6 ?_
  refine lv_iload_n hx hb dX1_move_9 rfl (lv_at hl 1 rfl) ?_
  refine lv_iload_n hx hb dX1_move_10 rfl (lv_at hl 2 rfl) ?_
  refine lv_iadd hx hb dX1_move_11 ?_
  rw [nI_1]
  refine lv_aload_n hx hb dX1_move_12 rfl (lv_at hl 0 rfl) ?_
  refine va_get (D := D) (ci := 1) (v := .int (nI N)) (C := RX1) (T := TX1) (N := 7) hx hb hts hin hown hK hP 0 rfl rfl 1 (by decide) (hts (.fieldLink RX1 31 "SplicedTalkModel" "remarks" "I") (by decide +kernel)) (fun _ h9 => h9) rfl dX1_move_13 ?_
  refine lv_iload_n hx hb dX1_move_16 rfl (lv_at hl 1 rfl) ?_
  refine lv_isub hx hb dX1_move_17 ?_
  rw [pk_sub (by omega)]
  refine va_copyi hx hb (hml.trans hl.1.symm) hown (hts (.methodLink RX1 92 arraycopyName) (by decide +kernel)) (hts (.native arraycopyName) (by decide +kernel)) (hts (.static arraycopyName) (by decide +kernel)) (hts (.initialized "java/lang/System") (by decide +kernel)) hK hP hD hS 1 1 0 0 rfl rfl rfl rfl rfl (nI_pos (by omega)) (nI_pos (by omega)) (nI_pos (by omega)) (by rw [nI_clamp (by omega), nI_clamp (by omega)]; omega) (by rw [nI_clamp (by omega), nI_clamp (by omega)]; omega) (fun i hi => rfl) (Nat.le_of_ble_eq_true rfl) (Nat.le_of_ble_eq_true rfl) dX1_move_18 (fun H locs hP hD hS => ?_)
  rw [nI_clamp (show (P + 1) < 2 ^ 31 by omega), nI_clamp (show (P + 1 + 1) < 2 ^ 31 by omega), nI_clamp (show (N - (P + 1)) < 2 ^ 31 by omega)] at hP
  have hD : va_D A (mw cI cZ ad th (nI N) pa pe (va_cpy g0 g0 (P + 1) (P + 1 + 1) (N - (P + 1))) g1 g2) := q_Dc (L := [ad 0, ad 1, ad 2, ad 3]) hD rfl rfl
  have hP : va_P D vwCl (mw cI cZ ad th (nI N) pa pe (va_cpy g0 g0 (P + 1) (P + 1 + 1) (N - (P + 1))) g1 g2) H := hP
  refine lv_aload_n hx hb dX1_move_21 rfl (lv_at hl 0 rfl) ?_
  refine va_get (D := D) (ci := 1) (v := .ref (ad 2)) (C := RX1) (T := TX1) (N := 7) hx hb hts hin hown hK hP 0 rfl rfl 5 (by decide) (hts (.fieldLink RX1 17 "SplicedTalkModel" "speaker" "[I") (by decide +kernel)) (fun _ h9 => h9) rfl dX1_move_22 ?_
  refine lv_iload_n hx hb dX1_move_25 rfl (lv_at hl 1 rfl) ?_
  refine lv_aload_n hx hb dX1_move_26 rfl (lv_at hl 0 rfl) ?_
  refine va_get (D := D) (ci := 1) (v := .ref (ad 2)) (C := RX1) (T := TX1) (N := 7) hx hb hts hin hown hK hP 0 rfl rfl 5 (by decide) (hts (.fieldLink RX1 17 "SplicedTalkModel" "speaker" "[I") (by decide +kernel)) (fun _ h9 => h9) rfl dX1_move_27 ?_
  refine lv_iload_n hx hb dX1_move_30 rfl (lv_at hl 1 rfl) ?_
  refine lv_iload_n hx hb dX1_move_31 rfl (lv_at hl 2 rfl) ?_
  refine lv_iadd hx hb dX1_move_32 ?_
  rw [nI_1]
  refine lv_aload_n hx hb dX1_move_33 rfl (lv_at hl 0 rfl) ?_
  refine va_get (D := D) (ci := 1) (v := .int (nI N)) (C := RX1) (T := TX1) (N := 7) hx hb hts hin hown hK hP 0 rfl rfl 1 (by decide) (hts (.fieldLink RX1 31 "SplicedTalkModel" "remarks" "I") (by decide +kernel)) (fun _ h9 => h9) rfl dX1_move_34 ?_
  refine lv_iload_n hx hb dX1_move_37 rfl (lv_at hl 1 rfl) ?_
  refine lv_isub hx hb dX1_move_38 ?_
  rw [pk_sub (by omega)]
  refine va_copyi hx hb (hml.trans hl.1.symm) hown (hts (.methodLink RX1 92 arraycopyName) (by decide +kernel)) (hts (.native arraycopyName) (by decide +kernel)) (hts (.static arraycopyName) (by decide +kernel)) (hts (.initialized "java/lang/System") (by decide +kernel)) hK hP hD hS 2 2 0 0 rfl rfl rfl rfl rfl (nI_pos (by omega)) (nI_pos (by omega)) (nI_pos (by omega)) (by rw [nI_clamp (by omega), nI_clamp (by omega)]; omega) (by rw [nI_clamp (by omega), nI_clamp (by omega)]; omega) (fun i hi => rfl) (Nat.le_of_ble_eq_true rfl) (Nat.le_of_ble_eq_true rfl) dX1_move_39 (fun H locs hP hD hS => ?_)
  rw [nI_clamp (show (P + 1) < 2 ^ 31 by omega), nI_clamp (show (P + 1 + 1) < 2 ^ 31 by omega), nI_clamp (show (N - (P + 1)) < 2 ^ 31 by omega)] at hP
  have hD : va_D A (mw cI cZ ad th (nI N) pa pe (va_cpy g0 g0 (P + 1) (P + 1 + 1) (N - (P + 1))) (va_cpy g1 g1 (P + 1) (P + 1 + 1) (N - (P + 1))) g2) := q_Dc (L := [ad 0, ad 1, ad 2, ad 3]) hD rfl rfl
  have hP : va_P D vwCl (mw cI cZ ad th (nI N) pa pe (va_cpy g0 g0 (P + 1) (P + 1 + 1) (N - (P + 1))) (va_cpy g1 g1 (P + 1) (P + 1 + 1) (N - (P + 1))) g2) H := hP
  refine lv_aload_n hx hb dX1_move_42 rfl (lv_at hl 0 rfl) ?_
  refine va_get (D := D) (ci := 1) (v := .ref (ad 3)) (C := RX1) (T := TX1) (N := 7) hx hb hts hin hown hK hP 0 rfl rfl 6 (by decide) (hts (.fieldLink RX1 20 "SplicedTalkModel" "tied" "[Z") (by decide +kernel)) (fun _ h9 => h9) rfl dX1_move_43 ?_
  refine lv_iload_n hx hb dX1_move_46 rfl (lv_at hl 1 rfl) ?_
  refine lv_aload_n hx hb dX1_move_47 rfl (lv_at hl 0 rfl) ?_
  refine va_get (D := D) (ci := 1) (v := .ref (ad 3)) (C := RX1) (T := TX1) (N := 7) hx hb hts hin hown hK hP 0 rfl rfl 6 (by decide) (hts (.fieldLink RX1 20 "SplicedTalkModel" "tied" "[Z") (by decide +kernel)) (fun _ h9 => h9) rfl dX1_move_48 ?_
  refine lv_iload_n hx hb dX1_move_51 rfl (lv_at hl 1 rfl) ?_
  refine lv_iload_n hx hb dX1_move_52 rfl (lv_at hl 2 rfl) ?_
  refine lv_iadd hx hb dX1_move_53 ?_
  rw [nI_1]
  refine lv_aload_n hx hb dX1_move_54 rfl (lv_at hl 0 rfl) ?_
  refine va_get (D := D) (ci := 1) (v := .int (nI N)) (C := RX1) (T := TX1) (N := 7) hx hb hts hin hown hK hP 0 rfl rfl 1 (by decide) (hts (.fieldLink RX1 31 "SplicedTalkModel" "remarks" "I") (by decide +kernel)) (fun _ h9 => h9) rfl dX1_move_55 ?_
  refine lv_iload_n hx hb dX1_move_58 rfl (lv_at hl 1 rfl) ?_
  refine lv_isub hx hb dX1_move_59 ?_
  rw [pk_sub (by omega)]
  refine va_copyi hx hb (hml.trans hl.1.symm) hown (hts (.methodLink RX1 92 arraycopyName) (by decide +kernel)) (hts (.native arraycopyName) (by decide +kernel)) (hts (.static arraycopyName) (by decide +kernel)) (hts (.initialized "java/lang/System") (by decide +kernel)) hK hP hD hS 3 3 1 1 rfl rfl rfl rfl rfl (nI_pos (by omega)) (nI_pos (by omega)) (nI_pos (by omega)) (by rw [nI_clamp (by omega), nI_clamp (by omega)]; omega) (by rw [nI_clamp (by omega), nI_clamp (by omega)]; omega) (fun i hi => h2f _ (by rw [nI_clamp (by omega)] at hi ⊢; omega)) (Nat.le_of_ble_eq_true rfl) (Nat.le_of_ble_eq_true rfl) dX1_move_60 (fun H locs hP hD hS => ?_)
  rw [nI_clamp (show (P + 1) < 2 ^ 31 by omega), nI_clamp (show (P + 1 + 1) < 2 ^ 31 by omega), nI_clamp (show (N - (P + 1)) < 2 ^ 31 by omega)] at hP
  have hD : va_D A (mw cI cZ ad th (nI N) pa pe (va_cpy g0 g0 (P + 1) (P + 1 + 1) (N - (P + 1))) (va_cpy g1 g1 (P + 1) (P + 1 + 1) (N - (P + 1))) (va_cpy g2 g2 (P + 1) (P + 1 + 1) (N - (P + 1)))) := q_Dc (L := [ad 0, ad 1, ad 2, ad 3]) hD rfl rfl
  have hP : va_P D vwCl (mw cI cZ ad th (nI N) pa pe (va_cpy g0 g0 (P + 1) (P + 1 + 1) (N - (P + 1))) (va_cpy g1 g1 (P + 1) (P + 1 + 1) (N - (P + 1))) (va_cpy g2 g2 (P + 1) (P + 1 + 1) (N - (P + 1)))) H := hP
  refine lv_aload_n hx hb dX1_move_63 rfl (lv_at hl 0 rfl) ?_
  refine lv_dup hx hb dX1_move_64 rfl ?_
  refine va_get (D := D) (ci := 1) (v := .int (nI N)) (C := RX1) (T := TX1) (N := 7) hx hb hts hin hown hK hP 0 rfl rfl 1 (by decide) (hts (.fieldLink RX1 31 "SplicedTalkModel" "remarks" "I") (by decide +kernel)) (fun _ h9 => h9) rfl dX1_move_65 ?_
  refine lv_iload_n hx hb dX1_move_68 rfl (lv_at hl 2 rfl) ?_
  refine lv_iadd hx hb dX1_move_69 ?_
  refine va_put (D := D) (ci := 1) (v := .int ((nI N) + 1)) (ty := .int) (C := RX1) (T := TX1) (N := 7) hx hb hts hin tyX1 tyX1_ok nmX1 hown hK hP hD hS 0 rfl rfl 1 (by decide) (hts (.fieldLink RX1 31 "SplicedTalkModel" "remarks" "I") (by decide +kernel)) (fun _ h9 => h9) rfl (by decide +kernel) rfl rfl (Nat.le_of_ble_eq_true rfl) dX1_move_70 (fun H locs hP hD hS => ?_)
  have hP : va_P D vwCl (mw cI cZ ad th ((nI N) + 1) pa pe (va_cpy g0 g0 (P + 1) (P + 1 + 1) (N - (P + 1))) (va_cpy g1 g1 (P + 1) (P + 1 + 1) (N - (P + 1))) (va_cpy g2 g2 (P + 1) (P + 1 + 1) (N - (P + 1)))) H := hP
  have hD : va_D A (mw cI cZ ad th ((nI N) + 1) pa pe (va_cpy g0 g0 (P + 1) (P + 1 + 1) (N - (P + 1))) (va_cpy g1 g1 (P + 1) (P + 1 + 1) (N - (P + 1))) (va_cpy g2 g2 (P + 1) (P + 1 + 1) (N - (P + 1)))) := q_Dc (L := [ad 0, ad 1, ad 2, ad 3]) hD rfl rfl
  rw [nI_1] at hP
  have hD : va_D A (mw cI cZ ad th (nI (N + 1)) pa pe (va_cpy g0 g0 (P + 1) (P + 1 + 1) (N - (P + 1))) (va_cpy g1 g1 (P + 1) (P + 1 + 1) (N - (P + 1))) (va_cpy g2 g2 (P + 1) (P + 1 + 1) (N - (P + 1)))) := q_Dc (L := [ad 0, ad 1, ad 2, ad 3]) hD rfl rfl
  exact m_retV hx hb hr hlocks hS hP dX1_move_73

theorem kv_X1_say : yX1_say.cls = RX1 ∧ yX1_say.cls ≠ "java/lang/invoke/MethodHandle" ∧ yX1_say.cls ≠ "java/lang/invoke/VarHandle" ∧ (parseMethodDescriptor yX1_say.desc).map (fun d => d.parameters.length) = some 2 := by decide +kernel
theorem ks_X1_say : yX1_say.cls ≠ "java/lang/invoke/MethodHandle" ∧ yX1_say.cls ≠ "java/lang/invoke/VarHandle" ∧ (parseMethodDescriptor yX1_say.desc).map (fun d => d.parameters.length) = some 2 := kv_X1_say.2
set_option maxHeartbeats 4000000 in
set_option maxRecDepth 100000 in
theorem c_X1_say_1 (l : Launch) (D : va_G) (cI cZ : ClassId) (ad : Nat → Nat) (th : Int32) (N : Nat) (pa pe : Int32) (g0 g1 g2 : Nat → Int32) (hN : N ≤ 24) (x1 : Int32) (x2 : Int32) (h1 : m_in x1 0 5 = false) : m_I l yX1_say wsX1_say ({ frames := 2, cells := 0, slots := 0, locals := 42 } : Room) D ([(cI, .int), (cZ, .boolean)]) (mw cI cZ ad th (nI N) pa pe g0 g1 g2) [.ref (ad 0), .int x1, .int x2] 0 (mw cI cZ ad 1 (nI N) pa pe g0 g1 g2) := by
  refine m_startI (cc := cX1_say) (maxL := 3) (rt := .int) (by decide) rfl (Nat.le_of_ble_eq_true rfl) ?_
  intro p e s m below meth c A hx hb hml hr hts hown hlocks hK hA H locs ls hP hD hS hl
  have hin : ∀ w ∈ wsX10, w ∈ wsX1_say := by decide +kernel
  have hl : lv_has ls 3 [(0, .ref (ad 0)), (1, .int x1), (2, .int x2)] := hl
  refine lv_aload_n hx hb dX1_say_0 rfl (lv_at hl 0 rfl) ?_
  refine lv_iconst (v := 0) hx hb dX1_say_1 (by decide) ?_
  refine va_put (D := D) (ci := 1) (v := .int 0) (ty := .int) (C := RX1) (T := TX1) (N := 7) hx hb hts hin tyX1 tyX1_ok nmX1 hown hK hP hD hS 0 rfl rfl 0 (by decide) (hts (.fieldLink RX1 24 "SplicedTalkModel" "thrown" "I") (by decide +kernel)) (fun _ h9 => h9) rfl (by decide +kernel) rfl rfl (Nat.le_of_ble_eq_true rfl) dX1_say_2 (fun H locs hP hD hS => ?_)
  have hP : va_P D vwCl (mw cI cZ ad 0 (nI N) pa pe g0 g1 g2) H := hP
  have hD : va_D A (mw cI cZ ad 0 (nI N) pa pe g0 g1 g2) := q_Dc (L := [ad 0, ad 1, ad 2, ad 3]) hD rfl rfl
  refine lv_iload_n hx hb dX1_say_5 rfl (lv_at hl 1 rfl) ?_
  refine q_callS (As := [.int x1]) (rest := []) ⟨hx, hb, hml, hown, hts⟩ (c_X1_isSpeaker l D x1) (va_cwS 1 hts gX1_say_X1_isSpeaker rfl rfl rfl ks_X1_isSpeaker ⟨Nat.le_of_ble_eq_true rfl, Nat.le_of_ble_eq_true rfl⟩) (hP.sub [] rfl) (hK.sub [] rfl) rfl hl.1 rfl (Nat.le_of_ble_eq_true rfl) dX1_say_6 (Nat.zero_le _) (Nat.zero_le _) hS (fun H locs hsm hS => ?_)
  have hP := hsm.P hP
  refine lv_if_ne (tgt := 18) hx hb dX1_say_9 (by decide) (fun h9 => absurd (bI_0.mpr h1) h9) (fun c_9 => ?_)
  refine lv_aload_n hx hb dX1_say_12 rfl (lv_at hl 0 rfl) ?_
  refine lv_iconst (v := 1) hx hb dX1_say_13 (by decide) ?_
  refine m_callVI (As := [.int 1]) (rest := []) (Wr := []) (W2 := (mw cI cZ ad 1 (nI N) pa pe g0 g1 g2)) ⟨hx, hb, hml, hown, hts⟩ (c_X1_fail l D cI cZ ad 0 N pa pe g0 g1 g2 hN 1) (cwV 1 hts gX1_say_X1_fail rfl rfl rfl kv_X1_fail ⟨Nat.le_of_ble_eq_true rfl, Nat.le_of_ble_eq_true rfl⟩) (va_recv hK hP (ci := 1) (q0 := 0) rfl rfl) hP hD hK hA [0, 1, 2, 3] [] [0, 1, 2, 3] rfl rfl rfl rfl rfl (by decide) rfl rfl rfl hl.1 rfl (Nat.le_of_ble_eq_true rfl) dX1_say_14 (Nat.zero_le _) (Nat.zero_le _) hS (fun H locs hP hS => ?_)
  have hD : va_D A (mw cI cZ ad 1 (nI N) pa pe g0 g1 g2) := q_Dc (L := [ad 0, ad 1, ad 2, ad 3]) hD rfl rfl
  exact m_retI hx hb hr hlocks hS hP rfl dX1_say_17

set_option maxHeartbeats 4000000 in
set_option maxRecDepth 100000 in
theorem c_X1_say_2 (l : Launch) (D : va_G) (cI cZ : ClassId) (ad : Nat → Nat) (th : Int32) (N : Nat) (pa pe : Int32) (g0 g1 g2 : Nat → Int32) (hN : N ≤ 24) (x1 : Int32) (x2 : Int32) (h1 : m_in x1 0 5 = true) (h2 : m_in x2 0 9 = false) : m_I l yX1_say wsX1_say ({ frames := 2, cells := 0, slots := 0, locals := 42 } : Room) D ([(cI, .int), (cZ, .boolean)]) (mw cI cZ ad th (nI N) pa pe g0 g1 g2) [.ref (ad 0), .int x1, .int x2] 0 (mw cI cZ ad 2 (nI N) pa pe g0 g1 g2) := by
  refine m_startI (cc := cX1_say) (maxL := 3) (rt := .int) (by decide) rfl (Nat.le_of_ble_eq_true rfl) ?_
  intro p e s m below meth c A hx hb hml hr hts hown hlocks hK hA H locs ls hP hD hS hl
  have hin : ∀ w ∈ wsX10, w ∈ wsX1_say := by decide +kernel
  have hl : lv_has ls 3 [(0, .ref (ad 0)), (1, .int x1), (2, .int x2)] := hl
  refine lv_aload_n hx hb dX1_say_0 rfl (lv_at hl 0 rfl) ?_
  refine lv_iconst (v := 0) hx hb dX1_say_1 (by decide) ?_
  refine va_put (D := D) (ci := 1) (v := .int 0) (ty := .int) (C := RX1) (T := TX1) (N := 7) hx hb hts hin tyX1 tyX1_ok nmX1 hown hK hP hD hS 0 rfl rfl 0 (by decide) (hts (.fieldLink RX1 24 "SplicedTalkModel" "thrown" "I") (by decide +kernel)) (fun _ h9 => h9) rfl (by decide +kernel) rfl rfl (Nat.le_of_ble_eq_true rfl) dX1_say_2 (fun H locs hP hD hS => ?_)
  have hP : va_P D vwCl (mw cI cZ ad 0 (nI N) pa pe g0 g1 g2) H := hP
  have hD : va_D A (mw cI cZ ad 0 (nI N) pa pe g0 g1 g2) := q_Dc (L := [ad 0, ad 1, ad 2, ad 3]) hD rfl rfl
  refine lv_iload_n hx hb dX1_say_5 rfl (lv_at hl 1 rfl) ?_
  refine q_callS (As := [.int x1]) (rest := []) ⟨hx, hb, hml, hown, hts⟩ (c_X1_isSpeaker l D x1) (va_cwS 1 hts gX1_say_X1_isSpeaker rfl rfl rfl ks_X1_isSpeaker ⟨Nat.le_of_ble_eq_true rfl, Nat.le_of_ble_eq_true rfl⟩) (hP.sub [] rfl) (hK.sub [] rfl) rfl hl.1 rfl (Nat.le_of_ble_eq_true rfl) dX1_say_6 (Nat.zero_le _) (Nat.zero_le _) hS (fun H locs hsm hS => ?_)
  have hP := hsm.P hP
  refine lv_if_ne (tgt := 18) hx hb dX1_say_9 (by decide) (fun c_9 => ?_) (fun h9 => absurd (h1.symm.trans (bI_0.mp h9)) (by decide))
  refine lv_iload_n hx hb dX1_say_18 rfl (lv_at hl 2 rfl) ?_
  refine lv_iconst (v := 0) hx hb dX1_say_19 (by decide) ?_
  refine lv_bipush (v := 9) hx hb dX1_say_20 (by decide) ?_
  refine q_callS (As := [.int x2, .int 0, .int 9]) (rest := []) ⟨hx, hb, hml, hown, hts⟩ (c_X1_isIn l D x2 0 9) (va_cwS 3 hts gX1_say_X1_isIn rfl rfl rfl ks_X1_isIn ⟨Nat.le_of_ble_eq_true rfl, Nat.le_of_ble_eq_true rfl⟩) (hP.sub [] rfl) (hK.sub [] rfl) rfl hl.1 rfl (Nat.le_of_ble_eq_true rfl) dX1_say_22 (Nat.zero_le _) (Nat.zero_le _) hS (fun H locs hsm hS => ?_)
  have hP := hsm.P hP
  refine lv_if_ne (tgt := 34) hx hb dX1_say_25 (by decide) (fun h9 => absurd (bI_0.mpr h2) h9) (fun c_25 => ?_)
  refine lv_aload_n hx hb dX1_say_28 rfl (lv_at hl 0 rfl) ?_
  refine lv_iconst (v := 2) hx hb dX1_say_29 (by decide) ?_
  refine m_callVI (As := [.int 2]) (rest := []) (Wr := []) (W2 := (mw cI cZ ad 2 (nI N) pa pe g0 g1 g2)) ⟨hx, hb, hml, hown, hts⟩ (c_X1_fail l D cI cZ ad 0 N pa pe g0 g1 g2 hN 2) (cwV 1 hts gX1_say_X1_fail rfl rfl rfl kv_X1_fail ⟨Nat.le_of_ble_eq_true rfl, Nat.le_of_ble_eq_true rfl⟩) (va_recv hK hP (ci := 1) (q0 := 0) rfl rfl) hP hD hK hA [0, 1, 2, 3] [] [0, 1, 2, 3] rfl rfl rfl rfl rfl (by decide) rfl rfl rfl hl.1 rfl (Nat.le_of_ble_eq_true rfl) dX1_say_30 (Nat.zero_le _) (Nat.zero_le _) hS (fun H locs hP hS => ?_)
  have hD : va_D A (mw cI cZ ad 2 (nI N) pa pe g0 g1 g2) := q_Dc (L := [ad 0, ad 1, ad 2, ad 3]) hD rfl rfl
  exact m_retI hx hb hr hlocks hS hP rfl dX1_say_33

set_option maxHeartbeats 4000000 in
set_option maxRecDepth 100000 in
theorem c_X1_say_3 (l : Launch) (D : va_G) (cI cZ : ClassId) (ad : Nat → Nat) (th : Int32) (N : Nat) (pa pe : Int32) (g0 g1 g2 : Nat → Int32) (hN : N ≤ 24) (x1 : Int32) (x2 : Int32) (h1 : m_in x1 0 5 = true) (h2 : m_in x2 0 9 = true) (h3 : N = 24) : m_I l yX1_say wsX1_say ({ frames := 2, cells := 0, slots := 0, locals := 42 } : Room) D ([(cI, .int), (cZ, .boolean)]) (mw cI cZ ad th (nI N) pa pe g0 g1 g2) [.ref (ad 0), .int x1, .int x2] 0 (mw cI cZ ad 3 (nI N) pa pe g0 g1 g2) := by
  refine m_startI (cc := cX1_say) (maxL := 3) (rt := .int) (by decide) rfl (Nat.le_of_ble_eq_true rfl) ?_
  intro p e s m below meth c A hx hb hml hr hts hown hlocks hK hA H locs ls hP hD hS hl
  have hin : ∀ w ∈ wsX10, w ∈ wsX1_say := by decide +kernel
  have hl : lv_has ls 3 [(0, .ref (ad 0)), (1, .int x1), (2, .int x2)] := hl
  refine lv_aload_n hx hb dX1_say_0 rfl (lv_at hl 0 rfl) ?_
  refine lv_iconst (v := 0) hx hb dX1_say_1 (by decide) ?_
  refine va_put (D := D) (ci := 1) (v := .int 0) (ty := .int) (C := RX1) (T := TX1) (N := 7) hx hb hts hin tyX1 tyX1_ok nmX1 hown hK hP hD hS 0 rfl rfl 0 (by decide) (hts (.fieldLink RX1 24 "SplicedTalkModel" "thrown" "I") (by decide +kernel)) (fun _ h9 => h9) rfl (by decide +kernel) rfl rfl (Nat.le_of_ble_eq_true rfl) dX1_say_2 (fun H locs hP hD hS => ?_)
  have hP : va_P D vwCl (mw cI cZ ad 0 (nI N) pa pe g0 g1 g2) H := hP
  have hD : va_D A (mw cI cZ ad 0 (nI N) pa pe g0 g1 g2) := q_Dc (L := [ad 0, ad 1, ad 2, ad 3]) hD rfl rfl
  refine lv_iload_n hx hb dX1_say_5 rfl (lv_at hl 1 rfl) ?_
  refine q_callS (As := [.int x1]) (rest := []) ⟨hx, hb, hml, hown, hts⟩ (c_X1_isSpeaker l D x1) (va_cwS 1 hts gX1_say_X1_isSpeaker rfl rfl rfl ks_X1_isSpeaker ⟨Nat.le_of_ble_eq_true rfl, Nat.le_of_ble_eq_true rfl⟩) (hP.sub [] rfl) (hK.sub [] rfl) rfl hl.1 rfl (Nat.le_of_ble_eq_true rfl) dX1_say_6 (Nat.zero_le _) (Nat.zero_le _) hS (fun H locs hsm hS => ?_)
  have hP := hsm.P hP
  refine lv_if_ne (tgt := 18) hx hb dX1_say_9 (by decide) (fun c_9 => ?_) (fun h9 => absurd (h1.symm.trans (bI_0.mp h9)) (by decide))
  refine lv_iload_n hx hb dX1_say_18 rfl (lv_at hl 2 rfl) ?_
  refine lv_iconst (v := 0) hx hb dX1_say_19 (by decide) ?_
  refine lv_bipush (v := 9) hx hb dX1_say_20 (by decide) ?_
  refine q_callS (As := [.int x2, .int 0, .int 9]) (rest := []) ⟨hx, hb, hml, hown, hts⟩ (c_X1_isIn l D x2 0 9) (va_cwS 3 hts gX1_say_X1_isIn rfl rfl rfl ks_X1_isIn ⟨Nat.le_of_ble_eq_true rfl, Nat.le_of_ble_eq_true rfl⟩) (hP.sub [] rfl) (hK.sub [] rfl) rfl hl.1 rfl (Nat.le_of_ble_eq_true rfl) dX1_say_22 (Nat.zero_le _) (Nat.zero_le _) hS (fun H locs hsm hS => ?_)
  have hP := hsm.P hP
  refine lv_if_ne (tgt := 34) hx hb dX1_say_25 (by decide) (fun c_25 => ?_) (fun h9 => absurd (h2.symm.trans (bI_0.mp h9)) (by decide))
  refine lv_aload_n hx hb dX1_say_34 rfl (lv_at hl 0 rfl) ?_
  refine va_get (D := D) (ci := 1) (v := .int (nI N)) (C := RX1) (T := TX1) (N := 7) hx hb hts hin hown hK hP 0 rfl rfl 1 (by decide) (hts (.fieldLink RX1 31 "SplicedTalkModel" "remarks" "I") (by decide +kernel)) (fun _ h9 => h9) rfl dX1_say_35 ?_
  refine lv_bipush (v := 24) hx hb dX1_say_38 (by decide) ?_
  refine lv_icmp_ne (tgt := 51) hx hb dX1_say_40 (by decide) (fun h9 => absurd (by rw [h3]; rfl) h9) (fun c_40 => ?_)
  refine lv_aload_n hx hb dX1_say_43 rfl (lv_at hl 0 rfl) ?_
  refine lv_iconst (v := 3) hx hb dX1_say_44 (by decide) ?_
  refine m_callVI (As := [.int 3]) (rest := []) (Wr := []) (W2 := (mw cI cZ ad 3 (nI N) pa pe g0 g1 g2)) ⟨hx, hb, hml, hown, hts⟩ (c_X1_fail l D cI cZ ad 0 N pa pe g0 g1 g2 hN 3) (cwV 1 hts gX1_say_X1_fail rfl rfl rfl kv_X1_fail ⟨Nat.le_of_ble_eq_true rfl, Nat.le_of_ble_eq_true rfl⟩) (va_recv hK hP (ci := 1) (q0 := 0) rfl rfl) hP hD hK hA [0, 1, 2, 3] [] [0, 1, 2, 3] rfl rfl rfl rfl rfl (by decide) rfl rfl rfl hl.1 rfl (Nat.le_of_ble_eq_true rfl) dX1_say_45 (Nat.zero_le _) (Nat.zero_le _) hS (fun H locs hP hS => ?_)
  have hD : va_D A (mw cI cZ ad 3 (nI N) pa pe g0 g1 g2) := q_Dc (L := [ad 0, ad 1, ad 2, ad 3]) hD rfl rfl
  refine lv_goto (tgt := 57) hx hb dX1_say_48 (by decide) ?_
  exact m_retI hx hb hr hlocks hS hP rfl dX1_say_57

set_option maxHeartbeats 4000000 in
set_option maxRecDepth 100000 in
theorem c_X1_say_ok (l : Launch) (D : va_G) (cI cZ : ClassId) (ad : Nat → Nat) (th : Int32) (N : Nat) (pa pe : Int32) (g0 g1 g2 : Nat → Int32) (hN : N ≤ 24) (x1 : Int32) (x2 : Int32) (h1 : m_in x1 0 5 = true) (h2 : m_in x2 0 9 = true) (h3 : N < 24) : m_I l yX1_say wsX1_say ({ frames := 2, cells := 0, slots := 0, locals := 42 } : Room) D ([(cI, .int), (cZ, .boolean)]) (mw cI cZ ad th (nI N) pa pe g0 g1 g2) [.ref (ad 0), .int x1, .int x2] (nI N) (mw cI cZ ad 0 (nI (N + 1)) pa pe (upd g0 N x2) (upd g1 N x1) (upd g2 N 0)) := by
  refine m_startI (cc := cX1_say) (maxL := 3) (rt := .int) (by decide) rfl (Nat.le_of_ble_eq_true rfl) ?_
  intro p e s m below meth c A hx hb hml hr hts hown hlocks hK hA H locs ls hP hD hS hl
  have hin : ∀ w ∈ wsX10, w ∈ wsX1_say := by decide +kernel
  have hl : lv_has ls 3 [(0, .ref (ad 0)), (1, .int x1), (2, .int x2)] := hl
  refine lv_aload_n hx hb dX1_say_0 rfl (lv_at hl 0 rfl) ?_
  refine lv_iconst (v := 0) hx hb dX1_say_1 (by decide) ?_
  refine va_put (D := D) (ci := 1) (v := .int 0) (ty := .int) (C := RX1) (T := TX1) (N := 7) hx hb hts hin tyX1 tyX1_ok nmX1 hown hK hP hD hS 0 rfl rfl 0 (by decide) (hts (.fieldLink RX1 24 "SplicedTalkModel" "thrown" "I") (by decide +kernel)) (fun _ h9 => h9) rfl (by decide +kernel) rfl rfl (Nat.le_of_ble_eq_true rfl) dX1_say_2 (fun H locs hP hD hS => ?_)
  have hP : va_P D vwCl (mw cI cZ ad 0 (nI N) pa pe g0 g1 g2) H := hP
  have hD : va_D A (mw cI cZ ad 0 (nI N) pa pe g0 g1 g2) := q_Dc (L := [ad 0, ad 1, ad 2, ad 3]) hD rfl rfl
  refine lv_iload_n hx hb dX1_say_5 rfl (lv_at hl 1 rfl) ?_
  refine q_callS (As := [.int x1]) (rest := []) ⟨hx, hb, hml, hown, hts⟩ (c_X1_isSpeaker l D x1) (va_cwS 1 hts gX1_say_X1_isSpeaker rfl rfl rfl ks_X1_isSpeaker ⟨Nat.le_of_ble_eq_true rfl, Nat.le_of_ble_eq_true rfl⟩) (hP.sub [] rfl) (hK.sub [] rfl) rfl hl.1 rfl (Nat.le_of_ble_eq_true rfl) dX1_say_6 (Nat.zero_le _) (Nat.zero_le _) hS (fun H locs hsm hS => ?_)
  have hP := hsm.P hP
  refine lv_if_ne (tgt := 18) hx hb dX1_say_9 (by decide) (fun c_9 => ?_) (fun h9 => absurd (h1.symm.trans (bI_0.mp h9)) (by decide))
  refine lv_iload_n hx hb dX1_say_18 rfl (lv_at hl 2 rfl) ?_
  refine lv_iconst (v := 0) hx hb dX1_say_19 (by decide) ?_
  refine lv_bipush (v := 9) hx hb dX1_say_20 (by decide) ?_
  refine q_callS (As := [.int x2, .int 0, .int 9]) (rest := []) ⟨hx, hb, hml, hown, hts⟩ (c_X1_isIn l D x2 0 9) (va_cwS 3 hts gX1_say_X1_isIn rfl rfl rfl ks_X1_isIn ⟨Nat.le_of_ble_eq_true rfl, Nat.le_of_ble_eq_true rfl⟩) (hP.sub [] rfl) (hK.sub [] rfl) rfl hl.1 rfl (Nat.le_of_ble_eq_true rfl) dX1_say_22 (Nat.zero_le _) (Nat.zero_le _) hS (fun H locs hsm hS => ?_)
  have hP := hsm.P hP
  refine lv_if_ne (tgt := 34) hx hb dX1_say_25 (by decide) (fun c_25 => ?_) (fun h9 => absurd (h2.symm.trans (bI_0.mp h9)) (by decide))
  refine lv_aload_n hx hb dX1_say_34 rfl (lv_at hl 0 rfl) ?_
  refine va_get (D := D) (ci := 1) (v := .int (nI N)) (C := RX1) (T := TX1) (N := 7) hx hb hts hin hown hK hP 0 rfl rfl 1 (by decide) (hts (.fieldLink RX1 31 "SplicedTalkModel" "remarks" "I") (by decide +kernel)) (fun _ h9 => h9) rfl dX1_say_35 ?_
  refine lv_bipush (v := 24) hx hb dX1_say_38 (by decide) ?_
  refine lv_icmp_ne (tgt := 51) hx hb dX1_say_40 (by decide) (fun c_40 => ?_) (fun h9 => absurd ((nI_eq (b := 24) (by omega) (by decide)).mp h9) (by omega))
  refine lv_aload_n hx hb dX1_say_51 rfl (lv_at hl 0 rfl) ?_
  refine lv_iload_n hx hb dX1_say_52 rfl (lv_at hl 2 rfl) ?_
  refine lv_iload_n hx hb dX1_say_53 rfl (lv_at hl 1 rfl) ?_
  refine m_callVI (As := [.int x2, .int x1]) (rest := []) (Wr := []) (W2 := (mw cI cZ ad 0 (nI (N + 1)) pa pe (upd g0 N x2) (upd g1 N x1) (upd g2 N 0))) ⟨hx, hb, hml, hown, hts⟩ (c_X1_put l D cI cZ ad 0 N pa pe g0 g1 g2 hN x2 x1) (cwV 2 hts gX1_say_X1_put rfl rfl rfl kv_X1_put ⟨Nat.le_of_ble_eq_true rfl, Nat.le_of_ble_eq_true rfl⟩) (va_recv hK hP (ci := 1) (q0 := 0) rfl rfl) hP hD hK hA [0, 1, 2, 3] [] [0, 1, 2, 3] rfl rfl rfl rfl rfl (by decide) rfl rfl rfl hl.1 rfl (Nat.le_of_ble_eq_true rfl) dX1_say_54 (Nat.zero_le _) (Nat.zero_le _) hS (fun H locs hP hS => ?_)
  have hD : va_D A (mw cI cZ ad 0 (nI (N + 1)) pa pe (upd g0 N x2) (upd g1 N x1) (upd g2 N 0)) := q_Dc (L := [ad 0, ad 1, ad 2, ad 3]) hD rfl rfl
  exact m_retI hx hb hr hlocks hS hP rfl dX1_say_57

theorem kv_X1_cough : yX1_cough.cls = RX1 ∧ yX1_cough.cls ≠ "java/lang/invoke/MethodHandle" ∧ yX1_cough.cls ≠ "java/lang/invoke/VarHandle" ∧ (parseMethodDescriptor yX1_cough.desc).map (fun d => d.parameters.length) = some 1 := by decide +kernel
theorem ks_X1_cough : yX1_cough.cls ≠ "java/lang/invoke/MethodHandle" ∧ yX1_cough.cls ≠ "java/lang/invoke/VarHandle" ∧ (parseMethodDescriptor yX1_cough.desc).map (fun d => d.parameters.length) = some 1 := kv_X1_cough.2
set_option maxHeartbeats 4000000 in
set_option maxRecDepth 100000 in
theorem c_X1_cough_1 (l : Launch) (D : va_G) (cI cZ : ClassId) (ad : Nat → Nat) (th : Int32) (N : Nat) (pa pe : Int32) (g0 g1 g2 : Nat → Int32) (hN : N ≤ 24) (x1 : Int32) (h1 : m_in x1 0 5 = false) : m_I l yX1_cough wsX1_cough ({ frames := 2, cells := 0, slots := 0, locals := 42 } : Room) D ([(cI, .int), (cZ, .boolean)]) (mw cI cZ ad th (nI N) pa pe g0 g1 g2) [.ref (ad 0), .int x1] 0 (mw cI cZ ad 1 (nI N) pa pe g0 g1 g2) := by
  refine m_startI (cc := cX1_cough) (maxL := 2) (rt := .int) (by decide) rfl (Nat.le_of_ble_eq_true rfl) ?_
  intro p e s m below meth c A hx hb hml hr hts hown hlocks hK hA H locs ls hP hD hS hl
  have hin : ∀ w ∈ wsX10, w ∈ wsX1_cough := by decide +kernel
  have hl : lv_has ls 2 [(0, .ref (ad 0)), (1, .int x1)] := hl
  refine lv_aload_n hx hb dX1_cough_0 rfl (lv_at hl 0 rfl) ?_
  refine lv_iconst (v := 0) hx hb dX1_cough_1 (by decide) ?_
  refine va_put (D := D) (ci := 1) (v := .int 0) (ty := .int) (C := RX1) (T := TX1) (N := 7) hx hb hts hin tyX1 tyX1_ok nmX1 hown hK hP hD hS 0 rfl rfl 0 (by decide) (hts (.fieldLink RX1 24 "SplicedTalkModel" "thrown" "I") (by decide +kernel)) (fun _ h9 => h9) rfl (by decide +kernel) rfl rfl (Nat.le_of_ble_eq_true rfl) dX1_cough_2 (fun H locs hP hD hS => ?_)
  have hP : va_P D vwCl (mw cI cZ ad 0 (nI N) pa pe g0 g1 g2) H := hP
  have hD : va_D A (mw cI cZ ad 0 (nI N) pa pe g0 g1 g2) := q_Dc (L := [ad 0, ad 1, ad 2, ad 3]) hD rfl rfl
  refine lv_iload_n hx hb dX1_cough_5 rfl (lv_at hl 1 rfl) ?_
  refine q_callS (As := [.int x1]) (rest := []) ⟨hx, hb, hml, hown, hts⟩ (c_X1_isSpeaker l D x1) (va_cwS 1 hts gX1_cough_X1_isSpeaker rfl rfl rfl ks_X1_isSpeaker ⟨Nat.le_of_ble_eq_true rfl, Nat.le_of_ble_eq_true rfl⟩) (hP.sub [] rfl) (hK.sub [] rfl) rfl hl.1 rfl (Nat.le_of_ble_eq_true rfl) dX1_cough_6 (Nat.zero_le _) (Nat.zero_le _) hS (fun H locs hsm hS => ?_)
  have hP := hsm.P hP
  refine lv_if_ne (tgt := 18) hx hb dX1_cough_9 (by decide) (fun h9 => absurd (bI_0.mpr h1) h9) (fun c_9 => ?_)
  refine lv_aload_n hx hb dX1_cough_12 rfl (lv_at hl 0 rfl) ?_
  refine lv_iconst (v := 1) hx hb dX1_cough_13 (by decide) ?_
  refine m_callVI (As := [.int 1]) (rest := []) (Wr := []) (W2 := (mw cI cZ ad 1 (nI N) pa pe g0 g1 g2)) ⟨hx, hb, hml, hown, hts⟩ (c_X1_fail l D cI cZ ad 0 N pa pe g0 g1 g2 hN 1) (cwV 1 hts gX1_cough_X1_fail rfl rfl rfl kv_X1_fail ⟨Nat.le_of_ble_eq_true rfl, Nat.le_of_ble_eq_true rfl⟩) (va_recv hK hP (ci := 1) (q0 := 0) rfl rfl) hP hD hK hA [0, 1, 2, 3] [] [0, 1, 2, 3] rfl rfl rfl rfl rfl (by decide) rfl rfl rfl hl.1 rfl (Nat.le_of_ble_eq_true rfl) dX1_cough_14 (Nat.zero_le _) (Nat.zero_le _) hS (fun H locs hP hS => ?_)
  have hD : va_D A (mw cI cZ ad 1 (nI N) pa pe g0 g1 g2) := q_Dc (L := [ad 0, ad 1, ad 2, ad 3]) hD rfl rfl
  exact m_retI hx hb hr hlocks hS hP rfl dX1_cough_17

set_option maxHeartbeats 4000000 in
set_option maxRecDepth 100000 in
theorem c_X1_cough_2 (l : Launch) (D : va_G) (cI cZ : ClassId) (ad : Nat → Nat) (th : Int32) (N : Nat) (pa pe : Int32) (g0 g1 g2 : Nat → Int32) (hN : N ≤ 24) (x1 : Int32) (h1 : m_in x1 0 5 = true) (h3 : N = 24) : m_I l yX1_cough wsX1_cough ({ frames := 2, cells := 0, slots := 0, locals := 42 } : Room) D ([(cI, .int), (cZ, .boolean)]) (mw cI cZ ad th (nI N) pa pe g0 g1 g2) [.ref (ad 0), .int x1] 0 (mw cI cZ ad 2 (nI N) pa pe g0 g1 g2) := by
  refine m_startI (cc := cX1_cough) (maxL := 2) (rt := .int) (by decide) rfl (Nat.le_of_ble_eq_true rfl) ?_
  intro p e s m below meth c A hx hb hml hr hts hown hlocks hK hA H locs ls hP hD hS hl
  have hin : ∀ w ∈ wsX10, w ∈ wsX1_cough := by decide +kernel
  have hl : lv_has ls 2 [(0, .ref (ad 0)), (1, .int x1)] := hl
  refine lv_aload_n hx hb dX1_cough_0 rfl (lv_at hl 0 rfl) ?_
  refine lv_iconst (v := 0) hx hb dX1_cough_1 (by decide) ?_
  refine va_put (D := D) (ci := 1) (v := .int 0) (ty := .int) (C := RX1) (T := TX1) (N := 7) hx hb hts hin tyX1 tyX1_ok nmX1 hown hK hP hD hS 0 rfl rfl 0 (by decide) (hts (.fieldLink RX1 24 "SplicedTalkModel" "thrown" "I") (by decide +kernel)) (fun _ h9 => h9) rfl (by decide +kernel) rfl rfl (Nat.le_of_ble_eq_true rfl) dX1_cough_2 (fun H locs hP hD hS => ?_)
  have hP : va_P D vwCl (mw cI cZ ad 0 (nI N) pa pe g0 g1 g2) H := hP
  have hD : va_D A (mw cI cZ ad 0 (nI N) pa pe g0 g1 g2) := q_Dc (L := [ad 0, ad 1, ad 2, ad 3]) hD rfl rfl
  refine lv_iload_n hx hb dX1_cough_5 rfl (lv_at hl 1 rfl) ?_
  refine q_callS (As := [.int x1]) (rest := []) ⟨hx, hb, hml, hown, hts⟩ (c_X1_isSpeaker l D x1) (va_cwS 1 hts gX1_cough_X1_isSpeaker rfl rfl rfl ks_X1_isSpeaker ⟨Nat.le_of_ble_eq_true rfl, Nat.le_of_ble_eq_true rfl⟩) (hP.sub [] rfl) (hK.sub [] rfl) rfl hl.1 rfl (Nat.le_of_ble_eq_true rfl) dX1_cough_6 (Nat.zero_le _) (Nat.zero_le _) hS (fun H locs hsm hS => ?_)
  have hP := hsm.P hP
  refine lv_if_ne (tgt := 18) hx hb dX1_cough_9 (by decide) (fun c_9 => ?_) (fun h9 => absurd (h1.symm.trans (bI_0.mp h9)) (by decide))
  refine lv_aload_n hx hb dX1_cough_18 rfl (lv_at hl 0 rfl) ?_
  refine va_get (D := D) (ci := 1) (v := .int (nI N)) (C := RX1) (T := TX1) (N := 7) hx hb hts hin hown hK hP 0 rfl rfl 1 (by decide) (hts (.fieldLink RX1 31 "SplicedTalkModel" "remarks" "I") (by decide +kernel)) (fun _ h9 => h9) rfl dX1_cough_19 ?_
  refine lv_bipush (v := 24) hx hb dX1_cough_22 (by decide) ?_
  refine lv_icmp_ne (tgt := 35) hx hb dX1_cough_24 (by decide) (fun h9 => absurd (by rw [h3]; rfl) h9) (fun c_24 => ?_)
  refine lv_aload_n hx hb dX1_cough_27 rfl (lv_at hl 0 rfl) ?_
  refine lv_iconst (v := 2) hx hb dX1_cough_28 (by decide) ?_
  refine m_callVI (As := [.int 2]) (rest := []) (Wr := []) (W2 := (mw cI cZ ad 2 (nI N) pa pe g0 g1 g2)) ⟨hx, hb, hml, hown, hts⟩ (c_X1_fail l D cI cZ ad 0 N pa pe g0 g1 g2 hN 2) (cwV 1 hts gX1_cough_X1_fail rfl rfl rfl kv_X1_fail ⟨Nat.le_of_ble_eq_true rfl, Nat.le_of_ble_eq_true rfl⟩) (va_recv hK hP (ci := 1) (q0 := 0) rfl rfl) hP hD hK hA [0, 1, 2, 3] [] [0, 1, 2, 3] rfl rfl rfl rfl rfl (by decide) rfl rfl rfl hl.1 rfl (Nat.le_of_ble_eq_true rfl) dX1_cough_29 (Nat.zero_le _) (Nat.zero_le _) hS (fun H locs hP hS => ?_)
  have hD : va_D A (mw cI cZ ad 2 (nI N) pa pe g0 g1 g2) := q_Dc (L := [ad 0, ad 1, ad 2, ad 3]) hD rfl rfl
  refine lv_goto (tgt := 41) hx hb dX1_cough_32 (by decide) ?_
  exact m_retI hx hb hr hlocks hS hP rfl dX1_cough_41

set_option maxHeartbeats 4000000 in
set_option maxRecDepth 100000 in
theorem c_X1_cough_ok (l : Launch) (D : va_G) (cI cZ : ClassId) (ad : Nat → Nat) (th : Int32) (N : Nat) (pa pe : Int32) (g0 g1 g2 : Nat → Int32) (hN : N ≤ 24) (x1 : Int32) (h1 : m_in x1 0 5 = true) (h3 : N < 24) : m_I l yX1_cough wsX1_cough ({ frames := 2, cells := 0, slots := 0, locals := 42 } : Room) D ([(cI, .int), (cZ, .boolean)]) (mw cI cZ ad th (nI N) pa pe g0 g1 g2) [.ref (ad 0), .int x1] (nI N) (mw cI cZ ad 0 (nI (N + 1)) pa pe (upd g0 N (-1)) (upd g1 N x1) (upd g2 N 0)) := by
  refine m_startI (cc := cX1_cough) (maxL := 2) (rt := .int) (by decide) rfl (Nat.le_of_ble_eq_true rfl) ?_
  intro p e s m below meth c A hx hb hml hr hts hown hlocks hK hA H locs ls hP hD hS hl
  have hin : ∀ w ∈ wsX10, w ∈ wsX1_cough := by decide +kernel
  have hl : lv_has ls 2 [(0, .ref (ad 0)), (1, .int x1)] := hl
  refine lv_aload_n hx hb dX1_cough_0 rfl (lv_at hl 0 rfl) ?_
  refine lv_iconst (v := 0) hx hb dX1_cough_1 (by decide) ?_
  refine va_put (D := D) (ci := 1) (v := .int 0) (ty := .int) (C := RX1) (T := TX1) (N := 7) hx hb hts hin tyX1 tyX1_ok nmX1 hown hK hP hD hS 0 rfl rfl 0 (by decide) (hts (.fieldLink RX1 24 "SplicedTalkModel" "thrown" "I") (by decide +kernel)) (fun _ h9 => h9) rfl (by decide +kernel) rfl rfl (Nat.le_of_ble_eq_true rfl) dX1_cough_2 (fun H locs hP hD hS => ?_)
  have hP : va_P D vwCl (mw cI cZ ad 0 (nI N) pa pe g0 g1 g2) H := hP
  have hD : va_D A (mw cI cZ ad 0 (nI N) pa pe g0 g1 g2) := q_Dc (L := [ad 0, ad 1, ad 2, ad 3]) hD rfl rfl
  refine lv_iload_n hx hb dX1_cough_5 rfl (lv_at hl 1 rfl) ?_
  refine q_callS (As := [.int x1]) (rest := []) ⟨hx, hb, hml, hown, hts⟩ (c_X1_isSpeaker l D x1) (va_cwS 1 hts gX1_cough_X1_isSpeaker rfl rfl rfl ks_X1_isSpeaker ⟨Nat.le_of_ble_eq_true rfl, Nat.le_of_ble_eq_true rfl⟩) (hP.sub [] rfl) (hK.sub [] rfl) rfl hl.1 rfl (Nat.le_of_ble_eq_true rfl) dX1_cough_6 (Nat.zero_le _) (Nat.zero_le _) hS (fun H locs hsm hS => ?_)
  have hP := hsm.P hP
  refine lv_if_ne (tgt := 18) hx hb dX1_cough_9 (by decide) (fun c_9 => ?_) (fun h9 => absurd (h1.symm.trans (bI_0.mp h9)) (by decide))
  refine lv_aload_n hx hb dX1_cough_18 rfl (lv_at hl 0 rfl) ?_
  refine va_get (D := D) (ci := 1) (v := .int (nI N)) (C := RX1) (T := TX1) (N := 7) hx hb hts hin hown hK hP 0 rfl rfl 1 (by decide) (hts (.fieldLink RX1 31 "SplicedTalkModel" "remarks" "I") (by decide +kernel)) (fun _ h9 => h9) rfl dX1_cough_19 ?_
  refine lv_bipush (v := 24) hx hb dX1_cough_22 (by decide) ?_
  refine lv_icmp_ne (tgt := 35) hx hb dX1_cough_24 (by decide) (fun c_24 => ?_) (fun h9 => absurd ((nI_eq (b := 24) (by omega) (by decide)).mp h9) (by omega))
  refine lv_aload_n hx hb dX1_cough_35 rfl (lv_at hl 0 rfl) ?_
  refine lv_iconst (v := -1) hx hb dX1_cough_36 (by decide) ?_
  refine lv_iload_n hx hb dX1_cough_37 rfl (lv_at hl 1 rfl) ?_
  refine m_callVI (As := [.int (-1), .int x1]) (rest := []) (Wr := []) (W2 := (mw cI cZ ad 0 (nI (N + 1)) pa pe (upd g0 N (-1)) (upd g1 N x1) (upd g2 N 0))) ⟨hx, hb, hml, hown, hts⟩ (c_X1_put l D cI cZ ad 0 N pa pe g0 g1 g2 hN (-1) x1) (cwV 2 hts gX1_cough_X1_put rfl rfl rfl kv_X1_put ⟨Nat.le_of_ble_eq_true rfl, Nat.le_of_ble_eq_true rfl⟩) (va_recv hK hP (ci := 1) (q0 := 0) rfl rfl) hP hD hK hA [0, 1, 2, 3] [] [0, 1, 2, 3] rfl rfl rfl rfl rfl (by decide) rfl rfl rfl hl.1 rfl (Nat.le_of_ble_eq_true rfl) dX1_cough_38 (Nat.zero_le _) (Nat.zero_le _) hS (fun H locs hP hS => ?_)
  have hD : va_D A (mw cI cZ ad 0 (nI (N + 1)) pa pe (upd g0 N (-1)) (upd g1 N x1) (upd g2 N 0)) := q_Dc (L := [ad 0, ad 1, ad 2, ad 3]) hD rfl rfl
  exact m_retI hx hb hr hlocks hS hP rfl dX1_cough_41

theorem kv_X1_removeCough : yX1_removeCough.cls = RX1 ∧ yX1_removeCough.cls ≠ "java/lang/invoke/MethodHandle" ∧ yX1_removeCough.cls ≠ "java/lang/invoke/VarHandle" ∧ (parseMethodDescriptor yX1_removeCough.desc).map (fun d => d.parameters.length) = some 1 := by decide +kernel
theorem ks_X1_removeCough : yX1_removeCough.cls ≠ "java/lang/invoke/MethodHandle" ∧ yX1_removeCough.cls ≠ "java/lang/invoke/VarHandle" ∧ (parseMethodDescriptor yX1_removeCough.desc).map (fun d => d.parameters.length) = some 1 := kv_X1_removeCough.2
set_option maxHeartbeats 4000000 in
set_option maxRecDepth 100000 in
theorem c_X1_removeCough_1 (l : Launch) (D : va_G) (cI cZ : ClassId) (ad : Nat → Nat) (th : Int32) (N : Nat) (pa pe : Int32) (g0 g1 g2 : Nat → Int32) (hN : N ≤ 24) (x1 : Int32) (h1 : m_in x1 0 (nI N - 1) = false) : m_I l yX1_removeCough wsX1_removeCough ({ frames := 2, cells := 0, slots := 0, locals := 43 } : Room) D ([(cI, .int), (cZ, .boolean)]) (mw cI cZ ad th (nI N) pa pe g0 g1 g2) [.ref (ad 0), .int x1] 0 (mw cI cZ ad 1 (nI N) pa pe g0 g1 g2) := by
  refine m_startI (cc := cX1_removeCough) (maxL := 2) (rt := .int) (by decide) rfl (Nat.le_of_ble_eq_true rfl) ?_
  intro p e s m below meth c A hx hb hml hr hts hown hlocks hK hA H locs ls hP hD hS hl
  have hin : ∀ w ∈ wsX10, w ∈ wsX1_removeCough := by decide +kernel
  have hl : lv_has ls 2 [(0, .ref (ad 0)), (1, .int x1)] := hl
  refine lv_aload_n hx hb dX1_removeCough_0 rfl (lv_at hl 0 rfl) ?_
  refine lv_iconst (v := 0) hx hb dX1_removeCough_1 (by decide) ?_
  refine va_put (D := D) (ci := 1) (v := .int 0) (ty := .int) (C := RX1) (T := TX1) (N := 7) hx hb hts hin tyX1 tyX1_ok nmX1 hown hK hP hD hS 0 rfl rfl 0 (by decide) (hts (.fieldLink RX1 24 "SplicedTalkModel" "thrown" "I") (by decide +kernel)) (fun _ h9 => h9) rfl (by decide +kernel) rfl rfl (Nat.le_of_ble_eq_true rfl) dX1_removeCough_2 (fun H locs hP hD hS => ?_)
  have hP : va_P D vwCl (mw cI cZ ad 0 (nI N) pa pe g0 g1 g2) H := hP
  have hD : va_D A (mw cI cZ ad 0 (nI N) pa pe g0 g1 g2) := q_Dc (L := [ad 0, ad 1, ad 2, ad 3]) hD rfl rfl
  refine lv_aload_n hx hb dX1_removeCough_5 rfl (lv_at hl 0 rfl) ?_
  refine lv_iload_n hx hb dX1_removeCough_6 rfl (lv_at hl 1 rfl) ?_
  refine q_callV (As := [.int x1]) (rest := []) ⟨hx, hb, hml, hown, hts⟩ (c_X1_isPlace l D cI cZ ad 0 N pa pe g0 g1 g2 hN x1) (cwV 1 hts gX1_removeCough_X1_isPlace rfl rfl rfl kv_X1_isPlace ⟨Nat.le_of_ble_eq_true rfl, Nat.le_of_ble_eq_true rfl⟩) (va_recv hK hP (ci := 1) (q0 := 0) rfl rfl) hP hK rfl hl.1 rfl (Nat.le_of_ble_eq_true rfl) dX1_removeCough_7 (Nat.zero_le _) (Nat.zero_le _) hS (fun H locs hsm hS => ?_)
  have hP := hsm.P hP
  refine lv_if_ne (tgt := 19) hx hb dX1_removeCough_10 (by decide) (fun h9 => absurd (bI_0.mpr h1) h9) (fun c_10 => ?_)
  refine lv_aload_n hx hb dX1_removeCough_13 rfl (lv_at hl 0 rfl) ?_
  refine lv_iconst (v := 1) hx hb dX1_removeCough_14 (by decide) ?_
  refine m_callVI (As := [.int 1]) (rest := []) (Wr := []) (W2 := (mw cI cZ ad 1 (nI N) pa pe g0 g1 g2)) ⟨hx, hb, hml, hown, hts⟩ (c_X1_fail l D cI cZ ad 0 N pa pe g0 g1 g2 hN 1) (cwV 1 hts gX1_removeCough_X1_fail rfl rfl rfl kv_X1_fail ⟨Nat.le_of_ble_eq_true rfl, Nat.le_of_ble_eq_true rfl⟩) (va_recv hK hP (ci := 1) (q0 := 0) rfl rfl) hP hD hK hA [0, 1, 2, 3] [] [0, 1, 2, 3] rfl rfl rfl rfl rfl (by decide) rfl rfl rfl hl.1 rfl (Nat.le_of_ble_eq_true rfl) dX1_removeCough_15 (Nat.zero_le _) (Nat.zero_le _) hS (fun H locs hP hS => ?_)
  have hD : va_D A (mw cI cZ ad 1 (nI N) pa pe g0 g1 g2) := q_Dc (L := [ad 0, ad 1, ad 2, ad 3]) hD rfl rfl
  exact m_retI hx hb hr hlocks hS hP rfl dX1_removeCough_18

set_option maxHeartbeats 4000000 in
set_option maxRecDepth 100000 in
theorem c_X1_removeCough_2 (l : Launch) (D : va_G) (cI cZ : ClassId) (ad : Nat → Nat) (th : Int32) (N : Nat) (pa pe : Int32) (g0 g1 g2 : Nat → Int32) (hN : N ≤ 24) (k : Nat) (hk : k < N) (h1 : m_in (nI k) 0 (nI N - 1) = true) (h2 : 0 ≤ g0 k) : m_I l yX1_removeCough wsX1_removeCough ({ frames := 2, cells := 0, slots := 0, locals := 43 } : Room) D ([(cI, .int), (cZ, .boolean)]) (mw cI cZ ad th (nI N) pa pe g0 g1 g2) [.ref (ad 0), .int (nI k)] 0 (mw cI cZ ad 2 (nI N) pa pe g0 g1 g2) := by
  refine m_startI (cc := cX1_removeCough) (maxL := 2) (rt := .int) (by decide) rfl (Nat.le_of_ble_eq_true rfl) ?_
  intro p e s m below meth c A hx hb hml hr hts hown hlocks hK hA H locs ls hP hD hS hl
  have hin : ∀ w ∈ wsX10, w ∈ wsX1_removeCough := by decide +kernel
  have hl : lv_has ls 2 [(0, .ref (ad 0)), (1, .int (nI k))] := hl
  refine lv_aload_n hx hb dX1_removeCough_0 rfl (lv_at hl 0 rfl) ?_
  refine lv_iconst (v := 0) hx hb dX1_removeCough_1 (by decide) ?_
  refine va_put (D := D) (ci := 1) (v := .int 0) (ty := .int) (C := RX1) (T := TX1) (N := 7) hx hb hts hin tyX1 tyX1_ok nmX1 hown hK hP hD hS 0 rfl rfl 0 (by decide) (hts (.fieldLink RX1 24 "SplicedTalkModel" "thrown" "I") (by decide +kernel)) (fun _ h9 => h9) rfl (by decide +kernel) rfl rfl (Nat.le_of_ble_eq_true rfl) dX1_removeCough_2 (fun H locs hP hD hS => ?_)
  have hP : va_P D vwCl (mw cI cZ ad 0 (nI N) pa pe g0 g1 g2) H := hP
  have hD : va_D A (mw cI cZ ad 0 (nI N) pa pe g0 g1 g2) := q_Dc (L := [ad 0, ad 1, ad 2, ad 3]) hD rfl rfl
  refine lv_aload_n hx hb dX1_removeCough_5 rfl (lv_at hl 0 rfl) ?_
  refine lv_iload_n hx hb dX1_removeCough_6 rfl (lv_at hl 1 rfl) ?_
  refine q_callV (As := [.int (nI k)]) (rest := []) ⟨hx, hb, hml, hown, hts⟩ (c_X1_isPlace l D cI cZ ad 0 N pa pe g0 g1 g2 hN (nI k)) (cwV 1 hts gX1_removeCough_X1_isPlace rfl rfl rfl kv_X1_isPlace ⟨Nat.le_of_ble_eq_true rfl, Nat.le_of_ble_eq_true rfl⟩) (va_recv hK hP (ci := 1) (q0 := 0) rfl rfl) hP hK rfl hl.1 rfl (Nat.le_of_ble_eq_true rfl) dX1_removeCough_7 (Nat.zero_le _) (Nat.zero_le _) hS (fun H locs hsm hS => ?_)
  have hP := hsm.P hP
  refine lv_if_ne (tgt := 19) hx hb dX1_removeCough_10 (by decide) (fun c_10 => ?_) (fun h9 => absurd (h1.symm.trans (bI_0.mp h9)) (by decide))
  refine lv_aload_n hx hb dX1_removeCough_19 rfl (lv_at hl 0 rfl) ?_
  refine va_get (D := D) (ci := 1) (v := .ref (ad 1)) (C := RX1) (T := TX1) (N := 7) hx hb hts hin hown hK hP 0 rfl rfl 4 (by decide) (hts (.fieldLink RX1 13 "SplicedTalkModel" "topic" "[I") (by decide +kernel)) (fun _ h9 => h9) rfl dX1_removeCough_20 ?_
  refine lv_iload_n hx hb dX1_removeCough_23 rfl (lv_at hl 1 rfl) ?_
  refine va_iald hx hb hK hP 1 0 rfl rfl (vp_in_nI (by have := hN; skip; omega) (by decide)) dX1_removeCough_24 ?_
  rw [nI_clamp (by have := hN; skip; omega)]
  refine lv_if_ge (tgt := 36) hx hb dX1_removeCough_25 (by decide) (fun c_25 => ?_) (fun h9 => absurd h2 h9)
  refine lv_aload_n hx hb dX1_removeCough_36 rfl (lv_at hl 0 rfl) ?_
  refine lv_iconst (v := 2) hx hb dX1_removeCough_37 (by decide) ?_
  refine m_callVI (As := [.int 2]) (rest := []) (Wr := []) (W2 := (mw cI cZ ad 2 (nI N) pa pe g0 g1 g2)) ⟨hx, hb, hml, hown, hts⟩ (c_X1_fail l D cI cZ ad 0 N pa pe g0 g1 g2 hN 2) (cwV 1 hts gX1_removeCough_X1_fail rfl rfl rfl kv_X1_fail ⟨Nat.le_of_ble_eq_true rfl, Nat.le_of_ble_eq_true rfl⟩) (va_recv hK hP (ci := 1) (q0 := 0) rfl rfl) hP hD hK hA [0, 1, 2, 3] [] [0, 1, 2, 3] rfl rfl rfl rfl rfl (by decide) rfl rfl rfl hl.1 rfl (Nat.le_of_ble_eq_true rfl) dX1_removeCough_38 (Nat.zero_le _) (Nat.zero_le _) hS (fun H locs hP hS => ?_)
  have hD : va_D A (mw cI cZ ad 2 (nI N) pa pe g0 g1 g2) := q_Dc (L := [ad 0, ad 1, ad 2, ad 3]) hD rfl rfl
  exact m_retI hx hb hr hlocks hS hP rfl dX1_removeCough_41

set_option maxHeartbeats 4000000 in
set_option maxRecDepth 100000 in
theorem c_X1_removeCough_3 (l : Launch) (D : va_G) (cI cZ : ClassId) (ad : Nat → Nat) (th : Int32) (N : Nat) (pa pe : Int32) (g0 g1 g2 : Nat → Int32) (hN : N ≤ 24) (k : Nat) (hk : k < N) (h1 : m_in (nI k) 0 (nI N - 1) = true) (h2 : ¬ 0 ≤ g0 k) (h3 : ¬ 1 ≤ pa) : m_I l yX1_removeCough wsX1_removeCough ({ frames := 2, cells := 0, slots := 0, locals := 43 } : Room) D ([(cI, .int), (cZ, .boolean)]) (mw cI cZ ad th (nI N) pa pe g0 g1 g2) [.ref (ad 0), .int (nI k)] 0 (mw cI cZ ad 2 (nI N) pa pe g0 g1 g2) := by
  refine m_startI (cc := cX1_removeCough) (maxL := 2) (rt := .int) (by decide) rfl (Nat.le_of_ble_eq_true rfl) ?_
  intro p e s m below meth c A hx hb hml hr hts hown hlocks hK hA H locs ls hP hD hS hl
  have hin : ∀ w ∈ wsX10, w ∈ wsX1_removeCough := by decide +kernel
  have hl : lv_has ls 2 [(0, .ref (ad 0)), (1, .int (nI k))] := hl
  refine lv_aload_n hx hb dX1_removeCough_0 rfl (lv_at hl 0 rfl) ?_
  refine lv_iconst (v := 0) hx hb dX1_removeCough_1 (by decide) ?_
  refine va_put (D := D) (ci := 1) (v := .int 0) (ty := .int) (C := RX1) (T := TX1) (N := 7) hx hb hts hin tyX1 tyX1_ok nmX1 hown hK hP hD hS 0 rfl rfl 0 (by decide) (hts (.fieldLink RX1 24 "SplicedTalkModel" "thrown" "I") (by decide +kernel)) (fun _ h9 => h9) rfl (by decide +kernel) rfl rfl (Nat.le_of_ble_eq_true rfl) dX1_removeCough_2 (fun H locs hP hD hS => ?_)
  have hP : va_P D vwCl (mw cI cZ ad 0 (nI N) pa pe g0 g1 g2) H := hP
  have hD : va_D A (mw cI cZ ad 0 (nI N) pa pe g0 g1 g2) := q_Dc (L := [ad 0, ad 1, ad 2, ad 3]) hD rfl rfl
  refine lv_aload_n hx hb dX1_removeCough_5 rfl (lv_at hl 0 rfl) ?_
  refine lv_iload_n hx hb dX1_removeCough_6 rfl (lv_at hl 1 rfl) ?_
  refine q_callV (As := [.int (nI k)]) (rest := []) ⟨hx, hb, hml, hown, hts⟩ (c_X1_isPlace l D cI cZ ad 0 N pa pe g0 g1 g2 hN (nI k)) (cwV 1 hts gX1_removeCough_X1_isPlace rfl rfl rfl kv_X1_isPlace ⟨Nat.le_of_ble_eq_true rfl, Nat.le_of_ble_eq_true rfl⟩) (va_recv hK hP (ci := 1) (q0 := 0) rfl rfl) hP hK rfl hl.1 rfl (Nat.le_of_ble_eq_true rfl) dX1_removeCough_7 (Nat.zero_le _) (Nat.zero_le _) hS (fun H locs hsm hS => ?_)
  have hP := hsm.P hP
  refine lv_if_ne (tgt := 19) hx hb dX1_removeCough_10 (by decide) (fun c_10 => ?_) (fun h9 => absurd (h1.symm.trans (bI_0.mp h9)) (by decide))
  refine lv_aload_n hx hb dX1_removeCough_19 rfl (lv_at hl 0 rfl) ?_
  refine va_get (D := D) (ci := 1) (v := .ref (ad 1)) (C := RX1) (T := TX1) (N := 7) hx hb hts hin hown hK hP 0 rfl rfl 4 (by decide) (hts (.fieldLink RX1 13 "SplicedTalkModel" "topic" "[I") (by decide +kernel)) (fun _ h9 => h9) rfl dX1_removeCough_20 ?_
  refine lv_iload_n hx hb dX1_removeCough_23 rfl (lv_at hl 1 rfl) ?_
  refine va_iald hx hb hK hP 1 0 rfl rfl (vp_in_nI (by have := hN; skip; omega) (by decide)) dX1_removeCough_24 ?_
  rw [nI_clamp (by have := hN; skip; omega)]
  refine lv_if_ge (tgt := 36) hx hb dX1_removeCough_25 (by decide) (fun h9 => absurd h9 h2) (fun c_25 => ?_)
  refine lv_aload_n hx hb dX1_removeCough_28 rfl (lv_at hl 0 rfl) ?_
  refine va_get (D := D) (ci := 1) (v := .int pa) (C := RX1) (T := TX1) (N := 7) hx hb hts hin hown hK hP 0 rfl rfl 2 (by decide) (hts (.fieldLink RX1 7 "SplicedTalkModel" "patience" "I") (by decide +kernel)) (fun _ h9 => h9) rfl dX1_removeCough_29 ?_
  refine lv_iconst (v := 1) hx hb dX1_removeCough_32 (by decide) ?_
  refine lv_icmp_ge (tgt := 42) hx hb dX1_removeCough_33 (by decide) (fun h9 => absurd h9 h3) (fun c_33 => ?_)
  refine lv_aload_n hx hb dX1_removeCough_36 rfl (lv_at hl 0 rfl) ?_
  refine lv_iconst (v := 2) hx hb dX1_removeCough_37 (by decide) ?_
  refine m_callVI (As := [.int 2]) (rest := []) (Wr := []) (W2 := (mw cI cZ ad 2 (nI N) pa pe g0 g1 g2)) ⟨hx, hb, hml, hown, hts⟩ (c_X1_fail l D cI cZ ad 0 N pa pe g0 g1 g2 hN 2) (cwV 1 hts gX1_removeCough_X1_fail rfl rfl rfl kv_X1_fail ⟨Nat.le_of_ble_eq_true rfl, Nat.le_of_ble_eq_true rfl⟩) (va_recv hK hP (ci := 1) (q0 := 0) rfl rfl) hP hD hK hA [0, 1, 2, 3] [] [0, 1, 2, 3] rfl rfl rfl rfl rfl (by decide) rfl rfl rfl hl.1 rfl (Nat.le_of_ble_eq_true rfl) dX1_removeCough_38 (Nat.zero_le _) (Nat.zero_le _) hS (fun H locs hP hS => ?_)
  have hD : va_D A (mw cI cZ ad 2 (nI N) pa pe g0 g1 g2) := q_Dc (L := [ad 0, ad 1, ad 2, ad 3]) hD rfl rfl
  exact m_retI hx hb hr hlocks hS hP rfl dX1_removeCough_41

set_option maxHeartbeats 4000000 in
set_option maxRecDepth 100000 in
theorem c_X1_removeCough_ok (l : Launch) (D : va_G) (cI cZ : ClassId) (ad : Nat → Nat) (th : Int32) (N : Nat) (pa pe : Int32) (g0 g1 g2 : Nat → Int32) (hN : N ≤ 24) (k : Nat) (hk : k < N) (h1 : m_in (nI k) 0 (nI N - 1) = true) (h2 : ¬ 0 ≤ g0 k) (h3 : 1 ≤ pa) (h2f : ∀ k : Nat, k < N → fits .boolean (.int (g2 k)) = true) : m_I l yX1_removeCough wsX1_removeCough ({ frames := 2, cells := 0, slots := 0, locals := 52 } : Room) D ([(cI, .int), (cZ, .boolean)]) (mw cI cZ ad th (nI N) pa pe g0 g1 g2) [.ref (ad 0), .int (nI k)] (nI (N - 1)) (mw cI cZ ad 0 (nI (N - 1)) (pa - 1) (pe + 1) (va_cpy g0 g0 (k + 1) k (N - (k + 1))) (va_cpy g1 g1 (k + 1) k (N - (k + 1))) (va_cpy g2 g2 (k + 1) k (N - (k + 1)))) := by
  refine m_startI (cc := cX1_removeCough) (maxL := 2) (rt := .int) (by decide) rfl (Nat.le_of_ble_eq_true rfl) ?_
  intro p e s m below meth c A hx hb hml hr hts hown hlocks hK hA H locs ls hP hD hS hl
  have hin : ∀ w ∈ wsX10, w ∈ wsX1_removeCough := by decide +kernel
  have hl : lv_has ls 2 [(0, .ref (ad 0)), (1, .int (nI k))] := hl
  refine lv_aload_n hx hb dX1_removeCough_0 rfl (lv_at hl 0 rfl) ?_
  refine lv_iconst (v := 0) hx hb dX1_removeCough_1 (by decide) ?_
  refine va_put (D := D) (ci := 1) (v := .int 0) (ty := .int) (C := RX1) (T := TX1) (N := 7) hx hb hts hin tyX1 tyX1_ok nmX1 hown hK hP hD hS 0 rfl rfl 0 (by decide) (hts (.fieldLink RX1 24 "SplicedTalkModel" "thrown" "I") (by decide +kernel)) (fun _ h9 => h9) rfl (by decide +kernel) rfl rfl (Nat.le_of_ble_eq_true rfl) dX1_removeCough_2 (fun H locs hP hD hS => ?_)
  have hP : va_P D vwCl (mw cI cZ ad 0 (nI N) pa pe g0 g1 g2) H := hP
  have hD : va_D A (mw cI cZ ad 0 (nI N) pa pe g0 g1 g2) := q_Dc (L := [ad 0, ad 1, ad 2, ad 3]) hD rfl rfl
  refine lv_aload_n hx hb dX1_removeCough_5 rfl (lv_at hl 0 rfl) ?_
  refine lv_iload_n hx hb dX1_removeCough_6 rfl (lv_at hl 1 rfl) ?_
  refine q_callV (As := [.int (nI k)]) (rest := []) ⟨hx, hb, hml, hown, hts⟩ (c_X1_isPlace l D cI cZ ad 0 N pa pe g0 g1 g2 hN (nI k)) (cwV 1 hts gX1_removeCough_X1_isPlace rfl rfl rfl kv_X1_isPlace ⟨Nat.le_of_ble_eq_true rfl, Nat.le_of_ble_eq_true rfl⟩) (va_recv hK hP (ci := 1) (q0 := 0) rfl rfl) hP hK rfl hl.1 rfl (Nat.le_of_ble_eq_true rfl) dX1_removeCough_7 (Nat.zero_le _) (Nat.zero_le _) hS (fun H locs hsm hS => ?_)
  have hP := hsm.P hP
  refine lv_if_ne (tgt := 19) hx hb dX1_removeCough_10 (by decide) (fun c_10 => ?_) (fun h9 => absurd (h1.symm.trans (bI_0.mp h9)) (by decide))
  refine lv_aload_n hx hb dX1_removeCough_19 rfl (lv_at hl 0 rfl) ?_
  refine va_get (D := D) (ci := 1) (v := .ref (ad 1)) (C := RX1) (T := TX1) (N := 7) hx hb hts hin hown hK hP 0 rfl rfl 4 (by decide) (hts (.fieldLink RX1 13 "SplicedTalkModel" "topic" "[I") (by decide +kernel)) (fun _ h9 => h9) rfl dX1_removeCough_20 ?_
  refine lv_iload_n hx hb dX1_removeCough_23 rfl (lv_at hl 1 rfl) ?_
  refine va_iald hx hb hK hP 1 0 rfl rfl (vp_in_nI (by have := hN; skip; omega) (by decide)) dX1_removeCough_24 ?_
  rw [nI_clamp (by have := hN; skip; omega)]
  refine lv_if_ge (tgt := 36) hx hb dX1_removeCough_25 (by decide) (fun h9 => absurd h9 h2) (fun c_25 => ?_)
  refine lv_aload_n hx hb dX1_removeCough_28 rfl (lv_at hl 0 rfl) ?_
  refine va_get (D := D) (ci := 1) (v := .int pa) (C := RX1) (T := TX1) (N := 7) hx hb hts hin hown hK hP 0 rfl rfl 2 (by decide) (hts (.fieldLink RX1 7 "SplicedTalkModel" "patience" "I") (by decide +kernel)) (fun _ h9 => h9) rfl dX1_removeCough_29 ?_
  refine lv_iconst (v := 1) hx hb dX1_removeCough_32 (by decide) ?_
  refine lv_icmp_ge (tgt := 42) hx hb dX1_removeCough_33 (by decide) (fun c_33 => ?_) (fun h9 => absurd h3 h9)
  refine lv_aload_n hx hb dX1_removeCough_42 rfl (lv_at hl 0 rfl) ?_
  refine lv_iload_n hx hb dX1_removeCough_43 rfl (lv_at hl 1 rfl) ?_
  refine lv_iconst (v := 1) hx hb dX1_removeCough_44 (by decide) ?_
  refine lv_iadd hx hb dX1_removeCough_45 ?_
  rw [nI_1]
  refine lv_iconst (v := -1) hx hb dX1_removeCough_46 (by decide) ?_
  refine m_callV (As := [.int (nI (k + 1)), .int (-1)]) (rest := []) (Wr := []) (W2 := (mw cI cZ ad 0 (nI (N - 1)) pa pe (va_cpy g0 g0 (k + 1) k (N - (k + 1))) (va_cpy g1 g1 (k + 1) k (N - (k + 1))) (va_cpy g2 g2 (k + 1) k (N - (k + 1))))) ⟨hx, hb, hml, hown, hts⟩ (c_X1_move_up l D cI cZ ad 0 N pa pe g0 g1 g2 hN k hk h2f) (cwV 2 hts gX1_removeCough_X1_move rfl rfl rfl kv_X1_move ⟨Nat.le_of_ble_eq_true rfl, Nat.le_of_ble_eq_true rfl⟩) (va_recv hK hP (ci := 1) (q0 := 0) rfl rfl) hP hD hK hA [0, 1, 2, 3] [] [0, 1, 2, 3] rfl rfl rfl rfl rfl (by decide) rfl rfl rfl hl.1 rfl (Nat.le_of_ble_eq_true rfl) dX1_removeCough_47 (Nat.zero_le _) (Nat.zero_le _) hS (fun H locs hP hS => ?_)
  have hD : va_D A (mw cI cZ ad 0 (nI (N - 1)) pa pe (va_cpy g0 g0 (k + 1) k (N - (k + 1))) (va_cpy g1 g1 (k + 1) k (N - (k + 1))) (va_cpy g2 g2 (k + 1) k (N - (k + 1)))) := q_Dc (L := [ad 0, ad 1, ad 2, ad 3]) hD rfl rfl
  refine lv_aload_n hx hb dX1_removeCough_50 rfl (lv_at hl 0 rfl) ?_
  refine lv_iconst (v := 1) hx hb dX1_removeCough_51 (by decide) ?_
  refine m_callVI (As := [.int 1]) (rest := []) (Wr := []) (W2 := (mw cI cZ ad 0 (nI (N - 1)) (pa - 1) (pe + 1) (va_cpy g0 g0 (k + 1) k (N - (k + 1))) (va_cpy g1 g1 (k + 1) k (N - (k + 1))) (va_cpy g2 g2 (k + 1) k (N - (k + 1))))) ⟨hx, hb, hml, hown, hts⟩ (c_X1_pay l D cI cZ ad 0 (N - 1) pa pe (va_cpy g0 g0 (k + 1) k (N - (k + 1))) (va_cpy g1 g1 (k + 1) k (N - (k + 1))) (va_cpy g2 g2 (k + 1) k (N - (k + 1))) (by omega) 1) (cwV 1 hts gX1_removeCough_X1_pay rfl rfl rfl kv_X1_pay ⟨Nat.le_of_ble_eq_true rfl, Nat.le_of_ble_eq_true rfl⟩) (va_recv hK hP (ci := 1) (q0 := 0) rfl rfl) hP hD hK hA [0, 1, 2, 3] [] [0, 1, 2, 3] rfl rfl rfl rfl rfl (by decide) rfl rfl rfl hl.1 rfl (Nat.le_of_ble_eq_true rfl) dX1_removeCough_52 (Nat.zero_le _) (Nat.zero_le _) hS (fun H locs hP hS => ?_)
  have hD : va_D A (mw cI cZ ad 0 (nI (N - 1)) (pa - 1) (pe + 1) (va_cpy g0 g0 (k + 1) k (N - (k + 1))) (va_cpy g1 g1 (k + 1) k (N - (k + 1))) (va_cpy g2 g2 (k + 1) k (N - (k + 1)))) := q_Dc (L := [ad 0, ad 1, ad 2, ad 3]) hD rfl rfl
  refine lv_pop hx hb dX1_removeCough_55 rfl ?_
  refine lv_aload_n hx hb dX1_removeCough_56 rfl (lv_at hl 0 rfl) ?_
  refine va_get (D := D) (ci := 1) (v := .int (nI (N - 1))) (C := RX1) (T := TX1) (N := 7) hx hb hts hin hown hK hP 0 rfl rfl 1 (by decide) (hts (.fieldLink RX1 31 "SplicedTalkModel" "remarks" "I") (by decide +kernel)) (fun _ h9 => h9) rfl dX1_removeCough_57 ?_
  exact m_retI hx hb hr hlocks hS hP rfl dX1_removeCough_60

theorem kv_X1_tie : yX1_tie.cls = RX1 ∧ yX1_tie.cls ≠ "java/lang/invoke/MethodHandle" ∧ yX1_tie.cls ≠ "java/lang/invoke/VarHandle" ∧ (parseMethodDescriptor yX1_tie.desc).map (fun d => d.parameters.length) = some 1 := by decide +kernel
theorem ks_X1_tie : yX1_tie.cls ≠ "java/lang/invoke/MethodHandle" ∧ yX1_tie.cls ≠ "java/lang/invoke/VarHandle" ∧ (parseMethodDescriptor yX1_tie.desc).map (fun d => d.parameters.length) = some 1 := kv_X1_tie.2
set_option maxHeartbeats 4000000 in
set_option maxRecDepth 100000 in
theorem c_X1_tie_1 (l : Launch) (D : va_G) (cI cZ : ClassId) (ad : Nat → Nat) (th : Int32) (N : Nat) (pa pe : Int32) (g0 g1 g2 : Nat → Int32) (hN : N ≤ 24) (x1 : Int32) (h1 : m_in x1 0 (nI (m_n g0 N) - 2) = false) : m_I l yX1_tie wsX1_tie ({ frames := 2, cells := 0, slots := 0, locals := 43 } : Room) D ([(cI, .int), (cZ, .boolean)]) (mw cI cZ ad th (nI N) pa pe g0 g1 g2) [.ref (ad 0), .int x1] 0 (mw cI cZ ad 1 (nI N) pa pe g0 g1 g2) := by
  refine m_startI (cc := cX1_tie) (maxL := 2) (rt := .int) (by decide) rfl (Nat.le_of_ble_eq_true rfl) ?_
  intro p e s m below meth c A hx hb hml hr hts hown hlocks hK hA H locs ls hP hD hS hl
  have hin : ∀ w ∈ wsX10, w ∈ wsX1_tie := by decide +kernel
  have hl : lv_has ls 2 [(0, .ref (ad 0)), (1, .int x1)] := hl
  refine lv_aload_n hx hb dX1_tie_0 rfl (lv_at hl 0 rfl) ?_
  refine lv_iconst (v := 0) hx hb dX1_tie_1 (by decide) ?_
  refine va_put (D := D) (ci := 1) (v := .int 0) (ty := .int) (C := RX1) (T := TX1) (N := 7) hx hb hts hin tyX1 tyX1_ok nmX1 hown hK hP hD hS 0 rfl rfl 0 (by decide) (hts (.fieldLink RX1 24 "SplicedTalkModel" "thrown" "I") (by decide +kernel)) (fun _ h9 => h9) rfl (by decide +kernel) rfl rfl (Nat.le_of_ble_eq_true rfl) dX1_tie_2 (fun H locs hP hD hS => ?_)
  have hP : va_P D vwCl (mw cI cZ ad 0 (nI N) pa pe g0 g1 g2) H := hP
  have hD : va_D A (mw cI cZ ad 0 (nI N) pa pe g0 g1 g2) := q_Dc (L := [ad 0, ad 1, ad 2, ad 3]) hD rfl rfl
  refine lv_aload_n hx hb dX1_tie_5 rfl (lv_at hl 0 rfl) ?_
  refine lv_iload_n hx hb dX1_tie_6 rfl (lv_at hl 1 rfl) ?_
  refine q_callV (As := [.int x1]) (rest := []) ⟨hx, hb, hml, hown, hts⟩ (c_X1_isGap l D cI cZ ad 0 N pa pe g0 g1 g2 hN x1) (cwV 1 hts gX1_tie_X1_isGap rfl rfl rfl kv_X1_isGap ⟨Nat.le_of_ble_eq_true rfl, Nat.le_of_ble_eq_true rfl⟩) (va_recv hK hP (ci := 1) (q0 := 0) rfl rfl) hP hK rfl hl.1 rfl (Nat.le_of_ble_eq_true rfl) dX1_tie_7 (Nat.zero_le _) (Nat.zero_le _) hS (fun H locs hsm hS => ?_)
  have hP := hsm.P hP
  refine lv_if_ne (tgt := 19) hx hb dX1_tie_10 (by decide) (fun h9 => absurd (bI_0.mpr h1) h9) (fun c_10 => ?_)
  refine lv_aload_n hx hb dX1_tie_13 rfl (lv_at hl 0 rfl) ?_
  refine lv_iconst (v := 1) hx hb dX1_tie_14 (by decide) ?_
  refine m_callVI (As := [.int 1]) (rest := []) (Wr := []) (W2 := (mw cI cZ ad 1 (nI N) pa pe g0 g1 g2)) ⟨hx, hb, hml, hown, hts⟩ (c_X1_fail l D cI cZ ad 0 N pa pe g0 g1 g2 hN 1) (cwV 1 hts gX1_tie_X1_fail rfl rfl rfl kv_X1_fail ⟨Nat.le_of_ble_eq_true rfl, Nat.le_of_ble_eq_true rfl⟩) (va_recv hK hP (ci := 1) (q0 := 0) rfl rfl) hP hD hK hA [0, 1, 2, 3] [] [0, 1, 2, 3] rfl rfl rfl rfl rfl (by decide) rfl rfl rfl hl.1 rfl (Nat.le_of_ble_eq_true rfl) dX1_tie_15 (Nat.zero_le _) (Nat.zero_le _) hS (fun H locs hP hS => ?_)
  have hD : va_D A (mw cI cZ ad 1 (nI N) pa pe g0 g1 g2) := q_Dc (L := [ad 0, ad 1, ad 2, ad 3]) hD rfl rfl
  exact m_retI hx hb hr hlocks hS hP rfl dX1_tie_18

set_option maxHeartbeats 4000000 in
set_option maxRecDepth 100000 in
theorem c_X1_tie_2 (l : Launch) (D : va_G) (cI cZ : ClassId) (ad : Nat → Nat) (th : Int32) (N : Nat) (pa pe : Int32) (g0 g1 g2 : Nat → Int32) (hN : N ≤ 24) (g : Nat) (hg : g + 1 < m_n g0 N) (h1 : m_in (nI g) 0 (nI (m_n g0 N) - 2) = true) (h2 : ¬ g2 (m_P g0 N g) = 0) : m_I l yX1_tie wsX1_tie ({ frames := 2, cells := 0, slots := 0, locals := 44 } : Room) D ([(cI, .int), (cZ, .boolean)]) (mw cI cZ ad th (nI N) pa pe g0 g1 g2) [.ref (ad 0), .int (nI g)] 0 (mw cI cZ ad 2 (nI N) pa pe g0 g1 g2) := by
  refine m_startI (cc := cX1_tie) (maxL := 2) (rt := .int) (by decide) rfl (Nat.le_of_ble_eq_true rfl) ?_
  intro p e s m below meth c A hx hb hml hr hts hown hlocks hK hA H locs ls hP hD hS hl
  have hin : ∀ w ∈ wsX10, w ∈ wsX1_tie := by decide +kernel
  have hl : lv_has ls 2 [(0, .ref (ad 0)), (1, .int (nI g))] := hl
  refine lv_aload_n hx hb dX1_tie_0 rfl (lv_at hl 0 rfl) ?_
  refine lv_iconst (v := 0) hx hb dX1_tie_1 (by decide) ?_
  refine va_put (D := D) (ci := 1) (v := .int 0) (ty := .int) (C := RX1) (T := TX1) (N := 7) hx hb hts hin tyX1 tyX1_ok nmX1 hown hK hP hD hS 0 rfl rfl 0 (by decide) (hts (.fieldLink RX1 24 "SplicedTalkModel" "thrown" "I") (by decide +kernel)) (fun _ h9 => h9) rfl (by decide +kernel) rfl rfl (Nat.le_of_ble_eq_true rfl) dX1_tie_2 (fun H locs hP hD hS => ?_)
  have hP : va_P D vwCl (mw cI cZ ad 0 (nI N) pa pe g0 g1 g2) H := hP
  have hD : va_D A (mw cI cZ ad 0 (nI N) pa pe g0 g1 g2) := q_Dc (L := [ad 0, ad 1, ad 2, ad 3]) hD rfl rfl
  refine lv_aload_n hx hb dX1_tie_5 rfl (lv_at hl 0 rfl) ?_
  refine lv_iload_n hx hb dX1_tie_6 rfl (lv_at hl 1 rfl) ?_
  refine q_callV (As := [.int (nI g)]) (rest := []) ⟨hx, hb, hml, hown, hts⟩ (c_X1_isGap l D cI cZ ad 0 N pa pe g0 g1 g2 hN (nI g)) (cwV 1 hts gX1_tie_X1_isGap rfl rfl rfl kv_X1_isGap ⟨Nat.le_of_ble_eq_true rfl, Nat.le_of_ble_eq_true rfl⟩) (va_recv hK hP (ci := 1) (q0 := 0) rfl rfl) hP hK rfl hl.1 rfl (Nat.le_of_ble_eq_true rfl) dX1_tie_7 (Nat.zero_le _) (Nat.zero_le _) hS (fun H locs hsm hS => ?_)
  have hP := hsm.P hP
  refine lv_if_ne (tgt := 19) hx hb dX1_tie_10 (by decide) (fun c_10 => ?_) (fun h9 => absurd (h1.symm.trans (bI_0.mp h9)) (by decide))
  refine lv_aload_n hx hb dX1_tie_19 rfl (lv_at hl 0 rfl) ?_
  refine va_get (D := D) (ci := 1) (v := .ref (ad 3)) (C := RX1) (T := TX1) (N := 7) hx hb hts hin hown hK hP 0 rfl rfl 6 (by decide) (hts (.fieldLink RX1 20 "SplicedTalkModel" "tied" "[Z") (by decide +kernel)) (fun _ h9 => h9) rfl dX1_tie_20 ?_
  refine lv_aload_n hx hb dX1_tie_23 rfl (lv_at hl 0 rfl) ?_
  refine lv_iload_n hx hb dX1_tie_24 rfl (lv_at hl 1 rfl) ?_
  refine q_callV (As := [.int (nI g)]) (rest := [.ref (ad 3)]) ⟨hx, hb, hml, hown, hts⟩ (c_X1_from l D cI cZ ad 0 N pa pe g0 g1 g2 hN g (by omega)) (cwV 1 hts gX1_tie_X1_from rfl rfl rfl kv_X1_from ⟨Nat.le_of_ble_eq_true rfl, Nat.le_of_ble_eq_true rfl⟩) (va_recv hK hP (ci := 1) (q0 := 0) rfl rfl) hP hK rfl hl.1 rfl (Nat.le_of_ble_eq_true rfl) dX1_tie_25 (Nat.zero_le _) (Nat.zero_le _) hS (fun H locs hsm hS => ?_)
  have hP := hsm.P hP
  refine va_zald hx hb hK hP 3 1 rfl rfl (vp_in_nI (by have := hN; have := m_P_lt (g0 := g0) (N := N) (k := g) (by omega); omega) (by decide)) dX1_tie_28 ?_
  rw [nI_clamp (by have := hN; have := m_P_lt (g0 := g0) (N := N) (k := g) (by omega); omega)]
  refine lv_if_ne (tgt := 40) hx hb dX1_tie_29 (by decide) (fun c_29 => ?_) (fun h9 => absurd h9 h2)
  refine lv_aload_n hx hb dX1_tie_40 rfl (lv_at hl 0 rfl) ?_
  refine lv_iconst (v := 2) hx hb dX1_tie_41 (by decide) ?_
  refine m_callVI (As := [.int 2]) (rest := []) (Wr := []) (W2 := (mw cI cZ ad 2 (nI N) pa pe g0 g1 g2)) ⟨hx, hb, hml, hown, hts⟩ (c_X1_fail l D cI cZ ad 0 N pa pe g0 g1 g2 hN 2) (cwV 1 hts gX1_tie_X1_fail rfl rfl rfl kv_X1_fail ⟨Nat.le_of_ble_eq_true rfl, Nat.le_of_ble_eq_true rfl⟩) (va_recv hK hP (ci := 1) (q0 := 0) rfl rfl) hP hD hK hA [0, 1, 2, 3] [] [0, 1, 2, 3] rfl rfl rfl rfl rfl (by decide) rfl rfl rfl hl.1 rfl (Nat.le_of_ble_eq_true rfl) dX1_tie_42 (Nat.zero_le _) (Nat.zero_le _) hS (fun H locs hP hS => ?_)
  have hD : va_D A (mw cI cZ ad 2 (nI N) pa pe g0 g1 g2) := q_Dc (L := [ad 0, ad 1, ad 2, ad 3]) hD rfl rfl
  exact m_retI hx hb hr hlocks hS hP rfl dX1_tie_45

set_option maxHeartbeats 4000000 in
set_option maxRecDepth 100000 in
theorem c_X1_tie_3 (l : Launch) (D : va_G) (cI cZ : ClassId) (ad : Nat → Nat) (th : Int32) (N : Nat) (pa pe : Int32) (g0 g1 g2 : Nat → Int32) (hN : N ≤ 24) (g : Nat) (hg : g + 1 < m_n g0 N) (h1 : m_in (nI g) 0 (nI (m_n g0 N) - 2) = true) (h2 : g2 (m_P g0 N g) = 0) (h3 : ¬ 3 ≤ pa) : m_I l yX1_tie wsX1_tie ({ frames := 2, cells := 0, slots := 0, locals := 44 } : Room) D ([(cI, .int), (cZ, .boolean)]) (mw cI cZ ad th (nI N) pa pe g0 g1 g2) [.ref (ad 0), .int (nI g)] 0 (mw cI cZ ad 2 (nI N) pa pe g0 g1 g2) := by
  refine m_startI (cc := cX1_tie) (maxL := 2) (rt := .int) (by decide) rfl (Nat.le_of_ble_eq_true rfl) ?_
  intro p e s m below meth c A hx hb hml hr hts hown hlocks hK hA H locs ls hP hD hS hl
  have hin : ∀ w ∈ wsX10, w ∈ wsX1_tie := by decide +kernel
  have hl : lv_has ls 2 [(0, .ref (ad 0)), (1, .int (nI g))] := hl
  refine lv_aload_n hx hb dX1_tie_0 rfl (lv_at hl 0 rfl) ?_
  refine lv_iconst (v := 0) hx hb dX1_tie_1 (by decide) ?_
  refine va_put (D := D) (ci := 1) (v := .int 0) (ty := .int) (C := RX1) (T := TX1) (N := 7) hx hb hts hin tyX1 tyX1_ok nmX1 hown hK hP hD hS 0 rfl rfl 0 (by decide) (hts (.fieldLink RX1 24 "SplicedTalkModel" "thrown" "I") (by decide +kernel)) (fun _ h9 => h9) rfl (by decide +kernel) rfl rfl (Nat.le_of_ble_eq_true rfl) dX1_tie_2 (fun H locs hP hD hS => ?_)
  have hP : va_P D vwCl (mw cI cZ ad 0 (nI N) pa pe g0 g1 g2) H := hP
  have hD : va_D A (mw cI cZ ad 0 (nI N) pa pe g0 g1 g2) := q_Dc (L := [ad 0, ad 1, ad 2, ad 3]) hD rfl rfl
  refine lv_aload_n hx hb dX1_tie_5 rfl (lv_at hl 0 rfl) ?_
  refine lv_iload_n hx hb dX1_tie_6 rfl (lv_at hl 1 rfl) ?_
  refine q_callV (As := [.int (nI g)]) (rest := []) ⟨hx, hb, hml, hown, hts⟩ (c_X1_isGap l D cI cZ ad 0 N pa pe g0 g1 g2 hN (nI g)) (cwV 1 hts gX1_tie_X1_isGap rfl rfl rfl kv_X1_isGap ⟨Nat.le_of_ble_eq_true rfl, Nat.le_of_ble_eq_true rfl⟩) (va_recv hK hP (ci := 1) (q0 := 0) rfl rfl) hP hK rfl hl.1 rfl (Nat.le_of_ble_eq_true rfl) dX1_tie_7 (Nat.zero_le _) (Nat.zero_le _) hS (fun H locs hsm hS => ?_)
  have hP := hsm.P hP
  refine lv_if_ne (tgt := 19) hx hb dX1_tie_10 (by decide) (fun c_10 => ?_) (fun h9 => absurd (h1.symm.trans (bI_0.mp h9)) (by decide))
  refine lv_aload_n hx hb dX1_tie_19 rfl (lv_at hl 0 rfl) ?_
  refine va_get (D := D) (ci := 1) (v := .ref (ad 3)) (C := RX1) (T := TX1) (N := 7) hx hb hts hin hown hK hP 0 rfl rfl 6 (by decide) (hts (.fieldLink RX1 20 "SplicedTalkModel" "tied" "[Z") (by decide +kernel)) (fun _ h9 => h9) rfl dX1_tie_20 ?_
  refine lv_aload_n hx hb dX1_tie_23 rfl (lv_at hl 0 rfl) ?_
  refine lv_iload_n hx hb dX1_tie_24 rfl (lv_at hl 1 rfl) ?_
  refine q_callV (As := [.int (nI g)]) (rest := [.ref (ad 3)]) ⟨hx, hb, hml, hown, hts⟩ (c_X1_from l D cI cZ ad 0 N pa pe g0 g1 g2 hN g (by omega)) (cwV 1 hts gX1_tie_X1_from rfl rfl rfl kv_X1_from ⟨Nat.le_of_ble_eq_true rfl, Nat.le_of_ble_eq_true rfl⟩) (va_recv hK hP (ci := 1) (q0 := 0) rfl rfl) hP hK rfl hl.1 rfl (Nat.le_of_ble_eq_true rfl) dX1_tie_25 (Nat.zero_le _) (Nat.zero_le _) hS (fun H locs hsm hS => ?_)
  have hP := hsm.P hP
  refine va_zald hx hb hK hP 3 1 rfl rfl (vp_in_nI (by have := hN; have := m_P_lt (g0 := g0) (N := N) (k := g) (by omega); omega) (by decide)) dX1_tie_28 ?_
  rw [nI_clamp (by have := hN; have := m_P_lt (g0 := g0) (N := N) (k := g) (by omega); omega)]
  refine lv_if_ne (tgt := 40) hx hb dX1_tie_29 (by decide) (fun h9 => absurd h2 h9) (fun c_29 => ?_)
  refine lv_aload_n hx hb dX1_tie_32 rfl (lv_at hl 0 rfl) ?_
  refine va_get (D := D) (ci := 1) (v := .int pa) (C := RX1) (T := TX1) (N := 7) hx hb hts hin hown hK hP 0 rfl rfl 2 (by decide) (hts (.fieldLink RX1 7 "SplicedTalkModel" "patience" "I") (by decide +kernel)) (fun _ h9 => h9) rfl dX1_tie_33 ?_
  refine lv_iconst (v := 3) hx hb dX1_tie_36 (by decide) ?_
  refine lv_icmp_ge (tgt := 46) hx hb dX1_tie_37 (by decide) (fun h9 => absurd h9 h3) (fun c_37 => ?_)
  refine lv_aload_n hx hb dX1_tie_40 rfl (lv_at hl 0 rfl) ?_
  refine lv_iconst (v := 2) hx hb dX1_tie_41 (by decide) ?_
  refine m_callVI (As := [.int 2]) (rest := []) (Wr := []) (W2 := (mw cI cZ ad 2 (nI N) pa pe g0 g1 g2)) ⟨hx, hb, hml, hown, hts⟩ (c_X1_fail l D cI cZ ad 0 N pa pe g0 g1 g2 hN 2) (cwV 1 hts gX1_tie_X1_fail rfl rfl rfl kv_X1_fail ⟨Nat.le_of_ble_eq_true rfl, Nat.le_of_ble_eq_true rfl⟩) (va_recv hK hP (ci := 1) (q0 := 0) rfl rfl) hP hD hK hA [0, 1, 2, 3] [] [0, 1, 2, 3] rfl rfl rfl rfl rfl (by decide) rfl rfl rfl hl.1 rfl (Nat.le_of_ble_eq_true rfl) dX1_tie_42 (Nat.zero_le _) (Nat.zero_le _) hS (fun H locs hP hS => ?_)
  have hD : va_D A (mw cI cZ ad 2 (nI N) pa pe g0 g1 g2) := q_Dc (L := [ad 0, ad 1, ad 2, ad 3]) hD rfl rfl
  exact m_retI hx hb hr hlocks hS hP rfl dX1_tie_45

set_option maxHeartbeats 4000000 in
set_option maxRecDepth 100000 in
theorem c_X1_tie_ok (l : Launch) (D : va_G) (cI cZ : ClassId) (ad : Nat → Nat) (th : Int32) (N : Nat) (pa pe : Int32) (g0 g1 g2 : Nat → Int32) (hN : N ≤ 24) (g : Nat) (hg : g + 1 < m_n g0 N) (h1 : m_in (nI g) 0 (nI (m_n g0 N) - 2) = true) (h2 : g2 (m_P g0 N g) = 0) (h3 : 3 ≤ pa) : m_I l yX1_tie wsX1_tie ({ frames := 7, cells := 0, slots := 0, locals := 149 } : Room) D ([(cI, .int), (cZ, .boolean)]) (mw cI cZ ad th (nI N) pa pe g0 g1 g2) [.ref (ad 0), .int (nI g)] (nI (m_tn g0 g1 (upd g2 (m_P g0 N g) 1) N)) (mw cI cZ ad 0 (nI N) (pa - 3) (pe + 3) g0 g1 (upd g2 (m_P g0 N g) 1)) := by
  refine m_startI (cc := cX1_tie) (maxL := 2) (rt := .int) (by decide) rfl (Nat.le_of_ble_eq_true rfl) ?_
  intro p e s m below meth c A hx hb hml hr hts hown hlocks hK hA H locs ls hP hD hS hl
  have hin : ∀ w ∈ wsX10, w ∈ wsX1_tie := by decide +kernel
  have hl : lv_has ls 2 [(0, .ref (ad 0)), (1, .int (nI g))] := hl
  refine lv_aload_n hx hb dX1_tie_0 rfl (lv_at hl 0 rfl) ?_
  refine lv_iconst (v := 0) hx hb dX1_tie_1 (by decide) ?_
  refine va_put (D := D) (ci := 1) (v := .int 0) (ty := .int) (C := RX1) (T := TX1) (N := 7) hx hb hts hin tyX1 tyX1_ok nmX1 hown hK hP hD hS 0 rfl rfl 0 (by decide) (hts (.fieldLink RX1 24 "SplicedTalkModel" "thrown" "I") (by decide +kernel)) (fun _ h9 => h9) rfl (by decide +kernel) rfl rfl (Nat.le_of_ble_eq_true rfl) dX1_tie_2 (fun H locs hP hD hS => ?_)
  have hP : va_P D vwCl (mw cI cZ ad 0 (nI N) pa pe g0 g1 g2) H := hP
  have hD : va_D A (mw cI cZ ad 0 (nI N) pa pe g0 g1 g2) := q_Dc (L := [ad 0, ad 1, ad 2, ad 3]) hD rfl rfl
  refine lv_aload_n hx hb dX1_tie_5 rfl (lv_at hl 0 rfl) ?_
  refine lv_iload_n hx hb dX1_tie_6 rfl (lv_at hl 1 rfl) ?_
  refine q_callV (As := [.int (nI g)]) (rest := []) ⟨hx, hb, hml, hown, hts⟩ (c_X1_isGap l D cI cZ ad 0 N pa pe g0 g1 g2 hN (nI g)) (cwV 1 hts gX1_tie_X1_isGap rfl rfl rfl kv_X1_isGap ⟨Nat.le_of_ble_eq_true rfl, Nat.le_of_ble_eq_true rfl⟩) (va_recv hK hP (ci := 1) (q0 := 0) rfl rfl) hP hK rfl hl.1 rfl (Nat.le_of_ble_eq_true rfl) dX1_tie_7 (Nat.zero_le _) (Nat.zero_le _) hS (fun H locs hsm hS => ?_)
  have hP := hsm.P hP
  refine lv_if_ne (tgt := 19) hx hb dX1_tie_10 (by decide) (fun c_10 => ?_) (fun h9 => absurd (h1.symm.trans (bI_0.mp h9)) (by decide))
  refine lv_aload_n hx hb dX1_tie_19 rfl (lv_at hl 0 rfl) ?_
  refine va_get (D := D) (ci := 1) (v := .ref (ad 3)) (C := RX1) (T := TX1) (N := 7) hx hb hts hin hown hK hP 0 rfl rfl 6 (by decide) (hts (.fieldLink RX1 20 "SplicedTalkModel" "tied" "[Z") (by decide +kernel)) (fun _ h9 => h9) rfl dX1_tie_20 ?_
  refine lv_aload_n hx hb dX1_tie_23 rfl (lv_at hl 0 rfl) ?_
  refine lv_iload_n hx hb dX1_tie_24 rfl (lv_at hl 1 rfl) ?_
  refine q_callV (As := [.int (nI g)]) (rest := [.ref (ad 3)]) ⟨hx, hb, hml, hown, hts⟩ (c_X1_from l D cI cZ ad 0 N pa pe g0 g1 g2 hN g (by omega)) (cwV 1 hts gX1_tie_X1_from rfl rfl rfl kv_X1_from ⟨Nat.le_of_ble_eq_true rfl, Nat.le_of_ble_eq_true rfl⟩) (va_recv hK hP (ci := 1) (q0 := 0) rfl rfl) hP hK rfl hl.1 rfl (Nat.le_of_ble_eq_true rfl) dX1_tie_25 (Nat.zero_le _) (Nat.zero_le _) hS (fun H locs hsm hS => ?_)
  have hP := hsm.P hP
  refine va_zald hx hb hK hP 3 1 rfl rfl (vp_in_nI (by have := hN; have := m_P_lt (g0 := g0) (N := N) (k := g) (by omega); omega) (by decide)) dX1_tie_28 ?_
  rw [nI_clamp (by have := hN; have := m_P_lt (g0 := g0) (N := N) (k := g) (by omega); omega)]
  refine lv_if_ne (tgt := 40) hx hb dX1_tie_29 (by decide) (fun h9 => absurd h2 h9) (fun c_29 => ?_)
  refine lv_aload_n hx hb dX1_tie_32 rfl (lv_at hl 0 rfl) ?_
  refine va_get (D := D) (ci := 1) (v := .int pa) (C := RX1) (T := TX1) (N := 7) hx hb hts hin hown hK hP 0 rfl rfl 2 (by decide) (hts (.fieldLink RX1 7 "SplicedTalkModel" "patience" "I") (by decide +kernel)) (fun _ h9 => h9) rfl dX1_tie_33 ?_
  refine lv_iconst (v := 3) hx hb dX1_tie_36 (by decide) ?_
  refine lv_icmp_ge (tgt := 46) hx hb dX1_tie_37 (by decide) (fun c_37 => ?_) (fun h9 => absurd h3 h9)
  refine lv_aload_n hx hb dX1_tie_46 rfl (lv_at hl 0 rfl) ?_
  refine va_get (D := D) (ci := 1) (v := .ref (ad 3)) (C := RX1) (T := TX1) (N := 7) hx hb hts hin hown hK hP 0 rfl rfl 6 (by decide) (hts (.fieldLink RX1 20 "SplicedTalkModel" "tied" "[Z") (by decide +kernel)) (fun _ h9 => h9) rfl dX1_tie_47 ?_
  refine lv_aload_n hx hb dX1_tie_50 rfl (lv_at hl 0 rfl) ?_
  refine lv_iload_n hx hb dX1_tie_51 rfl (lv_at hl 1 rfl) ?_
  refine q_callV (As := [.int (nI g)]) (rest := [.ref (ad 3)]) ⟨hx, hb, hml, hown, hts⟩ (c_X1_from l D cI cZ ad 0 N pa pe g0 g1 g2 hN g (by omega)) (cwV 1 hts gX1_tie_X1_from rfl rfl rfl kv_X1_from ⟨Nat.le_of_ble_eq_true rfl, Nat.le_of_ble_eq_true rfl⟩) (va_recv hK hP (ci := 1) (q0 := 0) rfl rfl) hP hK rfl hl.1 rfl (Nat.le_of_ble_eq_true rfl) dX1_tie_52 (Nat.zero_le _) (Nat.zero_le _) hS (fun H locs hsm hS => ?_)
  have hP := hsm.P hP
  refine lv_iconst (v := 1) hx hb dX1_tie_55 (by decide) ?_
  refine va_zast hx hb hK hP hD hS 3 1 rfl rfl (vp_in_nI (by have := hN; have := m_P_lt (g0 := g0) (N := N) (k := g) (by omega); omega) (by decide)) dX1_tie_56 (fun H locs hP hD hS => ?_)
  rw [nI_clamp (by have := hN; have := m_P_lt (g0 := g0) (N := N) (k := g) (by omega); omega)] at hP
  have hD : va_D A (mw cI cZ ad 0 (nI N) pa pe g0 g1 (upd g2 (m_P g0 N g) 1)) := q_Dc (L := [ad 0, ad 1, ad 2, ad 3]) hD rfl rfl
  have hP : va_P D vwCl (mw cI cZ ad 0 (nI N) pa pe g0 g1 (upd g2 (m_P g0 N g) 1)) H := hP
  refine lv_aload_n hx hb dX1_tie_57 rfl (lv_at hl 0 rfl) ?_
  refine lv_iconst (v := 3) hx hb dX1_tie_58 (by decide) ?_
  refine m_callVI (As := [.int 3]) (rest := []) (Wr := []) (W2 := (mw cI cZ ad 0 (nI N) (pa - 3) (pe + 3) g0 g1 (upd g2 (m_P g0 N g) 1))) ⟨hx, hb, hml, hown, hts⟩ (c_X1_pay l D cI cZ ad 0 N pa pe g0 g1 (upd g2 (m_P g0 N g) 1) hN 3) (cwV 1 hts gX1_tie_X1_pay rfl rfl rfl kv_X1_pay ⟨Nat.le_of_ble_eq_true rfl, Nat.le_of_ble_eq_true rfl⟩) (va_recv hK hP (ci := 1) (q0 := 0) rfl rfl) hP hD hK hA [0, 1, 2, 3] [] [0, 1, 2, 3] rfl rfl rfl rfl rfl (by decide) rfl rfl rfl hl.1 rfl (Nat.le_of_ble_eq_true rfl) dX1_tie_59 (Nat.zero_le _) (Nat.zero_le _) hS (fun H locs hP hS => ?_)
  have hD : va_D A (mw cI cZ ad 0 (nI N) (pa - 3) (pe + 3) g0 g1 (upd g2 (m_P g0 N g) 1)) := q_Dc (L := [ad 0, ad 1, ad 2, ad 3]) hD rfl rfl
  refine lv_pop hx hb dX1_tie_62 rfl ?_
  refine lv_aload_n hx hb dX1_tie_63 rfl (lv_at hl 0 rfl) ?_
  refine q_callV (As := []) (rest := []) ⟨hx, hb, hml, hown, hts⟩ (c_X1_threadsNow l D cI cZ ad 0 N (pa - 3) (pe + 3) g0 g1 (upd g2 (m_P g0 N g) 1) hN) (cwV 0 hts gX1_tie_X1_threadsNow rfl rfl rfl kv_X1_threadsNow ⟨Nat.le_of_ble_eq_true rfl, Nat.le_of_ble_eq_true rfl⟩) (va_recv hK hP (ci := 1) (q0 := 0) rfl rfl) hP hK rfl hl.1 rfl (Nat.le_of_ble_eq_true rfl) dX1_tie_64 (Nat.zero_le _) (Nat.zero_le _) hS (fun H locs hsm hS => ?_)
  have hP := hsm.P hP
  exact m_retI hx hb hr hlocks hS hP rfl dX1_tie_67

theorem kv_X1_splice : yX1_splice.cls = RX1 ∧ yX1_splice.cls ≠ "java/lang/invoke/MethodHandle" ∧ yX1_splice.cls ≠ "java/lang/invoke/VarHandle" ∧ (parseMethodDescriptor yX1_splice.desc).map (fun d => d.parameters.length) = some 1 := by decide +kernel
theorem ks_X1_splice : yX1_splice.cls ≠ "java/lang/invoke/MethodHandle" ∧ yX1_splice.cls ≠ "java/lang/invoke/VarHandle" ∧ (parseMethodDescriptor yX1_splice.desc).map (fun d => d.parameters.length) = some 1 := kv_X1_splice.2
set_option maxHeartbeats 4000000 in
set_option maxRecDepth 100000 in
theorem c_X1_splice_1 (l : Launch) (D : va_G) (cI cZ : ClassId) (ad : Nat → Nat) (th : Int32) (N : Nat) (pa pe : Int32) (g0 g1 g2 : Nat → Int32) (hN : N ≤ 24) (x1 : Int32) (h1 : m_in x1 0 (nI (m_n g0 N) - 2) = false) : m_I l yX1_splice wsX1_splice ({ frames := 2, cells := 0, slots := 0, locals := 43 } : Room) D ([(cI, .int), (cZ, .boolean)]) (mw cI cZ ad th (nI N) pa pe g0 g1 g2) [.ref (ad 0), .int x1] 0 (mw cI cZ ad 1 (nI N) pa pe g0 g1 g2) := by
  refine m_startI (cc := cX1_splice) (maxL := 4) (rt := .int) (by decide) rfl (Nat.le_of_ble_eq_true rfl) ?_
  intro p e s m below meth c A hx hb hml hr hts hown hlocks hK hA H locs ls hP hD hS hl
  have hin : ∀ w ∈ wsX10, w ∈ wsX1_splice := by decide +kernel
  have hl : lv_has ls 4 [(0, .ref (ad 0)), (1, .int x1)] := hl
  refine lv_aload_n hx hb dX1_splice_0 rfl (lv_at hl 0 rfl) ?_
  refine lv_iconst (v := 0) hx hb dX1_splice_1 (by decide) ?_
  refine va_put (D := D) (ci := 1) (v := .int 0) (ty := .int) (C := RX1) (T := TX1) (N := 7) hx hb hts hin tyX1 tyX1_ok nmX1 hown hK hP hD hS 0 rfl rfl 0 (by decide) (hts (.fieldLink RX1 24 "SplicedTalkModel" "thrown" "I") (by decide +kernel)) (fun _ h9 => h9) rfl (by decide +kernel) rfl rfl (Nat.le_of_ble_eq_true rfl) dX1_splice_2 (fun H locs hP hD hS => ?_)
  have hP : va_P D vwCl (mw cI cZ ad 0 (nI N) pa pe g0 g1 g2) H := hP
  have hD : va_D A (mw cI cZ ad 0 (nI N) pa pe g0 g1 g2) := q_Dc (L := [ad 0, ad 1, ad 2, ad 3]) hD rfl rfl
  refine lv_aload_n hx hb dX1_splice_5 rfl (lv_at hl 0 rfl) ?_
  refine lv_iload_n hx hb dX1_splice_6 rfl (lv_at hl 1 rfl) ?_
  refine q_callV (As := [.int x1]) (rest := []) ⟨hx, hb, hml, hown, hts⟩ (c_X1_isGap l D cI cZ ad 0 N pa pe g0 g1 g2 hN x1) (cwV 1 hts gX1_splice_X1_isGap rfl rfl rfl kv_X1_isGap ⟨Nat.le_of_ble_eq_true rfl, Nat.le_of_ble_eq_true rfl⟩) (va_recv hK hP (ci := 1) (q0 := 0) rfl rfl) hP hK rfl hl.1 rfl (Nat.le_of_ble_eq_true rfl) dX1_splice_7 (Nat.zero_le _) (Nat.zero_le _) hS (fun H locs hsm hS => ?_)
  have hP := hsm.P hP
  refine lv_if_ne (tgt := 19) hx hb dX1_splice_10 (by decide) (fun h9 => absurd (bI_0.mpr h1) h9) (fun c_10 => ?_)
  refine lv_aload_n hx hb dX1_splice_13 rfl (lv_at hl 0 rfl) ?_
  refine lv_iconst (v := 1) hx hb dX1_splice_14 (by decide) ?_
  refine m_callVI (As := [.int 1]) (rest := []) (Wr := []) (W2 := (mw cI cZ ad 1 (nI N) pa pe g0 g1 g2)) ⟨hx, hb, hml, hown, hts⟩ (c_X1_fail l D cI cZ ad 0 N pa pe g0 g1 g2 hN 1) (cwV 1 hts gX1_splice_X1_fail rfl rfl rfl kv_X1_fail ⟨Nat.le_of_ble_eq_true rfl, Nat.le_of_ble_eq_true rfl⟩) (va_recv hK hP (ci := 1) (q0 := 0) rfl rfl) hP hD hK hA [0, 1, 2, 3] [] [0, 1, 2, 3] rfl rfl rfl rfl rfl (by decide) rfl rfl rfl hl.1 rfl (Nat.le_of_ble_eq_true rfl) dX1_splice_15 (Nat.zero_le _) (Nat.zero_le _) hS (fun H locs hP hS => ?_)
  have hD : va_D A (mw cI cZ ad 1 (nI N) pa pe g0 g1 g2) := q_Dc (L := [ad 0, ad 1, ad 2, ad 3]) hD rfl rfl
  exact m_retI hx hb hr hlocks hS hP rfl dX1_splice_18

set_option maxHeartbeats 4000000 in
set_option maxRecDepth 100000 in
theorem c_X1_splice_2 (l : Launch) (D : va_G) (cI cZ : ClassId) (ad : Nat → Nat) (th : Int32) (N : Nat) (pa pe : Int32) (g0 g1 g2 : Nat → Int32) (hN : N ≤ 24) (g : Nat) (hg : g + 1 < m_n g0 N) (h1 : m_in (nI g) 0 (nI (m_n g0 N) - 2) = true) (h2 : ¬ g2 (m_P g0 N g) = 0) : m_I l yX1_splice wsX1_splice ({ frames := 2, cells := 0, slots := 0, locals := 44 } : Room) D ([(cI, .int), (cZ, .boolean)]) (mw cI cZ ad th (nI N) pa pe g0 g1 g2) [.ref (ad 0), .int (nI g)] 0 (mw cI cZ ad 2 (nI N) pa pe g0 g1 g2) := by
  refine m_startI (cc := cX1_splice) (maxL := 4) (rt := .int) (by decide) rfl (Nat.le_of_ble_eq_true rfl) ?_
  intro p e s m below meth c A hx hb hml hr hts hown hlocks hK hA H locs ls hP hD hS hl
  have hin : ∀ w ∈ wsX10, w ∈ wsX1_splice := by decide +kernel
  have hl : lv_has ls 4 [(0, .ref (ad 0)), (1, .int (nI g))] := hl
  refine lv_aload_n hx hb dX1_splice_0 rfl (lv_at hl 0 rfl) ?_
  refine lv_iconst (v := 0) hx hb dX1_splice_1 (by decide) ?_
  refine va_put (D := D) (ci := 1) (v := .int 0) (ty := .int) (C := RX1) (T := TX1) (N := 7) hx hb hts hin tyX1 tyX1_ok nmX1 hown hK hP hD hS 0 rfl rfl 0 (by decide) (hts (.fieldLink RX1 24 "SplicedTalkModel" "thrown" "I") (by decide +kernel)) (fun _ h9 => h9) rfl (by decide +kernel) rfl rfl (Nat.le_of_ble_eq_true rfl) dX1_splice_2 (fun H locs hP hD hS => ?_)
  have hP : va_P D vwCl (mw cI cZ ad 0 (nI N) pa pe g0 g1 g2) H := hP
  have hD : va_D A (mw cI cZ ad 0 (nI N) pa pe g0 g1 g2) := q_Dc (L := [ad 0, ad 1, ad 2, ad 3]) hD rfl rfl
  refine lv_aload_n hx hb dX1_splice_5 rfl (lv_at hl 0 rfl) ?_
  refine lv_iload_n hx hb dX1_splice_6 rfl (lv_at hl 1 rfl) ?_
  refine q_callV (As := [.int (nI g)]) (rest := []) ⟨hx, hb, hml, hown, hts⟩ (c_X1_isGap l D cI cZ ad 0 N pa pe g0 g1 g2 hN (nI g)) (cwV 1 hts gX1_splice_X1_isGap rfl rfl rfl kv_X1_isGap ⟨Nat.le_of_ble_eq_true rfl, Nat.le_of_ble_eq_true rfl⟩) (va_recv hK hP (ci := 1) (q0 := 0) rfl rfl) hP hK rfl hl.1 rfl (Nat.le_of_ble_eq_true rfl) dX1_splice_7 (Nat.zero_le _) (Nat.zero_le _) hS (fun H locs hsm hS => ?_)
  have hP := hsm.P hP
  refine lv_if_ne (tgt := 19) hx hb dX1_splice_10 (by decide) (fun c_10 => ?_) (fun h9 => absurd (h1.symm.trans (bI_0.mp h9)) (by decide))
  refine lv_aload_n hx hb dX1_splice_19 rfl (lv_at hl 0 rfl) ?_
  refine lv_iload_n hx hb dX1_splice_20 rfl (lv_at hl 1 rfl) ?_
  refine q_callV (As := [.int (nI g)]) (rest := []) ⟨hx, hb, hml, hown, hts⟩ (c_X1_from l D cI cZ ad 0 N pa pe g0 g1 g2 hN g (by omega)) (cwV 1 hts gX1_splice_X1_from rfl rfl rfl kv_X1_from ⟨Nat.le_of_ble_eq_true rfl, Nat.le_of_ble_eq_true rfl⟩) (va_recv hK hP (ci := 1) (q0 := 0) rfl rfl) hP hK rfl hl.1 rfl (Nat.le_of_ble_eq_true rfl) dX1_splice_21 (Nat.zero_le _) (Nat.zero_le _) hS (fun H locs hsm hS => ?_)
  have hP := hsm.P hP
  refine lv_istore_n (lv' := [(2, .int (nI (m_P g0 N g))), (0, .ref (ad 0)), (1, .int (nI g))]) hx hb dX1_splice_24 rfl hl (by decide) rfl (fun ls hl => ?_)
  refine lv_aload_n hx hb dX1_splice_25 rfl (lv_at hl 1 rfl) ?_
  refine va_get (D := D) (ci := 1) (v := .ref (ad 3)) (C := RX1) (T := TX1) (N := 7) hx hb hts hin hown hK hP 0 rfl rfl 6 (by decide) (hts (.fieldLink RX1 20 "SplicedTalkModel" "tied" "[Z") (by decide +kernel)) (fun _ h9 => h9) rfl dX1_splice_26 ?_
  refine lv_iload_n hx hb dX1_splice_29 rfl (lv_at hl 0 rfl) ?_
  refine va_zald hx hb hK hP 3 1 rfl rfl (vp_in_nI (by have := hN; have := m_P_lt (g0 := g0) (N := N) (k := g) (by omega); omega) (by decide)) dX1_splice_30 ?_
  rw [nI_clamp (by have := hN; have := m_P_lt (g0 := g0) (N := N) (k := g) (by omega); omega)]
  refine lv_if_ne (tgt := 51) hx hb dX1_splice_31 (by decide) (fun c_31 => ?_) (fun h9 => absurd h9 h2)
  refine lv_aload_n hx hb dX1_splice_51 rfl (lv_at hl 1 rfl) ?_
  refine lv_iconst (v := 2) hx hb dX1_splice_52 (by decide) ?_
  refine m_callVI (As := [.int 2]) (rest := []) (Wr := []) (W2 := (mw cI cZ ad 2 (nI N) pa pe g0 g1 g2)) ⟨hx, hb, hml, hown, hts⟩ (c_X1_fail l D cI cZ ad 0 N pa pe g0 g1 g2 hN 2) (cwV 1 hts gX1_splice_X1_fail rfl rfl rfl kv_X1_fail ⟨Nat.le_of_ble_eq_true rfl, Nat.le_of_ble_eq_true rfl⟩) (va_recv hK hP (ci := 1) (q0 := 0) rfl rfl) hP hD hK hA [0, 1, 2, 3] [] [0, 1, 2, 3] rfl rfl rfl rfl rfl (by decide) rfl rfl rfl hl.1 rfl (Nat.le_of_ble_eq_true rfl) dX1_splice_53 (Nat.zero_le _) (Nat.zero_le _) hS (fun H locs hP hS => ?_)
  have hD : va_D A (mw cI cZ ad 2 (nI N) pa pe g0 g1 g2) := q_Dc (L := [ad 0, ad 1, ad 2, ad 3]) hD rfl rfl
  exact m_retI hx hb hr hlocks hS hP rfl dX1_splice_56

set_option maxHeartbeats 4000000 in
set_option maxRecDepth 100000 in
theorem c_X1_splice_3 (l : Launch) (D : va_G) (cI cZ : ClassId) (ad : Nat → Nat) (th : Int32) (N : Nat) (pa pe : Int32) (g0 g1 g2 : Nat → Int32) (hN : N ≤ 24) (g : Nat) (hg : g + 1 < m_n g0 N) (h1 : m_in (nI g) 0 (nI (m_n g0 N) - 2) = true) (h2 : g2 (m_P g0 N g) = 0) (h3 : N = 24) : m_I l yX1_splice wsX1_splice ({ frames := 2, cells := 0, slots := 0, locals := 44 } : Room) D ([(cI, .int), (cZ, .boolean)]) (mw cI cZ ad th (nI N) pa pe g0 g1 g2) [.ref (ad 0), .int (nI g)] 0 (mw cI cZ ad 2 (nI N) pa pe g0 g1 g2) := by
  refine m_startI (cc := cX1_splice) (maxL := 4) (rt := .int) (by decide) rfl (Nat.le_of_ble_eq_true rfl) ?_
  intro p e s m below meth c A hx hb hml hr hts hown hlocks hK hA H locs ls hP hD hS hl
  have hin : ∀ w ∈ wsX10, w ∈ wsX1_splice := by decide +kernel
  have hl : lv_has ls 4 [(0, .ref (ad 0)), (1, .int (nI g))] := hl
  refine lv_aload_n hx hb dX1_splice_0 rfl (lv_at hl 0 rfl) ?_
  refine lv_iconst (v := 0) hx hb dX1_splice_1 (by decide) ?_
  refine va_put (D := D) (ci := 1) (v := .int 0) (ty := .int) (C := RX1) (T := TX1) (N := 7) hx hb hts hin tyX1 tyX1_ok nmX1 hown hK hP hD hS 0 rfl rfl 0 (by decide) (hts (.fieldLink RX1 24 "SplicedTalkModel" "thrown" "I") (by decide +kernel)) (fun _ h9 => h9) rfl (by decide +kernel) rfl rfl (Nat.le_of_ble_eq_true rfl) dX1_splice_2 (fun H locs hP hD hS => ?_)
  have hP : va_P D vwCl (mw cI cZ ad 0 (nI N) pa pe g0 g1 g2) H := hP
  have hD : va_D A (mw cI cZ ad 0 (nI N) pa pe g0 g1 g2) := q_Dc (L := [ad 0, ad 1, ad 2, ad 3]) hD rfl rfl
  refine lv_aload_n hx hb dX1_splice_5 rfl (lv_at hl 0 rfl) ?_
  refine lv_iload_n hx hb dX1_splice_6 rfl (lv_at hl 1 rfl) ?_
  refine q_callV (As := [.int (nI g)]) (rest := []) ⟨hx, hb, hml, hown, hts⟩ (c_X1_isGap l D cI cZ ad 0 N pa pe g0 g1 g2 hN (nI g)) (cwV 1 hts gX1_splice_X1_isGap rfl rfl rfl kv_X1_isGap ⟨Nat.le_of_ble_eq_true rfl, Nat.le_of_ble_eq_true rfl⟩) (va_recv hK hP (ci := 1) (q0 := 0) rfl rfl) hP hK rfl hl.1 rfl (Nat.le_of_ble_eq_true rfl) dX1_splice_7 (Nat.zero_le _) (Nat.zero_le _) hS (fun H locs hsm hS => ?_)
  have hP := hsm.P hP
  refine lv_if_ne (tgt := 19) hx hb dX1_splice_10 (by decide) (fun c_10 => ?_) (fun h9 => absurd (h1.symm.trans (bI_0.mp h9)) (by decide))
  refine lv_aload_n hx hb dX1_splice_19 rfl (lv_at hl 0 rfl) ?_
  refine lv_iload_n hx hb dX1_splice_20 rfl (lv_at hl 1 rfl) ?_
  refine q_callV (As := [.int (nI g)]) (rest := []) ⟨hx, hb, hml, hown, hts⟩ (c_X1_from l D cI cZ ad 0 N pa pe g0 g1 g2 hN g (by omega)) (cwV 1 hts gX1_splice_X1_from rfl rfl rfl kv_X1_from ⟨Nat.le_of_ble_eq_true rfl, Nat.le_of_ble_eq_true rfl⟩) (va_recv hK hP (ci := 1) (q0 := 0) rfl rfl) hP hK rfl hl.1 rfl (Nat.le_of_ble_eq_true rfl) dX1_splice_21 (Nat.zero_le _) (Nat.zero_le _) hS (fun H locs hsm hS => ?_)
  have hP := hsm.P hP
  refine lv_istore_n (lv' := [(2, .int (nI (m_P g0 N g))), (0, .ref (ad 0)), (1, .int (nI g))]) hx hb dX1_splice_24 rfl hl (by decide) rfl (fun ls hl => ?_)
  refine lv_aload_n hx hb dX1_splice_25 rfl (lv_at hl 1 rfl) ?_
  refine va_get (D := D) (ci := 1) (v := .ref (ad 3)) (C := RX1) (T := TX1) (N := 7) hx hb hts hin hown hK hP 0 rfl rfl 6 (by decide) (hts (.fieldLink RX1 20 "SplicedTalkModel" "tied" "[Z") (by decide +kernel)) (fun _ h9 => h9) rfl dX1_splice_26 ?_
  refine lv_iload_n hx hb dX1_splice_29 rfl (lv_at hl 0 rfl) ?_
  refine va_zald hx hb hK hP 3 1 rfl rfl (vp_in_nI (by have := hN; have := m_P_lt (g0 := g0) (N := N) (k := g) (by omega); omega) (by decide)) dX1_splice_30 ?_
  rw [nI_clamp (by have := hN; have := m_P_lt (g0 := g0) (N := N) (k := g) (by omega); omega)]
  refine lv_if_ne (tgt := 51) hx hb dX1_splice_31 (by decide) (fun h9 => absurd h2 h9) (fun c_31 => ?_)
  refine lv_aload_n hx hb dX1_splice_34 rfl (lv_at hl 1 rfl) ?_
  refine va_get (D := D) (ci := 1) (v := .int (nI N)) (C := RX1) (T := TX1) (N := 7) hx hb hts hin hown hK hP 0 rfl rfl 1 (by decide) (hts (.fieldLink RX1 31 "SplicedTalkModel" "remarks" "I") (by decide +kernel)) (fun _ h9 => h9) rfl dX1_splice_35 ?_
  refine lv_bipush (v := 24) hx hb dX1_splice_38 (by decide) ?_
  refine lv_icmp_eq (tgt := 51) hx hb dX1_splice_40 (by decide) (fun c_40 => ?_) (fun h9 => absurd (by rw [h3]; rfl) h9)
  refine lv_aload_n hx hb dX1_splice_51 rfl (lv_at hl 1 rfl) ?_
  refine lv_iconst (v := 2) hx hb dX1_splice_52 (by decide) ?_
  refine m_callVI (As := [.int 2]) (rest := []) (Wr := []) (W2 := (mw cI cZ ad 2 (nI N) pa pe g0 g1 g2)) ⟨hx, hb, hml, hown, hts⟩ (c_X1_fail l D cI cZ ad 0 N pa pe g0 g1 g2 hN 2) (cwV 1 hts gX1_splice_X1_fail rfl rfl rfl kv_X1_fail ⟨Nat.le_of_ble_eq_true rfl, Nat.le_of_ble_eq_true rfl⟩) (va_recv hK hP (ci := 1) (q0 := 0) rfl rfl) hP hD hK hA [0, 1, 2, 3] [] [0, 1, 2, 3] rfl rfl rfl rfl rfl (by decide) rfl rfl rfl hl.1 rfl (Nat.le_of_ble_eq_true rfl) dX1_splice_53 (Nat.zero_le _) (Nat.zero_le _) hS (fun H locs hP hS => ?_)
  have hD : va_D A (mw cI cZ ad 2 (nI N) pa pe g0 g1 g2) := q_Dc (L := [ad 0, ad 1, ad 2, ad 3]) hD rfl rfl
  exact m_retI hx hb hr hlocks hS hP rfl dX1_splice_56

set_option maxHeartbeats 4000000 in
set_option maxRecDepth 100000 in
theorem c_X1_splice_4 (l : Launch) (D : va_G) (cI cZ : ClassId) (ad : Nat → Nat) (th : Int32) (N : Nat) (pa pe : Int32) (g0 g1 g2 : Nat → Int32) (hN : N ≤ 24) (g : Nat) (hg : g + 1 < m_n g0 N) (h1 : m_in (nI g) 0 (nI (m_n g0 N) - 2) = true) (h2 : g2 (m_P g0 N g) = 0) (h3 : N < 24) (h4 : ¬ 2 ≤ pa) : m_I l yX1_splice wsX1_splice ({ frames := 2, cells := 0, slots := 0, locals := 44 } : Room) D ([(cI, .int), (cZ, .boolean)]) (mw cI cZ ad th (nI N) pa pe g0 g1 g2) [.ref (ad 0), .int (nI g)] 0 (mw cI cZ ad 2 (nI N) pa pe g0 g1 g2) := by
  refine m_startI (cc := cX1_splice) (maxL := 4) (rt := .int) (by decide) rfl (Nat.le_of_ble_eq_true rfl) ?_
  intro p e s m below meth c A hx hb hml hr hts hown hlocks hK hA H locs ls hP hD hS hl
  have hin : ∀ w ∈ wsX10, w ∈ wsX1_splice := by decide +kernel
  have hl : lv_has ls 4 [(0, .ref (ad 0)), (1, .int (nI g))] := hl
  refine lv_aload_n hx hb dX1_splice_0 rfl (lv_at hl 0 rfl) ?_
  refine lv_iconst (v := 0) hx hb dX1_splice_1 (by decide) ?_
  refine va_put (D := D) (ci := 1) (v := .int 0) (ty := .int) (C := RX1) (T := TX1) (N := 7) hx hb hts hin tyX1 tyX1_ok nmX1 hown hK hP hD hS 0 rfl rfl 0 (by decide) (hts (.fieldLink RX1 24 "SplicedTalkModel" "thrown" "I") (by decide +kernel)) (fun _ h9 => h9) rfl (by decide +kernel) rfl rfl (Nat.le_of_ble_eq_true rfl) dX1_splice_2 (fun H locs hP hD hS => ?_)
  have hP : va_P D vwCl (mw cI cZ ad 0 (nI N) pa pe g0 g1 g2) H := hP
  have hD : va_D A (mw cI cZ ad 0 (nI N) pa pe g0 g1 g2) := q_Dc (L := [ad 0, ad 1, ad 2, ad 3]) hD rfl rfl
  refine lv_aload_n hx hb dX1_splice_5 rfl (lv_at hl 0 rfl) ?_
  refine lv_iload_n hx hb dX1_splice_6 rfl (lv_at hl 1 rfl) ?_
  refine q_callV (As := [.int (nI g)]) (rest := []) ⟨hx, hb, hml, hown, hts⟩ (c_X1_isGap l D cI cZ ad 0 N pa pe g0 g1 g2 hN (nI g)) (cwV 1 hts gX1_splice_X1_isGap rfl rfl rfl kv_X1_isGap ⟨Nat.le_of_ble_eq_true rfl, Nat.le_of_ble_eq_true rfl⟩) (va_recv hK hP (ci := 1) (q0 := 0) rfl rfl) hP hK rfl hl.1 rfl (Nat.le_of_ble_eq_true rfl) dX1_splice_7 (Nat.zero_le _) (Nat.zero_le _) hS (fun H locs hsm hS => ?_)
  have hP := hsm.P hP
  refine lv_if_ne (tgt := 19) hx hb dX1_splice_10 (by decide) (fun c_10 => ?_) (fun h9 => absurd (h1.symm.trans (bI_0.mp h9)) (by decide))
  refine lv_aload_n hx hb dX1_splice_19 rfl (lv_at hl 0 rfl) ?_
  refine lv_iload_n hx hb dX1_splice_20 rfl (lv_at hl 1 rfl) ?_
  refine q_callV (As := [.int (nI g)]) (rest := []) ⟨hx, hb, hml, hown, hts⟩ (c_X1_from l D cI cZ ad 0 N pa pe g0 g1 g2 hN g (by omega)) (cwV 1 hts gX1_splice_X1_from rfl rfl rfl kv_X1_from ⟨Nat.le_of_ble_eq_true rfl, Nat.le_of_ble_eq_true rfl⟩) (va_recv hK hP (ci := 1) (q0 := 0) rfl rfl) hP hK rfl hl.1 rfl (Nat.le_of_ble_eq_true rfl) dX1_splice_21 (Nat.zero_le _) (Nat.zero_le _) hS (fun H locs hsm hS => ?_)
  have hP := hsm.P hP
  refine lv_istore_n (lv' := [(2, .int (nI (m_P g0 N g))), (0, .ref (ad 0)), (1, .int (nI g))]) hx hb dX1_splice_24 rfl hl (by decide) rfl (fun ls hl => ?_)
  refine lv_aload_n hx hb dX1_splice_25 rfl (lv_at hl 1 rfl) ?_
  refine va_get (D := D) (ci := 1) (v := .ref (ad 3)) (C := RX1) (T := TX1) (N := 7) hx hb hts hin hown hK hP 0 rfl rfl 6 (by decide) (hts (.fieldLink RX1 20 "SplicedTalkModel" "tied" "[Z") (by decide +kernel)) (fun _ h9 => h9) rfl dX1_splice_26 ?_
  refine lv_iload_n hx hb dX1_splice_29 rfl (lv_at hl 0 rfl) ?_
  refine va_zald hx hb hK hP 3 1 rfl rfl (vp_in_nI (by have := hN; have := m_P_lt (g0 := g0) (N := N) (k := g) (by omega); omega) (by decide)) dX1_splice_30 ?_
  rw [nI_clamp (by have := hN; have := m_P_lt (g0 := g0) (N := N) (k := g) (by omega); omega)]
  refine lv_if_ne (tgt := 51) hx hb dX1_splice_31 (by decide) (fun h9 => absurd h2 h9) (fun c_31 => ?_)
  refine lv_aload_n hx hb dX1_splice_34 rfl (lv_at hl 1 rfl) ?_
  refine va_get (D := D) (ci := 1) (v := .int (nI N)) (C := RX1) (T := TX1) (N := 7) hx hb hts hin hown hK hP 0 rfl rfl 1 (by decide) (hts (.fieldLink RX1 31 "SplicedTalkModel" "remarks" "I") (by decide +kernel)) (fun _ h9 => h9) rfl dX1_splice_35 ?_
  refine lv_bipush (v := 24) hx hb dX1_splice_38 (by decide) ?_
  refine lv_icmp_eq (tgt := 51) hx hb dX1_splice_40 (by decide) (fun h9 => absurd ((nI_eq (b := 24) (by omega) (by decide)).mp h9) (by omega)) (fun c_40 => ?_)
  refine lv_aload_n hx hb dX1_splice_43 rfl (lv_at hl 1 rfl) ?_
  refine va_get (D := D) (ci := 1) (v := .int pa) (C := RX1) (T := TX1) (N := 7) hx hb hts hin hown hK hP 0 rfl rfl 2 (by decide) (hts (.fieldLink RX1 7 "SplicedTalkModel" "patience" "I") (by decide +kernel)) (fun _ h9 => h9) rfl dX1_splice_44 ?_
  refine lv_iconst (v := 2) hx hb dX1_splice_47 (by decide) ?_
  refine lv_icmp_ge (tgt := 57) hx hb dX1_splice_48 (by decide) (fun h9 => absurd h9 h4) (fun c_48 => ?_)
  refine lv_aload_n hx hb dX1_splice_51 rfl (lv_at hl 1 rfl) ?_
  refine lv_iconst (v := 2) hx hb dX1_splice_52 (by decide) ?_
  refine m_callVI (As := [.int 2]) (rest := []) (Wr := []) (W2 := (mw cI cZ ad 2 (nI N) pa pe g0 g1 g2)) ⟨hx, hb, hml, hown, hts⟩ (c_X1_fail l D cI cZ ad 0 N pa pe g0 g1 g2 hN 2) (cwV 1 hts gX1_splice_X1_fail rfl rfl rfl kv_X1_fail ⟨Nat.le_of_ble_eq_true rfl, Nat.le_of_ble_eq_true rfl⟩) (va_recv hK hP (ci := 1) (q0 := 0) rfl rfl) hP hD hK hA [0, 1, 2, 3] [] [0, 1, 2, 3] rfl rfl rfl rfl rfl (by decide) rfl rfl rfl hl.1 rfl (Nat.le_of_ble_eq_true rfl) dX1_splice_53 (Nat.zero_le _) (Nat.zero_le _) hS (fun H locs hP hS => ?_)
  have hD : va_D A (mw cI cZ ad 2 (nI N) pa pe g0 g1 g2) := q_Dc (L := [ad 0, ad 1, ad 2, ad 3]) hD rfl rfl
  exact m_retI hx hb hr hlocks hS hP rfl dX1_splice_56

set_option maxHeartbeats 4000000 in
set_option maxRecDepth 100000 in
theorem c_X1_splice_ok (l : Launch) (D : va_G) (cI cZ : ClassId) (ad : Nat → Nat) (th : Int32) (N : Nat) (pa pe : Int32) (g0 g1 g2 : Nat → Int32) (hN : N ≤ 24) (g : Nat) (hg : g + 1 < m_n g0 N) (h1 : m_in (nI g) 0 (nI (m_n g0 N) - 2) = true) (h2 : g2 (m_P g0 N g) = 0) (h3 : N < 24) (h4 : 2 ≤ pa) (h2f : ∀ k : Nat, k < N → fits .boolean (.int (g2 k)) = true) : m_I l yX1_splice wsX1_splice ({ frames := 3, cells := 0, slots := 0, locals := 66 } : Room) D ([(cI, .int), (cZ, .boolean)]) (mw cI cZ ad th (nI N) pa pe g0 g1 g2) [.ref (ad 0), .int (nI g)] (m_half (g0 (m_P g0 N g)) (g0 (m_P g0 N (g + 1)))) (mw cI cZ ad 0 (nI (N + 1)) (pa - 2) (pe + 2) (upd (va_cpy g0 g0 ((m_P g0 N g) + 1) ((m_P g0 N g) + 1 + 1) (N - ((m_P g0 N g) + 1))) ((m_P g0 N g) + 1) (m_half (g0 (m_P g0 N g)) (g0 (m_P g0 N (g + 1))))) (upd (va_cpy g1 g1 ((m_P g0 N g) + 1) ((m_P g0 N g) + 1 + 1) (N - ((m_P g0 N g) + 1))) ((m_P g0 N g) + 1) ((va_cpy g1 g1 ((m_P g0 N g) + 1) ((m_P g0 N g) + 1 + 1) (N - ((m_P g0 N g) + 1))) (m_P g0 N g))) (upd (va_cpy g2 g2 ((m_P g0 N g) + 1) ((m_P g0 N g) + 1 + 1) (N - ((m_P g0 N g) + 1))) ((m_P g0 N g) + 1) 0)) := by
  refine m_startI (cc := cX1_splice) (maxL := 4) (rt := .int) (by decide) rfl (Nat.le_of_ble_eq_true rfl) ?_
  intro p e s m below meth c A hx hb hml hr hts hown hlocks hK hA H locs ls hP hD hS hl
  have hin : ∀ w ∈ wsX10, w ∈ wsX1_splice := by decide +kernel
  have hl : lv_has ls 4 [(0, .ref (ad 0)), (1, .int (nI g))] := hl
  have hPlt := m_P_lt (g0 := g0) (N := N) (k := g) (by omega)
  refine lv_aload_n hx hb dX1_splice_0 rfl (lv_at hl 0 rfl) ?_
  refine lv_iconst (v := 0) hx hb dX1_splice_1 (by decide) ?_
  refine va_put (D := D) (ci := 1) (v := .int 0) (ty := .int) (C := RX1) (T := TX1) (N := 7) hx hb hts hin tyX1 tyX1_ok nmX1 hown hK hP hD hS 0 rfl rfl 0 (by decide) (hts (.fieldLink RX1 24 "SplicedTalkModel" "thrown" "I") (by decide +kernel)) (fun _ h9 => h9) rfl (by decide +kernel) rfl rfl (Nat.le_of_ble_eq_true rfl) dX1_splice_2 (fun H locs hP hD hS => ?_)
  have hP : va_P D vwCl (mw cI cZ ad 0 (nI N) pa pe g0 g1 g2) H := hP
  have hD : va_D A (mw cI cZ ad 0 (nI N) pa pe g0 g1 g2) := q_Dc (L := [ad 0, ad 1, ad 2, ad 3]) hD rfl rfl
  refine lv_aload_n hx hb dX1_splice_5 rfl (lv_at hl 0 rfl) ?_
  refine lv_iload_n hx hb dX1_splice_6 rfl (lv_at hl 1 rfl) ?_
  refine q_callV (As := [.int (nI g)]) (rest := []) ⟨hx, hb, hml, hown, hts⟩ (c_X1_isGap l D cI cZ ad 0 N pa pe g0 g1 g2 hN (nI g)) (cwV 1 hts gX1_splice_X1_isGap rfl rfl rfl kv_X1_isGap ⟨Nat.le_of_ble_eq_true rfl, Nat.le_of_ble_eq_true rfl⟩) (va_recv hK hP (ci := 1) (q0 := 0) rfl rfl) hP hK rfl hl.1 rfl (Nat.le_of_ble_eq_true rfl) dX1_splice_7 (Nat.zero_le _) (Nat.zero_le _) hS (fun H locs hsm hS => ?_)
  have hP := hsm.P hP
  refine lv_if_ne (tgt := 19) hx hb dX1_splice_10 (by decide) (fun c_10 => ?_) (fun h9 => absurd (h1.symm.trans (bI_0.mp h9)) (by decide))
  refine lv_aload_n hx hb dX1_splice_19 rfl (lv_at hl 0 rfl) ?_
  refine lv_iload_n hx hb dX1_splice_20 rfl (lv_at hl 1 rfl) ?_
  refine q_callV (As := [.int (nI g)]) (rest := []) ⟨hx, hb, hml, hown, hts⟩ (c_X1_from l D cI cZ ad 0 N pa pe g0 g1 g2 hN g (by omega)) (cwV 1 hts gX1_splice_X1_from rfl rfl rfl kv_X1_from ⟨Nat.le_of_ble_eq_true rfl, Nat.le_of_ble_eq_true rfl⟩) (va_recv hK hP (ci := 1) (q0 := 0) rfl rfl) hP hK rfl hl.1 rfl (Nat.le_of_ble_eq_true rfl) dX1_splice_21 (Nat.zero_le _) (Nat.zero_le _) hS (fun H locs hsm hS => ?_)
  have hP := hsm.P hP
  refine lv_istore_n (lv' := [(2, .int (nI (m_P g0 N g))), (0, .ref (ad 0)), (1, .int (nI g))]) hx hb dX1_splice_24 rfl hl (by decide) rfl (fun ls hl => ?_)
  refine lv_aload_n hx hb dX1_splice_25 rfl (lv_at hl 1 rfl) ?_
  refine va_get (D := D) (ci := 1) (v := .ref (ad 3)) (C := RX1) (T := TX1) (N := 7) hx hb hts hin hown hK hP 0 rfl rfl 6 (by decide) (hts (.fieldLink RX1 20 "SplicedTalkModel" "tied" "[Z") (by decide +kernel)) (fun _ h9 => h9) rfl dX1_splice_26 ?_
  refine lv_iload_n hx hb dX1_splice_29 rfl (lv_at hl 0 rfl) ?_
  refine va_zald hx hb hK hP 3 1 rfl rfl (vp_in_nI (by have := hN; have := m_P_lt (g0 := g0) (N := N) (k := g) (by omega); omega) (by decide)) dX1_splice_30 ?_
  rw [nI_clamp (by have := hN; have := m_P_lt (g0 := g0) (N := N) (k := g) (by omega); omega)]
  refine lv_if_ne (tgt := 51) hx hb dX1_splice_31 (by decide) (fun h9 => absurd h2 h9) (fun c_31 => ?_)
  refine lv_aload_n hx hb dX1_splice_34 rfl (lv_at hl 1 rfl) ?_
  refine va_get (D := D) (ci := 1) (v := .int (nI N)) (C := RX1) (T := TX1) (N := 7) hx hb hts hin hown hK hP 0 rfl rfl 1 (by decide) (hts (.fieldLink RX1 31 "SplicedTalkModel" "remarks" "I") (by decide +kernel)) (fun _ h9 => h9) rfl dX1_splice_35 ?_
  refine lv_bipush (v := 24) hx hb dX1_splice_38 (by decide) ?_
  refine lv_icmp_eq (tgt := 51) hx hb dX1_splice_40 (by decide) (fun h9 => absurd ((nI_eq (b := 24) (by omega) (by decide)).mp h9) (by omega)) (fun c_40 => ?_)
  refine lv_aload_n hx hb dX1_splice_43 rfl (lv_at hl 1 rfl) ?_
  refine va_get (D := D) (ci := 1) (v := .int pa) (C := RX1) (T := TX1) (N := 7) hx hb hts hin hown hK hP 0 rfl rfl 2 (by decide) (hts (.fieldLink RX1 7 "SplicedTalkModel" "patience" "I") (by decide +kernel)) (fun _ h9 => h9) rfl dX1_splice_44 ?_
  refine lv_iconst (v := 2) hx hb dX1_splice_47 (by decide) ?_
  refine lv_icmp_ge (tgt := 57) hx hb dX1_splice_48 (by decide) (fun c_48 => ?_) (fun h9 => absurd h4 h9)
  refine lv_aload_n hx hb dX1_splice_57 rfl (lv_at hl 1 rfl) ?_
  refine va_get (D := D) (ci := 1) (v := .ref (ad 1)) (C := RX1) (T := TX1) (N := 7) hx hb hts hin hown hK hP 0 rfl rfl 4 (by decide) (hts (.fieldLink RX1 13 "SplicedTalkModel" "topic" "[I") (by decide +kernel)) (fun _ h9 => h9) rfl dX1_splice_58 ?_
  refine lv_iload_n hx hb dX1_splice_61 rfl (lv_at hl 0 rfl) ?_
  refine va_iald hx hb hK hP 1 0 rfl rfl (vp_in_nI (by have := hN; have := m_P_lt (g0 := g0) (N := N) (k := g) (by omega); omega) (by decide)) dX1_splice_62 ?_
  rw [nI_clamp (by have := hN; have := m_P_lt (g0 := g0) (N := N) (k := g) (by omega); omega)]
  refine lv_aload_n hx hb dX1_splice_63 rfl (lv_at hl 1 rfl) ?_
  refine va_get (D := D) (ci := 1) (v := .ref (ad 1)) (C := RX1) (T := TX1) (N := 7) hx hb hts hin hown hK hP 0 rfl rfl 4 (by decide) (hts (.fieldLink RX1 13 "SplicedTalkModel" "topic" "[I") (by decide +kernel)) (fun _ h9 => h9) rfl dX1_splice_64 ?_
  refine lv_aload_n hx hb dX1_splice_67 rfl (lv_at hl 1 rfl) ?_
  refine lv_iload_n hx hb dX1_splice_68 rfl (lv_at hl 2 rfl) ?_
  refine q_callV (As := [.int (nI g)]) (rest := [.ref (ad 1), .int (g0 (m_P g0 N g))]) ⟨hx, hb, hml, hown, hts⟩ (c_X1_to l D cI cZ ad 0 N pa pe g0 g1 g2 hN g (by omega)) (cwV 1 hts gX1_splice_X1_to rfl rfl rfl kv_X1_to ⟨Nat.le_of_ble_eq_true rfl, Nat.le_of_ble_eq_true rfl⟩) (va_recv hK hP (ci := 1) (q0 := 0) rfl rfl) hP hK rfl hl.1 rfl (Nat.le_of_ble_eq_true rfl) dX1_splice_69 (Nat.zero_le _) (Nat.zero_le _) hS (fun H locs hsm hS => ?_)
  have hP := hsm.P hP
  refine va_iald hx hb hK hP 1 0 rfl rfl (vp_in_nI (by have := hN; have := m_P_lt (g0 := g0) (N := N) (k := (g + 1)) (by omega); omega) (by decide)) dX1_splice_72 ?_
  rw [nI_clamp (by have := hN; have := m_P_lt (g0 := g0) (N := N) (k := (g + 1)) (by omega); omega)]
  refine q_callS (As := [.int (g0 (m_P g0 N g)), .int (g0 (m_P g0 N (g + 1)))]) (rest := []) ⟨hx, hb, hml, hown, hts⟩ (c_X1_half l D (g0 (m_P g0 N g)) (g0 (m_P g0 N (g + 1)))) (va_cwS 2 hts gX1_splice_X1_half rfl rfl rfl ks_X1_half ⟨Nat.le_of_ble_eq_true rfl, Nat.le_of_ble_eq_true rfl⟩) (hP.sub [] rfl) (hK.sub [] rfl) rfl hl.1 rfl (Nat.le_of_ble_eq_true rfl) dX1_splice_73 (Nat.zero_le _) (Nat.zero_le _) hS (fun H locs hsm hS => ?_)
  have hP := hsm.P hP
  refine lv_istore_n (lv' := [(3, .int (m_half (g0 (m_P g0 N g)) (g0 (m_P g0 N (g + 1))))), (2, .int (nI (m_P g0 N g))), (0, .ref (ad 0)), (1, .int (nI g))]) hx hb dX1_splice_76 rfl hl (by decide) rfl (fun ls hl => ?_)
  refine lv_aload_n hx hb dX1_splice_77 rfl (lv_at hl 2 rfl) ?_
  refine lv_iload_n hx hb dX1_splice_78 rfl (lv_at hl 1 rfl) ?_
  refine lv_iconst (v := 1) hx hb dX1_splice_79 (by decide) ?_
  refine lv_iadd hx hb dX1_splice_80 ?_
  rw [nI_1]
  refine lv_iconst (v := 1) hx hb dX1_splice_81 (by decide) ?_
  refine m_callV (As := [.int (nI (m_P g0 N g + 1)), .int 1]) (rest := []) (Wr := []) (W2 := (mw cI cZ ad 0 (nI (N + 1)) pa pe (va_cpy g0 g0 ((m_P g0 N g) + 1) ((m_P g0 N g) + 1 + 1) (N - ((m_P g0 N g) + 1))) (va_cpy g1 g1 ((m_P g0 N g) + 1) ((m_P g0 N g) + 1 + 1) (N - ((m_P g0 N g) + 1))) (va_cpy g2 g2 ((m_P g0 N g) + 1) ((m_P g0 N g) + 1 + 1) (N - ((m_P g0 N g) + 1))))) ⟨hx, hb, hml, hown, hts⟩ (c_X1_move_dn l D cI cZ ad 0 N pa pe g0 g1 g2 hN (m_P g0 N g) (m_P_lt (by omega)) h2f) (cwV 2 hts gX1_splice_X1_move rfl rfl rfl kv_X1_move ⟨Nat.le_of_ble_eq_true rfl, Nat.le_of_ble_eq_true rfl⟩) (va_recv hK hP (ci := 1) (q0 := 0) rfl rfl) hP hD hK hA [0, 1, 2, 3] [] [0, 1, 2, 3] rfl rfl rfl rfl rfl (by decide) rfl rfl rfl hl.1 rfl (Nat.le_of_ble_eq_true rfl) dX1_splice_82 (Nat.zero_le _) (Nat.zero_le _) hS (fun H locs hP hS => ?_)
  have hD : va_D A (mw cI cZ ad 0 (nI (N + 1)) pa pe (va_cpy g0 g0 ((m_P g0 N g) + 1) ((m_P g0 N g) + 1 + 1) (N - ((m_P g0 N g) + 1))) (va_cpy g1 g1 ((m_P g0 N g) + 1) ((m_P g0 N g) + 1 + 1) (N - ((m_P g0 N g) + 1))) (va_cpy g2 g2 ((m_P g0 N g) + 1) ((m_P g0 N g) + 1 + 1) (N - ((m_P g0 N g) + 1)))) := q_Dc (L := [ad 0, ad 1, ad 2, ad 3]) hD rfl rfl
  refine lv_aload_n hx hb dX1_splice_85 rfl (lv_at hl 2 rfl) ?_
  refine va_get (D := D) (ci := 1) (v := .ref (ad 1)) (C := RX1) (T := TX1) (N := 7) hx hb hts hin hown hK hP 0 rfl rfl 4 (by decide) (hts (.fieldLink RX1 13 "SplicedTalkModel" "topic" "[I") (by decide +kernel)) (fun _ h9 => h9) rfl dX1_splice_86 ?_
  refine lv_iload_n hx hb dX1_splice_89 rfl (lv_at hl 1 rfl) ?_
  refine lv_iconst (v := 1) hx hb dX1_splice_90 (by decide) ?_
  refine lv_iadd hx hb dX1_splice_91 ?_
  rw [nI_1]
  refine lv_iload_n hx hb dX1_splice_92 rfl (lv_at hl 0 rfl) ?_
  refine va_iast hx hb hK hP hD hS 1 0 rfl rfl (vp_in_nI (by have := hN; have := m_P_lt (g0 := g0) (N := N) (k := g + 1) (by omega); omega) (by decide)) dX1_splice_93 (fun H locs hP hD hS => ?_)
  rw [nI_clamp (by have := hN; have := m_P_lt (g0 := g0) (N := N) (k := g + 1) (by omega); omega)] at hP
  have hD : va_D A (mw cI cZ ad 0 (nI (N + 1)) pa pe (upd (va_cpy g0 g0 ((m_P g0 N g) + 1) ((m_P g0 N g) + 1 + 1) (N - ((m_P g0 N g) + 1))) (m_P g0 N g + 1) (m_half (g0 (m_P g0 N g)) (g0 (m_P g0 N (g + 1))))) (va_cpy g1 g1 ((m_P g0 N g) + 1) ((m_P g0 N g) + 1 + 1) (N - ((m_P g0 N g) + 1))) (va_cpy g2 g2 ((m_P g0 N g) + 1) ((m_P g0 N g) + 1 + 1) (N - ((m_P g0 N g) + 1)))) := q_Dc (L := [ad 0, ad 1, ad 2, ad 3]) hD rfl rfl
  have hP : va_P D vwCl (mw cI cZ ad 0 (nI (N + 1)) pa pe (upd (va_cpy g0 g0 ((m_P g0 N g) + 1) ((m_P g0 N g) + 1 + 1) (N - ((m_P g0 N g) + 1))) (m_P g0 N g + 1) (m_half (g0 (m_P g0 N g)) (g0 (m_P g0 N (g + 1))))) (va_cpy g1 g1 ((m_P g0 N g) + 1) ((m_P g0 N g) + 1 + 1) (N - ((m_P g0 N g) + 1))) (va_cpy g2 g2 ((m_P g0 N g) + 1) ((m_P g0 N g) + 1 + 1) (N - ((m_P g0 N g) + 1)))) H := hP
  refine lv_aload_n hx hb dX1_splice_94 rfl (lv_at hl 2 rfl) ?_
  refine va_get (D := D) (ci := 1) (v := .ref (ad 2)) (C := RX1) (T := TX1) (N := 7) hx hb hts hin hown hK hP 0 rfl rfl 5 (by decide) (hts (.fieldLink RX1 17 "SplicedTalkModel" "speaker" "[I") (by decide +kernel)) (fun _ h9 => h9) rfl dX1_splice_95 ?_
  refine lv_iload_n hx hb dX1_splice_98 rfl (lv_at hl 1 rfl) ?_
  refine lv_iconst (v := 1) hx hb dX1_splice_99 (by decide) ?_
  refine lv_iadd hx hb dX1_splice_100 ?_
  rw [nI_1]
  refine lv_aload_n hx hb dX1_splice_101 rfl (lv_at hl 2 rfl) ?_
  refine va_get (D := D) (ci := 1) (v := .ref (ad 2)) (C := RX1) (T := TX1) (N := 7) hx hb hts hin hown hK hP 0 rfl rfl 5 (by decide) (hts (.fieldLink RX1 17 "SplicedTalkModel" "speaker" "[I") (by decide +kernel)) (fun _ h9 => h9) rfl dX1_splice_102 ?_
  refine lv_iload_n hx hb dX1_splice_105 rfl (lv_at hl 1 rfl) ?_
  refine va_iald hx hb hK hP 2 0 rfl rfl (vp_in_nI (by have := hN; have := m_P_lt (g0 := g0) (N := N) (k := g) (by omega); omega) (by decide)) dX1_splice_106 ?_
  rw [nI_clamp (by have := hN; have := m_P_lt (g0 := g0) (N := N) (k := g) (by omega); omega)]
  refine va_iast hx hb hK hP hD hS 2 0 rfl rfl (vp_in_nI (by have := hN; have := m_P_lt (g0 := g0) (N := N) (k := g + 1) (by omega); omega) (by decide)) dX1_splice_107 (fun H locs hP hD hS => ?_)
  rw [nI_clamp (by have := hN; have := m_P_lt (g0 := g0) (N := N) (k := g + 1) (by omega); omega)] at hP
  have hD : va_D A (mw cI cZ ad 0 (nI (N + 1)) pa pe (upd (va_cpy g0 g0 ((m_P g0 N g) + 1) ((m_P g0 N g) + 1 + 1) (N - ((m_P g0 N g) + 1))) (m_P g0 N g + 1) (m_half (g0 (m_P g0 N g)) (g0 (m_P g0 N (g + 1))))) (upd (va_cpy g1 g1 ((m_P g0 N g) + 1) ((m_P g0 N g) + 1 + 1) (N - ((m_P g0 N g) + 1))) (m_P g0 N g + 1) ((va_cpy g1 g1 ((m_P g0 N g) + 1) ((m_P g0 N g) + 1 + 1) (N - ((m_P g0 N g) + 1))) (m_P g0 N g))) (va_cpy g2 g2 ((m_P g0 N g) + 1) ((m_P g0 N g) + 1 + 1) (N - ((m_P g0 N g) + 1)))) := q_Dc (L := [ad 0, ad 1, ad 2, ad 3]) hD rfl rfl
  have hP : va_P D vwCl (mw cI cZ ad 0 (nI (N + 1)) pa pe (upd (va_cpy g0 g0 ((m_P g0 N g) + 1) ((m_P g0 N g) + 1 + 1) (N - ((m_P g0 N g) + 1))) (m_P g0 N g + 1) (m_half (g0 (m_P g0 N g)) (g0 (m_P g0 N (g + 1))))) (upd (va_cpy g1 g1 ((m_P g0 N g) + 1) ((m_P g0 N g) + 1 + 1) (N - ((m_P g0 N g) + 1))) (m_P g0 N g + 1) ((va_cpy g1 g1 ((m_P g0 N g) + 1) ((m_P g0 N g) + 1 + 1) (N - ((m_P g0 N g) + 1))) (m_P g0 N g))) (va_cpy g2 g2 ((m_P g0 N g) + 1) ((m_P g0 N g) + 1 + 1) (N - ((m_P g0 N g) + 1)))) H := hP
  refine lv_aload_n hx hb dX1_splice_108 rfl (lv_at hl 2 rfl) ?_
  refine va_get (D := D) (ci := 1) (v := .ref (ad 3)) (C := RX1) (T := TX1) (N := 7) hx hb hts hin hown hK hP 0 rfl rfl 6 (by decide) (hts (.fieldLink RX1 20 "SplicedTalkModel" "tied" "[Z") (by decide +kernel)) (fun _ h9 => h9) rfl dX1_splice_109 ?_
  refine lv_iload_n hx hb dX1_splice_112 rfl (lv_at hl 1 rfl) ?_
  refine lv_iconst (v := 1) hx hb dX1_splice_113 (by decide) ?_
  refine lv_iadd hx hb dX1_splice_114 ?_
  rw [nI_1]
  refine lv_iconst (v := 0) hx hb dX1_splice_115 (by decide) ?_
  refine va_zast hx hb hK hP hD hS 3 1 rfl rfl (vp_in_nI (by have := hN; have := m_P_lt (g0 := g0) (N := N) (k := g + 1) (by omega); omega) (by decide)) dX1_splice_116 (fun H locs hP hD hS => ?_)
  rw [nI_clamp (by have := hN; have := m_P_lt (g0 := g0) (N := N) (k := g + 1) (by omega); omega)] at hP
  have hD : va_D A (mw cI cZ ad 0 (nI (N + 1)) pa pe (upd (va_cpy g0 g0 ((m_P g0 N g) + 1) ((m_P g0 N g) + 1 + 1) (N - ((m_P g0 N g) + 1))) (m_P g0 N g + 1) (m_half (g0 (m_P g0 N g)) (g0 (m_P g0 N (g + 1))))) (upd (va_cpy g1 g1 ((m_P g0 N g) + 1) ((m_P g0 N g) + 1 + 1) (N - ((m_P g0 N g) + 1))) (m_P g0 N g + 1) ((va_cpy g1 g1 ((m_P g0 N g) + 1) ((m_P g0 N g) + 1 + 1) (N - ((m_P g0 N g) + 1))) (m_P g0 N g))) (upd (va_cpy g2 g2 ((m_P g0 N g) + 1) ((m_P g0 N g) + 1 + 1) (N - ((m_P g0 N g) + 1))) (m_P g0 N g + 1) 0)) := q_Dc (L := [ad 0, ad 1, ad 2, ad 3]) hD rfl rfl
  have hP : va_P D vwCl (mw cI cZ ad 0 (nI (N + 1)) pa pe (upd (va_cpy g0 g0 ((m_P g0 N g) + 1) ((m_P g0 N g) + 1 + 1) (N - ((m_P g0 N g) + 1))) (m_P g0 N g + 1) (m_half (g0 (m_P g0 N g)) (g0 (m_P g0 N (g + 1))))) (upd (va_cpy g1 g1 ((m_P g0 N g) + 1) ((m_P g0 N g) + 1 + 1) (N - ((m_P g0 N g) + 1))) (m_P g0 N g + 1) ((va_cpy g1 g1 ((m_P g0 N g) + 1) ((m_P g0 N g) + 1 + 1) (N - ((m_P g0 N g) + 1))) (m_P g0 N g))) (upd (va_cpy g2 g2 ((m_P g0 N g) + 1) ((m_P g0 N g) + 1 + 1) (N - ((m_P g0 N g) + 1))) (m_P g0 N g + 1) 0)) H := hP
  refine lv_aload_n hx hb dX1_splice_117 rfl (lv_at hl 2 rfl) ?_
  refine lv_iconst (v := 2) hx hb dX1_splice_118 (by decide) ?_
  refine m_callVI (As := [.int 2]) (rest := []) (Wr := []) (W2 := (mw cI cZ ad 0 (nI (N + 1)) (pa - 2) (pe + 2) (upd (va_cpy g0 g0 ((m_P g0 N g) + 1) ((m_P g0 N g) + 1 + 1) (N - ((m_P g0 N g) + 1))) (m_P g0 N g + 1) (m_half (g0 (m_P g0 N g)) (g0 (m_P g0 N (g + 1))))) (upd (va_cpy g1 g1 ((m_P g0 N g) + 1) ((m_P g0 N g) + 1 + 1) (N - ((m_P g0 N g) + 1))) (m_P g0 N g + 1) ((va_cpy g1 g1 ((m_P g0 N g) + 1) ((m_P g0 N g) + 1 + 1) (N - ((m_P g0 N g) + 1))) (m_P g0 N g))) (upd (va_cpy g2 g2 ((m_P g0 N g) + 1) ((m_P g0 N g) + 1 + 1) (N - ((m_P g0 N g) + 1))) (m_P g0 N g + 1) 0))) ⟨hx, hb, hml, hown, hts⟩ (c_X1_pay l D cI cZ ad 0 (N + 1) pa pe (upd (va_cpy g0 g0 ((m_P g0 N g) + 1) ((m_P g0 N g) + 1 + 1) (N - ((m_P g0 N g) + 1))) (m_P g0 N g + 1) (m_half (g0 (m_P g0 N g)) (g0 (m_P g0 N (g + 1))))) (upd (va_cpy g1 g1 ((m_P g0 N g) + 1) ((m_P g0 N g) + 1 + 1) (N - ((m_P g0 N g) + 1))) (m_P g0 N g + 1) ((va_cpy g1 g1 ((m_P g0 N g) + 1) ((m_P g0 N g) + 1 + 1) (N - ((m_P g0 N g) + 1))) (m_P g0 N g))) (upd (va_cpy g2 g2 ((m_P g0 N g) + 1) ((m_P g0 N g) + 1 + 1) (N - ((m_P g0 N g) + 1))) (m_P g0 N g + 1) 0) (by omega) 2) (cwV 1 hts gX1_splice_X1_pay rfl rfl rfl kv_X1_pay ⟨Nat.le_of_ble_eq_true rfl, Nat.le_of_ble_eq_true rfl⟩) (va_recv hK hP (ci := 1) (q0 := 0) rfl rfl) hP hD hK hA [0, 1, 2, 3] [] [0, 1, 2, 3] rfl rfl rfl rfl rfl (by decide) rfl rfl rfl hl.1 rfl (Nat.le_of_ble_eq_true rfl) dX1_splice_119 (Nat.zero_le _) (Nat.zero_le _) hS (fun H locs hP hS => ?_)
  have hD : va_D A (mw cI cZ ad 0 (nI (N + 1)) (pa - 2) (pe + 2) (upd (va_cpy g0 g0 ((m_P g0 N g) + 1) ((m_P g0 N g) + 1 + 1) (N - ((m_P g0 N g) + 1))) (m_P g0 N g + 1) (m_half (g0 (m_P g0 N g)) (g0 (m_P g0 N (g + 1))))) (upd (va_cpy g1 g1 ((m_P g0 N g) + 1) ((m_P g0 N g) + 1 + 1) (N - ((m_P g0 N g) + 1))) (m_P g0 N g + 1) ((va_cpy g1 g1 ((m_P g0 N g) + 1) ((m_P g0 N g) + 1 + 1) (N - ((m_P g0 N g) + 1))) (m_P g0 N g))) (upd (va_cpy g2 g2 ((m_P g0 N g) + 1) ((m_P g0 N g) + 1 + 1) (N - ((m_P g0 N g) + 1))) (m_P g0 N g + 1) 0)) := q_Dc (L := [ad 0, ad 1, ad 2, ad 3]) hD rfl rfl
  refine lv_pop hx hb dX1_splice_122 rfl ?_
  refine lv_iload_n hx hb dX1_splice_123 rfl (lv_at hl 0 rfl) ?_
  exact m_retI hx hb hr hlocks hS hP rfl dX1_splice_124

theorem kv_X1_rest : yX1_rest.cls = RX1 ∧ yX1_rest.cls ≠ "java/lang/invoke/MethodHandle" ∧ yX1_rest.cls ≠ "java/lang/invoke/VarHandle" ∧ (parseMethodDescriptor yX1_rest.desc).map (fun d => d.parameters.length) = some 1 := by decide +kernel
theorem ks_X1_rest : yX1_rest.cls ≠ "java/lang/invoke/MethodHandle" ∧ yX1_rest.cls ≠ "java/lang/invoke/VarHandle" ∧ (parseMethodDescriptor yX1_rest.desc).map (fun d => d.parameters.length) = some 1 := kv_X1_rest.2
set_option maxHeartbeats 4000000 in
set_option maxRecDepth 100000 in
theorem c_X1_rest_1 (l : Launch) (D : va_G) (cI cZ : ClassId) (ad : Nat → Nat) (th : Int32) (N : Nat) (pa pe : Int32) (g0 g1 g2 : Nat → Int32) (hN : N ≤ 24) (x1 : Int32) (h1 : m_in x1 1 60 = false) : m_I l yX1_rest wsX1_rest ({ frames := 1, cells := 0, slots := 0, locals := 22 } : Room) D ([(cI, .int), (cZ, .boolean)]) (mw cI cZ ad th (nI N) pa pe g0 g1 g2) [.ref (ad 0), .int x1] 0 (mw cI cZ ad 1 (nI N) pa pe g0 g1 g2) := by
  refine m_startI (cc := cX1_rest) (maxL := 2) (rt := .int) (by decide) rfl (Nat.le_of_ble_eq_true rfl) ?_
  intro p e s m below meth c A hx hb hml hr hts hown hlocks hK hA H locs ls hP hD hS hl
  have hin : ∀ w ∈ wsX10, w ∈ wsX1_rest := by decide +kernel
  have hl : lv_has ls 2 [(0, .ref (ad 0)), (1, .int x1)] := hl
  refine lv_aload_n hx hb dX1_rest_0 rfl (lv_at hl 0 rfl) ?_
  refine lv_iconst (v := 0) hx hb dX1_rest_1 (by decide) ?_
  refine va_put (D := D) (ci := 1) (v := .int 0) (ty := .int) (C := RX1) (T := TX1) (N := 7) hx hb hts hin tyX1 tyX1_ok nmX1 hown hK hP hD hS 0 rfl rfl 0 (by decide) (hts (.fieldLink RX1 24 "SplicedTalkModel" "thrown" "I") (by decide +kernel)) (fun _ h9 => h9) rfl (by decide +kernel) rfl rfl (Nat.le_of_ble_eq_true rfl) dX1_rest_2 (fun H locs hP hD hS => ?_)
  have hP : va_P D vwCl (mw cI cZ ad 0 (nI N) pa pe g0 g1 g2) H := hP
  have hD : va_D A (mw cI cZ ad 0 (nI N) pa pe g0 g1 g2) := q_Dc (L := [ad 0, ad 1, ad 2, ad 3]) hD rfl rfl
  refine lv_iload_n hx hb dX1_rest_5 rfl (lv_at hl 1 rfl) ?_
  refine lv_iconst (v := 1) hx hb dX1_rest_6 (by decide) ?_
  refine lv_bipush (v := 60) hx hb dX1_rest_7 (by decide) ?_
  refine q_callS (As := [.int x1, .int 1, .int 60]) (rest := []) ⟨hx, hb, hml, hown, hts⟩ (c_X1_isIn l D x1 1 60) (va_cwS 3 hts gX1_rest_X1_isIn rfl rfl rfl ks_X1_isIn ⟨Nat.le_of_ble_eq_true rfl, Nat.le_of_ble_eq_true rfl⟩) (hP.sub [] rfl) (hK.sub [] rfl) rfl hl.1 rfl (Nat.le_of_ble_eq_true rfl) dX1_rest_9 (Nat.zero_le _) (Nat.zero_le _) hS (fun H locs hsm hS => ?_)
  have hP := hsm.P hP
  refine lv_if_ne (tgt := 21) hx hb dX1_rest_12 (by decide) (fun h9 => absurd (bI_0.mpr h1) h9) (fun c_12 => ?_)
  refine lv_aload_n hx hb dX1_rest_15 rfl (lv_at hl 0 rfl) ?_
  refine lv_iconst (v := 1) hx hb dX1_rest_16 (by decide) ?_
  refine m_callVI (As := [.int 1]) (rest := []) (Wr := []) (W2 := (mw cI cZ ad 1 (nI N) pa pe g0 g1 g2)) ⟨hx, hb, hml, hown, hts⟩ (c_X1_fail l D cI cZ ad 0 N pa pe g0 g1 g2 hN 1) (cwV 1 hts gX1_rest_X1_fail rfl rfl rfl kv_X1_fail ⟨Nat.le_of_ble_eq_true rfl, Nat.le_of_ble_eq_true rfl⟩) (va_recv hK hP (ci := 1) (q0 := 0) rfl rfl) hP hD hK hA [0, 1, 2, 3] [] [0, 1, 2, 3] rfl rfl rfl rfl rfl (by decide) rfl rfl rfl hl.1 rfl (Nat.le_of_ble_eq_true rfl) dX1_rest_17 (Nat.zero_le _) (Nat.zero_le _) hS (fun H locs hP hS => ?_)
  have hD : va_D A (mw cI cZ ad 1 (nI N) pa pe g0 g1 g2) := q_Dc (L := [ad 0, ad 1, ad 2, ad 3]) hD rfl rfl
  exact m_retI hx hb hr hlocks hS hP rfl dX1_rest_20

set_option maxHeartbeats 4000000 in
set_option maxRecDepth 100000 in
theorem c_X1_rest_ok (l : Launch) (D : va_G) (cI cZ : ClassId) (ad : Nat → Nat) (th : Int32) (N : Nat) (pa pe : Int32) (g0 g1 g2 : Nat → Int32) (hN : N ≤ 24) (x1 : Int32) (h1 : m_in x1 1 60 = true) : m_I l yX1_rest wsX1_rest ({ frames := 1, cells := 0, slots := 0, locals := 22 } : Room) D ([(cI, .int), (cZ, .boolean)]) (mw cI cZ ad th (nI N) pa pe g0 g1 g2) [.ref (ad 0), .int x1] (i_min 99 (pa + x1)) (mw cI cZ ad 0 (nI N) (i_min 99 (pa + x1)) pe g0 g1 g2) := by
  refine m_startI (cc := cX1_rest) (maxL := 2) (rt := .int) (by decide) rfl (Nat.le_of_ble_eq_true rfl) ?_
  intro p e s m below meth c A hx hb hml hr hts hown hlocks hK hA H locs ls hP hD hS hl
  have hin : ∀ w ∈ wsX10, w ∈ wsX1_rest := by decide +kernel
  have hl : lv_has ls 2 [(0, .ref (ad 0)), (1, .int x1)] := hl
  refine lv_aload_n hx hb dX1_rest_0 rfl (lv_at hl 0 rfl) ?_
  refine lv_iconst (v := 0) hx hb dX1_rest_1 (by decide) ?_
  refine va_put (D := D) (ci := 1) (v := .int 0) (ty := .int) (C := RX1) (T := TX1) (N := 7) hx hb hts hin tyX1 tyX1_ok nmX1 hown hK hP hD hS 0 rfl rfl 0 (by decide) (hts (.fieldLink RX1 24 "SplicedTalkModel" "thrown" "I") (by decide +kernel)) (fun _ h9 => h9) rfl (by decide +kernel) rfl rfl (Nat.le_of_ble_eq_true rfl) dX1_rest_2 (fun H locs hP hD hS => ?_)
  have hP : va_P D vwCl (mw cI cZ ad 0 (nI N) pa pe g0 g1 g2) H := hP
  have hD : va_D A (mw cI cZ ad 0 (nI N) pa pe g0 g1 g2) := q_Dc (L := [ad 0, ad 1, ad 2, ad 3]) hD rfl rfl
  refine lv_iload_n hx hb dX1_rest_5 rfl (lv_at hl 1 rfl) ?_
  refine lv_iconst (v := 1) hx hb dX1_rest_6 (by decide) ?_
  refine lv_bipush (v := 60) hx hb dX1_rest_7 (by decide) ?_
  refine q_callS (As := [.int x1, .int 1, .int 60]) (rest := []) ⟨hx, hb, hml, hown, hts⟩ (c_X1_isIn l D x1 1 60) (va_cwS 3 hts gX1_rest_X1_isIn rfl rfl rfl ks_X1_isIn ⟨Nat.le_of_ble_eq_true rfl, Nat.le_of_ble_eq_true rfl⟩) (hP.sub [] rfl) (hK.sub [] rfl) rfl hl.1 rfl (Nat.le_of_ble_eq_true rfl) dX1_rest_9 (Nat.zero_le _) (Nat.zero_le _) hS (fun H locs hsm hS => ?_)
  have hP := hsm.P hP
  refine lv_if_ne (tgt := 21) hx hb dX1_rest_12 (by decide) (fun c_12 => ?_) (fun h9 => absurd (h1.symm.trans (bI_0.mp h9)) (by decide))
  refine lv_aload_n hx hb dX1_rest_21 rfl (lv_at hl 0 rfl) ?_
  refine lv_bipush (v := 99) hx hb dX1_rest_22 (by decide) ?_
  refine lv_aload_n hx hb dX1_rest_24 rfl (lv_at hl 0 rfl) ?_
  refine va_get (D := D) (ci := 1) (v := .int pa) (C := RX1) (T := TX1) (N := 7) hx hb hts hin hown hK hP 0 rfl rfl 2 (by decide) (hts (.fieldLink RX1 7 "SplicedTalkModel" "patience" "I") (by decide +kernel)) (fun _ h9 => h9) rfl dX1_rest_25 ?_
  refine lv_iload_n hx hb dX1_rest_28 rfl (lv_at hl 1 rfl) ?_
  refine lv_iadd hx hb dX1_rest_29 ?_
  refine va_mmin hx hb (hml.trans hl.1.symm) hown (hts (.methodLink RX1 44 Lib.Math.min.name) (by decide +kernel)) (hts (.static Lib.Math.min.name) (by decide +kernel)) (hts (.initialized "java/lang/Math") (by decide +kernel)) (hts (.code Lib.Math.min.name Lib.Math.min.code 2 (some .int)) (by decide +kernel)) (Nat.le_of_ble_eq_true rfl) (Nat.le_of_ble_eq_true rfl) (Nat.zero_le _) (Nat.zero_le _) dX1_rest_30 ?_
  refine va_put (D := D) (ci := 1) (v := .int (i_min 99 (pa + x1))) (ty := .int) (C := RX1) (T := TX1) (N := 7) hx hb hts hin tyX1 tyX1_ok nmX1 hown hK hP hD hS 0 rfl rfl 2 (by decide) (hts (.fieldLink RX1 7 "SplicedTalkModel" "patience" "I") (by decide +kernel)) (fun _ h9 => h9) rfl (by decide +kernel) rfl rfl (Nat.le_of_ble_eq_true rfl) dX1_rest_33 (fun H locs hP hD hS => ?_)
  have hP : va_P D vwCl (mw cI cZ ad 0 (nI N) (i_min 99 (pa + x1)) pe g0 g1 g2) H := hP
  have hD : va_D A (mw cI cZ ad 0 (nI N) (i_min 99 (pa + x1)) pe g0 g1 g2) := q_Dc (L := [ad 0, ad 1, ad 2, ad 3]) hD rfl rfl
  refine lv_aload_n hx hb dX1_rest_36 rfl (lv_at hl 0 rfl) ?_
  refine va_get (D := D) (ci := 1) (v := .int (i_min 99 (pa + x1))) (C := RX1) (T := TX1) (N := 7) hx hb hts hin hown hK hP 0 rfl rfl 2 (by decide) (hts (.fieldLink RX1 7 "SplicedTalkModel" "patience" "I") (by decide +kernel)) (fun _ h9 => h9) rfl dX1_rest_37 ?_
  exact m_retI hx hb hr hlocks hS hP rfl dX1_rest_40

theorem kv_X1_remarks : yX1_remarks.cls = RX1 ∧ yX1_remarks.cls ≠ "java/lang/invoke/MethodHandle" ∧ yX1_remarks.cls ≠ "java/lang/invoke/VarHandle" ∧ (parseMethodDescriptor yX1_remarks.desc).map (fun d => d.parameters.length) = some 0 := by decide +kernel
theorem ks_X1_remarks : yX1_remarks.cls ≠ "java/lang/invoke/MethodHandle" ∧ yX1_remarks.cls ≠ "java/lang/invoke/VarHandle" ∧ (parseMethodDescriptor yX1_remarks.desc).map (fun d => d.parameters.length) = some 0 := kv_X1_remarks.2
set_option maxHeartbeats 4000000 in
set_option maxRecDepth 100000 in
theorem c_X1_remarks_ok (l : Launch) (D : va_G) (cI cZ : ClassId) (ad : Nat → Nat) (th : Int32) (N : Nat) (pa pe : Int32) (g0 g1 g2 : Nat → Int32) (hN : N ≤ 24) : m_I l yX1_remarks wsX1_remarks ({ frames := 1, cells := 0, slots := 0, locals := 21 } : Room) D ([(cI, .int), (cZ, .boolean)]) (mw cI cZ ad th (nI N) pa pe g0 g1 g2) [.ref (ad 0)] (nI N) (mw cI cZ ad 0 (nI N) pa pe g0 g1 g2) := by
  refine m_startI (cc := cX1_remarks) (maxL := 1) (rt := .int) (by decide) rfl (Nat.le_of_ble_eq_true rfl) ?_
  intro p e s m below meth c A hx hb hml hr hts hown hlocks hK hA H locs ls hP hD hS hl
  have hin : ∀ w ∈ wsX10, w ∈ wsX1_remarks := by decide +kernel
  have hl : lv_has ls 1 [(0, .ref (ad 0))] := hl
  refine lv_aload_n hx hb dX1_remarks_0 rfl (lv_at hl 0 rfl) ?_
  refine lv_aload_n hx hb dX1_remarks_1 rfl (lv_at hl 0 rfl) ?_
  refine va_get (D := D) (ci := 1) (v := .int (nI N)) (C := RX1) (T := TX1) (N := 7) hx hb hts hin hown hK hP 0 rfl rfl 1 (by decide) (hts (.fieldLink RX1 31 "SplicedTalkModel" "remarks" "I") (by decide +kernel)) (fun _ h9 => h9) rfl dX1_remarks_2 ?_
  refine m_callVI (As := [.int (nI N)]) (rest := []) (Wr := []) (W2 := (mw cI cZ ad 0 (nI N) pa pe g0 g1 g2)) ⟨hx, hb, hml, hown, hts⟩ (c_X1_told l D cI cZ ad th N pa pe g0 g1 g2 hN (nI N)) (cwV 1 hts gX1_remarks_X1_told rfl rfl rfl kv_X1_told ⟨Nat.le_of_ble_eq_true rfl, Nat.le_of_ble_eq_true rfl⟩) (va_recv hK hP (ci := 1) (q0 := 0) rfl rfl) hP hD hK hA [0, 1, 2, 3] [] [0, 1, 2, 3] rfl rfl rfl rfl rfl (by decide) rfl rfl rfl hl.1 rfl (Nat.le_of_ble_eq_true rfl) dX1_remarks_5 (Nat.zero_le _) (Nat.zero_le _) hS (fun H locs hP hS => ?_)
  have hD : va_D A (mw cI cZ ad 0 (nI N) pa pe g0 g1 g2) := q_Dc (L := [ad 0, ad 1, ad 2, ad 3]) hD rfl rfl
  exact m_retI hx hb hr hlocks hS hP rfl dX1_remarks_8

theorem kv_X1_words : yX1_words.cls = RX1 ∧ yX1_words.cls ≠ "java/lang/invoke/MethodHandle" ∧ yX1_words.cls ≠ "java/lang/invoke/VarHandle" ∧ (parseMethodDescriptor yX1_words.desc).map (fun d => d.parameters.length) = some 0 := by decide +kernel
theorem ks_X1_words : yX1_words.cls ≠ "java/lang/invoke/MethodHandle" ∧ yX1_words.cls ≠ "java/lang/invoke/VarHandle" ∧ (parseMethodDescriptor yX1_words.desc).map (fun d => d.parameters.length) = some 0 := kv_X1_words.2
set_option maxHeartbeats 4000000 in
set_option maxRecDepth 100000 in
theorem c_X1_words_ok (l : Launch) (D : va_G) (cI cZ : ClassId) (ad : Nat → Nat) (th : Int32) (N : Nat) (pa pe : Int32) (g0 g1 g2 : Nat → Int32) (hN : N ≤ 24) : m_I l yX1_words wsX1_words ({ frames := 1, cells := 0, slots := 0, locals := 22 } : Room) D ([(cI, .int), (cZ, .boolean)]) (mw cI cZ ad th (nI N) pa pe g0 g1 g2) [.ref (ad 0)] (nI (m_n g0 N)) (mw cI cZ ad 0 (nI N) pa pe g0 g1 g2) := by
  refine m_startI (cc := cX1_words) (maxL := 1) (rt := .int) (by decide) rfl (Nat.le_of_ble_eq_true rfl) ?_
  intro p e s m below meth c A hx hb hml hr hts hown hlocks hK hA H locs ls hP hD hS hl
  have hin : ∀ w ∈ wsX10, w ∈ wsX1_words := by decide +kernel
  have hl : lv_has ls 1 [(0, .ref (ad 0))] := hl
  refine lv_aload_n hx hb dX1_words_0 rfl (lv_at hl 0 rfl) ?_
  refine lv_aload_n hx hb dX1_words_1 rfl (lv_at hl 0 rfl) ?_
  refine q_callV (As := []) (rest := [.ref (ad 0)]) ⟨hx, hb, hml, hown, hts⟩ (c_X1_many l D cI cZ ad th N pa pe g0 g1 g2 hN) (cwV 0 hts gX1_words_X1_many rfl rfl rfl kv_X1_many ⟨Nat.le_of_ble_eq_true rfl, Nat.le_of_ble_eq_true rfl⟩) (va_recv hK hP (ci := 1) (q0 := 0) rfl rfl) hP hK rfl hl.1 rfl (Nat.le_of_ble_eq_true rfl) dX1_words_2 (Nat.zero_le _) (Nat.zero_le _) hS (fun H locs hsm hS => ?_)
  have hP := hsm.P hP
  refine m_callVI (As := [.int (nI (m_n g0 N))]) (rest := []) (Wr := []) (W2 := (mw cI cZ ad 0 (nI N) pa pe g0 g1 g2)) ⟨hx, hb, hml, hown, hts⟩ (c_X1_told l D cI cZ ad th N pa pe g0 g1 g2 hN (nI (m_n g0 N))) (cwV 1 hts gX1_words_X1_told rfl rfl rfl kv_X1_told ⟨Nat.le_of_ble_eq_true rfl, Nat.le_of_ble_eq_true rfl⟩) (va_recv hK hP (ci := 1) (q0 := 0) rfl rfl) hP hD hK hA [0, 1, 2, 3] [] [0, 1, 2, 3] rfl rfl rfl rfl rfl (by decide) rfl rfl rfl hl.1 rfl (Nat.le_of_ble_eq_true rfl) dX1_words_5 (Nat.zero_le _) (Nat.zero_le _) hS (fun H locs hP hS => ?_)
  have hD : va_D A (mw cI cZ ad 0 (nI N) pa pe g0 g1 g2) := q_Dc (L := [ad 0, ad 1, ad 2, ad 3]) hD rfl rfl
  exact m_retI hx hb hr hlocks hS hP rfl dX1_words_8

theorem kv_X1_coughs : yX1_coughs.cls = RX1 ∧ yX1_coughs.cls ≠ "java/lang/invoke/MethodHandle" ∧ yX1_coughs.cls ≠ "java/lang/invoke/VarHandle" ∧ (parseMethodDescriptor yX1_coughs.desc).map (fun d => d.parameters.length) = some 0 := by decide +kernel
theorem ks_X1_coughs : yX1_coughs.cls ≠ "java/lang/invoke/MethodHandle" ∧ yX1_coughs.cls ≠ "java/lang/invoke/VarHandle" ∧ (parseMethodDescriptor yX1_coughs.desc).map (fun d => d.parameters.length) = some 0 := kv_X1_coughs.2
set_option maxHeartbeats 4000000 in
set_option maxRecDepth 100000 in
theorem c_X1_coughs_ok (l : Launch) (D : va_G) (cI cZ : ClassId) (ad : Nat → Nat) (th : Int32) (N : Nat) (pa pe : Int32) (g0 g1 g2 : Nat → Int32) (hN : N ≤ 24) : m_I l yX1_coughs wsX1_coughs ({ frames := 1, cells := 0, slots := 0, locals := 22 } : Room) D ([(cI, .int), (cZ, .boolean)]) (mw cI cZ ad th (nI N) pa pe g0 g1 g2) [.ref (ad 0)] (nI N - nI (m_n g0 N)) (mw cI cZ ad 0 (nI N) pa pe g0 g1 g2) := by
  refine m_startI (cc := cX1_coughs) (maxL := 1) (rt := .int) (by decide) rfl (Nat.le_of_ble_eq_true rfl) ?_
  intro p e s m below meth c A hx hb hml hr hts hown hlocks hK hA H locs ls hP hD hS hl
  have hin : ∀ w ∈ wsX10, w ∈ wsX1_coughs := by decide +kernel
  have hl : lv_has ls 1 [(0, .ref (ad 0))] := hl
  refine lv_aload_n hx hb dX1_coughs_0 rfl (lv_at hl 0 rfl) ?_
  refine lv_aload_n hx hb dX1_coughs_1 rfl (lv_at hl 0 rfl) ?_
  refine va_get (D := D) (ci := 1) (v := .int (nI N)) (C := RX1) (T := TX1) (N := 7) hx hb hts hin hown hK hP 0 rfl rfl 1 (by decide) (hts (.fieldLink RX1 31 "SplicedTalkModel" "remarks" "I") (by decide +kernel)) (fun _ h9 => h9) rfl dX1_coughs_2 ?_
  refine lv_aload_n hx hb dX1_coughs_5 rfl (lv_at hl 0 rfl) ?_
  refine q_callV (As := []) (rest := [.int (nI N), .ref (ad 0)]) ⟨hx, hb, hml, hown, hts⟩ (c_X1_many l D cI cZ ad th N pa pe g0 g1 g2 hN) (cwV 0 hts gX1_coughs_X1_many rfl rfl rfl kv_X1_many ⟨Nat.le_of_ble_eq_true rfl, Nat.le_of_ble_eq_true rfl⟩) (va_recv hK hP (ci := 1) (q0 := 0) rfl rfl) hP hK rfl hl.1 rfl (Nat.le_of_ble_eq_true rfl) dX1_coughs_6 (Nat.zero_le _) (Nat.zero_le _) hS (fun H locs hsm hS => ?_)
  have hP := hsm.P hP
  refine lv_isub hx hb dX1_coughs_9 ?_
  refine m_callVI (As := [.int ((nI N) - (nI (m_n g0 N)))]) (rest := []) (Wr := []) (W2 := (mw cI cZ ad 0 (nI N) pa pe g0 g1 g2)) ⟨hx, hb, hml, hown, hts⟩ (c_X1_told l D cI cZ ad th N pa pe g0 g1 g2 hN ((nI N) - (nI (m_n g0 N)))) (cwV 1 hts gX1_coughs_X1_told rfl rfl rfl kv_X1_told ⟨Nat.le_of_ble_eq_true rfl, Nat.le_of_ble_eq_true rfl⟩) (va_recv hK hP (ci := 1) (q0 := 0) rfl rfl) hP hD hK hA [0, 1, 2, 3] [] [0, 1, 2, 3] rfl rfl rfl rfl rfl (by decide) rfl rfl rfl hl.1 rfl (Nat.le_of_ble_eq_true rfl) dX1_coughs_10 (Nat.zero_le _) (Nat.zero_le _) hS (fun H locs hP hS => ?_)
  have hD : va_D A (mw cI cZ ad 0 (nI N) pa pe g0 g1 g2) := q_Dc (L := [ad 0, ad 1, ad 2, ad 3]) hD rfl rfl
  exact m_retI hx hb hr hlocks hS hP rfl dX1_coughs_13

theorem kv_X1_patience : yX1_patience.cls = RX1 ∧ yX1_patience.cls ≠ "java/lang/invoke/MethodHandle" ∧ yX1_patience.cls ≠ "java/lang/invoke/VarHandle" ∧ (parseMethodDescriptor yX1_patience.desc).map (fun d => d.parameters.length) = some 0 := by decide +kernel
theorem ks_X1_patience : yX1_patience.cls ≠ "java/lang/invoke/MethodHandle" ∧ yX1_patience.cls ≠ "java/lang/invoke/VarHandle" ∧ (parseMethodDescriptor yX1_patience.desc).map (fun d => d.parameters.length) = some 0 := kv_X1_patience.2
set_option maxHeartbeats 4000000 in
set_option maxRecDepth 100000 in
theorem c_X1_patience_ok (l : Launch) (D : va_G) (cI cZ : ClassId) (ad : Nat → Nat) (th : Int32) (N : Nat) (pa pe : Int32) (g0 g1 g2 : Nat → Int32) (hN : N ≤ 24) : m_I l yX1_patience wsX1_patience ({ frames := 1, cells := 0, slots := 0, locals := 21 } : Room) D ([(cI, .int), (cZ, .boolean)]) (mw cI cZ ad th (nI N) pa pe g0 g1 g2) [.ref (ad 0)] pa (mw cI cZ ad 0 (nI N) pa pe g0 g1 g2) := by
  refine m_startI (cc := cX1_patience) (maxL := 1) (rt := .int) (by decide) rfl (Nat.le_of_ble_eq_true rfl) ?_
  intro p e s m below meth c A hx hb hml hr hts hown hlocks hK hA H locs ls hP hD hS hl
  have hin : ∀ w ∈ wsX10, w ∈ wsX1_patience := by decide +kernel
  have hl : lv_has ls 1 [(0, .ref (ad 0))] := hl
  refine lv_aload_n hx hb dX1_patience_0 rfl (lv_at hl 0 rfl) ?_
  refine lv_aload_n hx hb dX1_patience_1 rfl (lv_at hl 0 rfl) ?_
  refine va_get (D := D) (ci := 1) (v := .int pa) (C := RX1) (T := TX1) (N := 7) hx hb hts hin hown hK hP 0 rfl rfl 2 (by decide) (hts (.fieldLink RX1 7 "SplicedTalkModel" "patience" "I") (by decide +kernel)) (fun _ h9 => h9) rfl dX1_patience_2 ?_
  refine m_callVI (As := [.int pa]) (rest := []) (Wr := []) (W2 := (mw cI cZ ad 0 (nI N) pa pe g0 g1 g2)) ⟨hx, hb, hml, hown, hts⟩ (c_X1_told l D cI cZ ad th N pa pe g0 g1 g2 hN pa) (cwV 1 hts gX1_patience_X1_told rfl rfl rfl kv_X1_told ⟨Nat.le_of_ble_eq_true rfl, Nat.le_of_ble_eq_true rfl⟩) (va_recv hK hP (ci := 1) (q0 := 0) rfl rfl) hP hD hK hA [0, 1, 2, 3] [] [0, 1, 2, 3] rfl rfl rfl rfl rfl (by decide) rfl rfl rfl hl.1 rfl (Nat.le_of_ble_eq_true rfl) dX1_patience_5 (Nat.zero_le _) (Nat.zero_le _) hS (fun H locs hP hS => ?_)
  have hD : va_D A (mw cI cZ ad 0 (nI N) pa pe g0 g1 g2) := q_Dc (L := [ad 0, ad 1, ad 2, ad 3]) hD rfl rfl
  exact m_retI hx hb hr hlocks hS hP rfl dX1_patience_8

theorem kv_X1_spent : yX1_spent.cls = RX1 ∧ yX1_spent.cls ≠ "java/lang/invoke/MethodHandle" ∧ yX1_spent.cls ≠ "java/lang/invoke/VarHandle" ∧ (parseMethodDescriptor yX1_spent.desc).map (fun d => d.parameters.length) = some 0 := by decide +kernel
theorem ks_X1_spent : yX1_spent.cls ≠ "java/lang/invoke/MethodHandle" ∧ yX1_spent.cls ≠ "java/lang/invoke/VarHandle" ∧ (parseMethodDescriptor yX1_spent.desc).map (fun d => d.parameters.length) = some 0 := kv_X1_spent.2
set_option maxHeartbeats 4000000 in
set_option maxRecDepth 100000 in
theorem c_X1_spent_ok (l : Launch) (D : va_G) (cI cZ : ClassId) (ad : Nat → Nat) (th : Int32) (N : Nat) (pa pe : Int32) (g0 g1 g2 : Nat → Int32) (hN : N ≤ 24) : m_I l yX1_spent wsX1_spent ({ frames := 1, cells := 0, slots := 0, locals := 21 } : Room) D ([(cI, .int), (cZ, .boolean)]) (mw cI cZ ad th (nI N) pa pe g0 g1 g2) [.ref (ad 0)] pe (mw cI cZ ad 0 (nI N) pa pe g0 g1 g2) := by
  refine m_startI (cc := cX1_spent) (maxL := 1) (rt := .int) (by decide) rfl (Nat.le_of_ble_eq_true rfl) ?_
  intro p e s m below meth c A hx hb hml hr hts hown hlocks hK hA H locs ls hP hD hS hl
  have hin : ∀ w ∈ wsX10, w ∈ wsX1_spent := by decide +kernel
  have hl : lv_has ls 1 [(0, .ref (ad 0))] := hl
  refine lv_aload_n hx hb dX1_spent_0 rfl (lv_at hl 0 rfl) ?_
  refine lv_aload_n hx hb dX1_spent_1 rfl (lv_at hl 0 rfl) ?_
  refine va_get (D := D) (ci := 1) (v := .int pe) (C := RX1) (T := TX1) (N := 7) hx hb hts hin hown hK hP 0 rfl rfl 3 (by decide) (hts (.fieldLink RX1 80 "SplicedTalkModel" "spent" "I") (by decide +kernel)) (fun _ h9 => h9) rfl dX1_spent_2 ?_
  refine m_callVI (As := [.int pe]) (rest := []) (Wr := []) (W2 := (mw cI cZ ad 0 (nI N) pa pe g0 g1 g2)) ⟨hx, hb, hml, hown, hts⟩ (c_X1_told l D cI cZ ad th N pa pe g0 g1 g2 hN pe) (cwV 1 hts gX1_spent_X1_told rfl rfl rfl kv_X1_told ⟨Nat.le_of_ble_eq_true rfl, Nat.le_of_ble_eq_true rfl⟩) (va_recv hK hP (ci := 1) (q0 := 0) rfl rfl) hP hD hK hA [0, 1, 2, 3] [] [0, 1, 2, 3] rfl rfl rfl rfl rfl (by decide) rfl rfl rfl hl.1 rfl (Nat.le_of_ble_eq_true rfl) dX1_spent_5 (Nat.zero_le _) (Nat.zero_le _) hS (fun H locs hP hS => ?_)
  have hD : va_D A (mw cI cZ ad 0 (nI N) pa pe g0 g1 g2) := q_Dc (L := [ad 0, ad 1, ad 2, ad 3]) hD rfl rfl
  exact m_retI hx hb hr hlocks hS hP rfl dX1_spent_8

theorem kv_X1_brokenGaps : yX1_brokenGaps.cls = RX1 ∧ yX1_brokenGaps.cls ≠ "java/lang/invoke/MethodHandle" ∧ yX1_brokenGaps.cls ≠ "java/lang/invoke/VarHandle" ∧ (parseMethodDescriptor yX1_brokenGaps.desc).map (fun d => d.parameters.length) = some 0 := by decide +kernel
theorem ks_X1_brokenGaps : yX1_brokenGaps.cls ≠ "java/lang/invoke/MethodHandle" ∧ yX1_brokenGaps.cls ≠ "java/lang/invoke/VarHandle" ∧ (parseMethodDescriptor yX1_brokenGaps.desc).map (fun d => d.parameters.length) = some 0 := kv_X1_brokenGaps.2
set_option maxHeartbeats 4000000 in
set_option maxRecDepth 100000 in
theorem c_X1_brokenGaps_ok (l : Launch) (D : va_G) (cI cZ : ClassId) (ad : Nat → Nat) (th : Int32) (N : Nat) (pa pe : Int32) (g0 g1 g2 : Nat → Int32) (hN : N ≤ 24) : m_I l yX1_brokenGaps wsX1_brokenGaps ({ frames := 6, cells := 0, slots := 0, locals := 129 } : Room) D ([(cI, .int), (cZ, .boolean)]) (mw cI cZ ad th (nI N) pa pe g0 g1 g2) [.ref (ad 0)] (nI (m_ab g0 g1 g2 N)) (mw cI cZ ad 0 (nI N) pa pe g0 g1 g2) := by
  refine m_startI (cc := cX1_brokenGaps) (maxL := 1) (rt := .int) (by decide) rfl (Nat.le_of_ble_eq_true rfl) ?_
  intro p e s m below meth c A hx hb hml hr hts hown hlocks hK hA H locs ls hP hD hS hl
  have hin : ∀ w ∈ wsX10, w ∈ wsX1_brokenGaps := by decide +kernel
  have hl : lv_has ls 1 [(0, .ref (ad 0))] := hl
  refine lv_aload_n hx hb dX1_brokenGaps_0 rfl (lv_at hl 0 rfl) ?_
  refine lv_aload_n hx hb dX1_brokenGaps_1 rfl (lv_at hl 0 rfl) ?_
  refine q_callV (As := []) (rest := [.ref (ad 0)]) ⟨hx, hb, hml, hown, hts⟩ (c_X1_allBroken l D cI cZ ad th N pa pe g0 g1 g2 hN) (cwV 0 hts gX1_brokenGaps_X1_allBroken rfl rfl rfl kv_X1_allBroken ⟨Nat.le_of_ble_eq_true rfl, Nat.le_of_ble_eq_true rfl⟩) (va_recv hK hP (ci := 1) (q0 := 0) rfl rfl) hP hK rfl hl.1 rfl (Nat.le_of_ble_eq_true rfl) dX1_brokenGaps_2 (Nat.zero_le _) (Nat.zero_le _) hS (fun H locs hsm hS => ?_)
  have hP := hsm.P hP
  refine m_callVI (As := [.int (nI (m_ab g0 g1 g2 N))]) (rest := []) (Wr := []) (W2 := (mw cI cZ ad 0 (nI N) pa pe g0 g1 g2)) ⟨hx, hb, hml, hown, hts⟩ (c_X1_told l D cI cZ ad th N pa pe g0 g1 g2 hN (nI (m_ab g0 g1 g2 N))) (cwV 1 hts gX1_brokenGaps_X1_told rfl rfl rfl kv_X1_told ⟨Nat.le_of_ble_eq_true rfl, Nat.le_of_ble_eq_true rfl⟩) (va_recv hK hP (ci := 1) (q0 := 0) rfl rfl) hP hD hK hA [0, 1, 2, 3] [] [0, 1, 2, 3] rfl rfl rfl rfl rfl (by decide) rfl rfl rfl hl.1 rfl (Nat.le_of_ble_eq_true rfl) dX1_brokenGaps_5 (Nat.zero_le _) (Nat.zero_le _) hS (fun H locs hP hS => ?_)
  have hD : va_D A (mw cI cZ ad 0 (nI N) pa pe g0 g1 g2) := q_Dc (L := [ad 0, ad 1, ad 2, ad 3]) hD rfl rfl
  exact m_retI hx hb hr hlocks hS hP rfl dX1_brokenGaps_8

theorem kv_X1_politeGaps : yX1_politeGaps.cls = RX1 ∧ yX1_politeGaps.cls ≠ "java/lang/invoke/MethodHandle" ∧ yX1_politeGaps.cls ≠ "java/lang/invoke/VarHandle" ∧ (parseMethodDescriptor yX1_politeGaps.desc).map (fun d => d.parameters.length) = some 0 := by decide +kernel
theorem ks_X1_politeGaps : yX1_politeGaps.cls ≠ "java/lang/invoke/MethodHandle" ∧ yX1_politeGaps.cls ≠ "java/lang/invoke/VarHandle" ∧ (parseMethodDescriptor yX1_politeGaps.desc).map (fun d => d.parameters.length) = some 0 := kv_X1_politeGaps.2
set_option maxHeartbeats 4000000 in
set_option maxRecDepth 100000 in
theorem c_X1_politeGaps_ok (l : Launch) (D : va_G) (cI cZ : ClassId) (ad : Nat → Nat) (th : Int32) (N : Nat) (pa pe : Int32) (g0 g1 g2 : Nat → Int32) (hN : N ≤ 24) : m_I l yX1_politeGaps wsX1_politeGaps ({ frames := 6, cells := 0, slots := 0, locals := 129 } : Room) D ([(cI, .int), (cZ, .boolean)]) (mw cI cZ ad th (nI N) pa pe g0 g1 g2) [.ref (ad 0)] (nI (m_ap g0 g1 g2 N)) (mw cI cZ ad 0 (nI N) pa pe g0 g1 g2) := by
  refine m_startI (cc := cX1_politeGaps) (maxL := 1) (rt := .int) (by decide) rfl (Nat.le_of_ble_eq_true rfl) ?_
  intro p e s m below meth c A hx hb hml hr hts hown hlocks hK hA H locs ls hP hD hS hl
  have hin : ∀ w ∈ wsX10, w ∈ wsX1_politeGaps := by decide +kernel
  have hl : lv_has ls 1 [(0, .ref (ad 0))] := hl
  refine lv_aload_n hx hb dX1_politeGaps_0 rfl (lv_at hl 0 rfl) ?_
  refine lv_aload_n hx hb dX1_politeGaps_1 rfl (lv_at hl 0 rfl) ?_
  refine q_callV (As := []) (rest := [.ref (ad 0)]) ⟨hx, hb, hml, hown, hts⟩ (c_X1_allPolite l D cI cZ ad th N pa pe g0 g1 g2 hN) (cwV 0 hts gX1_politeGaps_X1_allPolite rfl rfl rfl kv_X1_allPolite ⟨Nat.le_of_ble_eq_true rfl, Nat.le_of_ble_eq_true rfl⟩) (va_recv hK hP (ci := 1) (q0 := 0) rfl rfl) hP hK rfl hl.1 rfl (Nat.le_of_ble_eq_true rfl) dX1_politeGaps_2 (Nat.zero_le _) (Nat.zero_le _) hS (fun H locs hsm hS => ?_)
  have hP := hsm.P hP
  refine m_callVI (As := [.int (nI (m_ap g0 g1 g2 N))]) (rest := []) (Wr := []) (W2 := (mw cI cZ ad 0 (nI N) pa pe g0 g1 g2)) ⟨hx, hb, hml, hown, hts⟩ (c_X1_told l D cI cZ ad th N pa pe g0 g1 g2 hN (nI (m_ap g0 g1 g2 N))) (cwV 1 hts gX1_politeGaps_X1_told rfl rfl rfl kv_X1_told ⟨Nat.le_of_ble_eq_true rfl, Nat.le_of_ble_eq_true rfl⟩) (va_recv hK hP (ci := 1) (q0 := 0) rfl rfl) hP hD hK hA [0, 1, 2, 3] [] [0, 1, 2, 3] rfl rfl rfl rfl rfl (by decide) rfl rfl rfl hl.1 rfl (Nat.le_of_ble_eq_true rfl) dX1_politeGaps_5 (Nat.zero_le _) (Nat.zero_le _) hS (fun H locs hP hS => ?_)
  have hD : va_D A (mw cI cZ ad 0 (nI N) pa pe g0 g1 g2) := q_Dc (L := [ad 0, ad 1, ad 2, ad 3]) hD rfl rfl
  exact m_retI hx hb hr hlocks hS hP rfl dX1_politeGaps_8

theorem kv_X1_threads : yX1_threads.cls = RX1 ∧ yX1_threads.cls ≠ "java/lang/invoke/MethodHandle" ∧ yX1_threads.cls ≠ "java/lang/invoke/VarHandle" ∧ (parseMethodDescriptor yX1_threads.desc).map (fun d => d.parameters.length) = some 0 := by decide +kernel
theorem ks_X1_threads : yX1_threads.cls ≠ "java/lang/invoke/MethodHandle" ∧ yX1_threads.cls ≠ "java/lang/invoke/VarHandle" ∧ (parseMethodDescriptor yX1_threads.desc).map (fun d => d.parameters.length) = some 0 := kv_X1_threads.2
set_option maxHeartbeats 4000000 in
set_option maxRecDepth 100000 in
theorem c_X1_threads_ok (l : Launch) (D : va_G) (cI cZ : ClassId) (ad : Nat → Nat) (th : Int32) (N : Nat) (pa pe : Int32) (g0 g1 g2 : Nat → Int32) (hN : N ≤ 24) : m_I l yX1_threads wsX1_threads ({ frames := 7, cells := 0, slots := 0, locals := 149 } : Room) D ([(cI, .int), (cZ, .boolean)]) (mw cI cZ ad th (nI N) pa pe g0 g1 g2) [.ref (ad 0)] (nI (m_tn g0 g1 g2 N)) (mw cI cZ ad 0 (nI N) pa pe g0 g1 g2) := by
  refine m_startI (cc := cX1_threads) (maxL := 1) (rt := .int) (by decide) rfl (Nat.le_of_ble_eq_true rfl) ?_
  intro p e s m below meth c A hx hb hml hr hts hown hlocks hK hA H locs ls hP hD hS hl
  have hin : ∀ w ∈ wsX10, w ∈ wsX1_threads := by decide +kernel
  have hl : lv_has ls 1 [(0, .ref (ad 0))] := hl
  refine lv_aload_n hx hb dX1_threads_0 rfl (lv_at hl 0 rfl) ?_
  refine lv_aload_n hx hb dX1_threads_1 rfl (lv_at hl 0 rfl) ?_
  refine q_callV (As := []) (rest := [.ref (ad 0)]) ⟨hx, hb, hml, hown, hts⟩ (c_X1_threadsNow l D cI cZ ad th N pa pe g0 g1 g2 hN) (cwV 0 hts gX1_threads_X1_threadsNow rfl rfl rfl kv_X1_threadsNow ⟨Nat.le_of_ble_eq_true rfl, Nat.le_of_ble_eq_true rfl⟩) (va_recv hK hP (ci := 1) (q0 := 0) rfl rfl) hP hK rfl hl.1 rfl (Nat.le_of_ble_eq_true rfl) dX1_threads_2 (Nat.zero_le _) (Nat.zero_le _) hS (fun H locs hsm hS => ?_)
  have hP := hsm.P hP
  refine m_callVI (As := [.int (nI (m_tn g0 g1 g2 N))]) (rest := []) (Wr := []) (W2 := (mw cI cZ ad 0 (nI N) pa pe g0 g1 g2)) ⟨hx, hb, hml, hown, hts⟩ (c_X1_told l D cI cZ ad th N pa pe g0 g1 g2 hN (nI (m_tn g0 g1 g2 N))) (cwV 1 hts gX1_threads_X1_told rfl rfl rfl kv_X1_told ⟨Nat.le_of_ble_eq_true rfl, Nat.le_of_ble_eq_true rfl⟩) (va_recv hK hP (ci := 1) (q0 := 0) rfl rfl) hP hD hK hA [0, 1, 2, 3] [] [0, 1, 2, 3] rfl rfl rfl rfl rfl (by decide) rfl rfl rfl hl.1 rfl (Nat.le_of_ble_eq_true rfl) dX1_threads_5 (Nat.zero_le _) (Nat.zero_le _) hS (fun H locs hP hS => ?_)
  have hD : va_D A (mw cI cZ ad 0 (nI N) pa pe g0 g1 g2) := q_Dc (L := [ad 0, ad 1, ad 2, ad 3]) hD rfl rfl
  exact m_retI hx hb hr hlocks hS hP rfl dX1_threads_8

theorem kv_X1_longestThread : yX1_longestThread.cls = RX1 ∧ yX1_longestThread.cls ≠ "java/lang/invoke/MethodHandle" ∧ yX1_longestThread.cls ≠ "java/lang/invoke/VarHandle" ∧ (parseMethodDescriptor yX1_longestThread.desc).map (fun d => d.parameters.length) = some 0 := by decide +kernel
theorem ks_X1_longestThread : yX1_longestThread.cls ≠ "java/lang/invoke/MethodHandle" ∧ yX1_longestThread.cls ≠ "java/lang/invoke/VarHandle" ∧ (parseMethodDescriptor yX1_longestThread.desc).map (fun d => d.parameters.length) = some 0 := kv_X1_longestThread.2
set_option maxHeartbeats 4000000 in
set_option maxRecDepth 100000 in
theorem c_X1_longestThread_ok (l : Launch) (D : va_G) (cI cZ : ClassId) (ad : Nat → Nat) (th : Int32) (N : Nat) (pa pe : Int32) (g0 g1 g2 : Nat → Int32) (hN : N ≤ 24) : m_I l yX1_longestThread wsX1_longestThread ({ frames := 8, cells := 0, slots := 0, locals := 175 } : Room) D ([(cI, .int), (cZ, .boolean)]) (mw cI cZ ad th (nI N) pa pe g0 g1 g2) [.ref (ad 0)] (m_lg g0 g1 g2 N (m_tn g0 g1 g2 N)) (mw cI cZ ad 0 (nI N) pa pe g0 g1 g2) := by
  refine m_startI (cc := cX1_longestThread) (maxL := 1) (rt := .int) (by decide) rfl (Nat.le_of_ble_eq_true rfl) ?_
  intro p e s m below meth c A hx hb hml hr hts hown hlocks hK hA H locs ls hP hD hS hl
  have hin : ∀ w ∈ wsX10, w ∈ wsX1_longestThread := by decide +kernel
  have hl : lv_has ls 1 [(0, .ref (ad 0))] := hl
  refine lv_aload_n hx hb dX1_longestThread_0 rfl (lv_at hl 0 rfl) ?_
  refine lv_aload_n hx hb dX1_longestThread_1 rfl (lv_at hl 0 rfl) ?_
  refine q_callV (As := []) (rest := [.ref (ad 0)]) ⟨hx, hb, hml, hown, hts⟩ (c_X1_longest l D cI cZ ad th N pa pe g0 g1 g2 hN) (cwV 0 hts gX1_longestThread_X1_longest rfl rfl rfl kv_X1_longest ⟨Nat.le_of_ble_eq_true rfl, Nat.le_of_ble_eq_true rfl⟩) (va_recv hK hP (ci := 1) (q0 := 0) rfl rfl) hP hK rfl hl.1 rfl (Nat.le_of_ble_eq_true rfl) dX1_longestThread_2 (Nat.zero_le _) (Nat.zero_le _) hS (fun H locs hsm hS => ?_)
  have hP := hsm.P hP
  refine m_callVI (As := [.int (m_lg g0 g1 g2 N (m_tn g0 g1 g2 N))]) (rest := []) (Wr := []) (W2 := (mw cI cZ ad 0 (nI N) pa pe g0 g1 g2)) ⟨hx, hb, hml, hown, hts⟩ (c_X1_told l D cI cZ ad th N pa pe g0 g1 g2 hN (m_lg g0 g1 g2 N (m_tn g0 g1 g2 N))) (cwV 1 hts gX1_longestThread_X1_told rfl rfl rfl kv_X1_told ⟨Nat.le_of_ble_eq_true rfl, Nat.le_of_ble_eq_true rfl⟩) (va_recv hK hP (ci := 1) (q0 := 0) rfl rfl) hP hD hK hA [0, 1, 2, 3] [] [0, 1, 2, 3] rfl rfl rfl rfl rfl (by decide) rfl rfl rfl hl.1 rfl (Nat.le_of_ble_eq_true rfl) dX1_longestThread_5 (Nat.zero_le _) (Nat.zero_le _) hS (fun H locs hP hS => ?_)
  have hD : va_D A (mw cI cZ ad 0 (nI N) pa pe g0 g1 g2) := q_Dc (L := [ad 0, ad 1, ad 2, ad 3]) hD rfl rfl
  exact m_retI hx hb hr hlocks hS hP rfl dX1_longestThread_8

theorem kv_X1_costOfAll : yX1_costOfAll.cls = RX1 ∧ yX1_costOfAll.cls ≠ "java/lang/invoke/MethodHandle" ∧ yX1_costOfAll.cls ≠ "java/lang/invoke/VarHandle" ∧ (parseMethodDescriptor yX1_costOfAll.desc).map (fun d => d.parameters.length) = some 0 := by decide +kernel
theorem ks_X1_costOfAll : yX1_costOfAll.cls ≠ "java/lang/invoke/MethodHandle" ∧ yX1_costOfAll.cls ≠ "java/lang/invoke/VarHandle" ∧ (parseMethodDescriptor yX1_costOfAll.desc).map (fun d => d.parameters.length) = some 0 := kv_X1_costOfAll.2
set_option maxHeartbeats 4000000 in
set_option maxRecDepth 100000 in
theorem c_X1_costOfAll_ok (l : Launch) (D : va_G) (cI cZ : ClassId) (ad : Nat → Nat) (th : Int32) (N : Nat) (pa pe : Int32) (g0 g1 g2 : Nat → Int32) (hN : N ≤ 24) : m_I l yX1_costOfAll wsX1_costOfAll ({ frames := 7, cells := 0, slots := 0, locals := 152 } : Room) D ([(cI, .int), (cZ, .boolean)]) (mw cI cZ ad th (nI N) pa pe g0 g1 g2) [.ref (ad 0)] (m_ma g0 g1 g2 N (m_n g0 N - 1)) (mw cI cZ ad 0 (nI N) pa pe g0 g1 g2) := by
  refine m_startI (cc := cX1_costOfAll) (maxL := 1) (rt := .int) (by decide) rfl (Nat.le_of_ble_eq_true rfl) ?_
  intro p e s m below meth c A hx hb hml hr hts hown hlocks hK hA H locs ls hP hD hS hl
  have hin : ∀ w ∈ wsX10, w ∈ wsX1_costOfAll := by decide +kernel
  have hl : lv_has ls 1 [(0, .ref (ad 0))] := hl
  refine lv_aload_n hx hb dX1_costOfAll_0 rfl (lv_at hl 0 rfl) ?_
  refine lv_aload_n hx hb dX1_costOfAll_1 rfl (lv_at hl 0 rfl) ?_
  refine q_callV (As := []) (rest := [.ref (ad 0)]) ⟨hx, hb, hml, hown, hts⟩ (c_X1_mendsAll l D cI cZ ad th N pa pe g0 g1 g2 hN) (cwV 0 hts gX1_costOfAll_X1_mendsAll rfl rfl rfl kv_X1_mendsAll ⟨Nat.le_of_ble_eq_true rfl, Nat.le_of_ble_eq_true rfl⟩) (va_recv hK hP (ci := 1) (q0 := 0) rfl rfl) hP hK rfl hl.1 rfl (Nat.le_of_ble_eq_true rfl) dX1_costOfAll_2 (Nat.zero_le _) (Nat.zero_le _) hS (fun H locs hsm hS => ?_)
  have hP := hsm.P hP
  refine m_callVI (As := [.int (m_ma g0 g1 g2 N (m_n g0 N - 1))]) (rest := []) (Wr := []) (W2 := (mw cI cZ ad 0 (nI N) pa pe g0 g1 g2)) ⟨hx, hb, hml, hown, hts⟩ (c_X1_told l D cI cZ ad th N pa pe g0 g1 g2 hN (m_ma g0 g1 g2 N (m_n g0 N - 1))) (cwV 1 hts gX1_costOfAll_X1_told rfl rfl rfl kv_X1_told ⟨Nat.le_of_ble_eq_true rfl, Nat.le_of_ble_eq_true rfl⟩) (va_recv hK hP (ci := 1) (q0 := 0) rfl rfl) hP hD hK hA [0, 1, 2, 3] [] [0, 1, 2, 3] rfl rfl rfl rfl rfl (by decide) rfl rfl rfl hl.1 rfl (Nat.le_of_ble_eq_true rfl) dX1_costOfAll_5 (Nat.zero_le _) (Nat.zero_le _) hS (fun H locs hP hS => ?_)
  have hD : va_D A (mw cI cZ ad 0 (nI N) pa pe g0 g1 g2) := q_Dc (L := [ad 0, ad 1, ad 2, ad 3]) hD rfl rfl
  exact m_retI hx hb hr hlocks hS hP rfl dX1_costOfAll_8

theorem kv_X1_bestSplice : yX1_bestSplice.cls = RX1 ∧ yX1_bestSplice.cls ≠ "java/lang/invoke/MethodHandle" ∧ yX1_bestSplice.cls ≠ "java/lang/invoke/VarHandle" ∧ (parseMethodDescriptor yX1_bestSplice.desc).map (fun d => d.parameters.length) = some 0 := by decide +kernel
theorem ks_X1_bestSplice : yX1_bestSplice.cls ≠ "java/lang/invoke/MethodHandle" ∧ yX1_bestSplice.cls ≠ "java/lang/invoke/VarHandle" ∧ (parseMethodDescriptor yX1_bestSplice.desc).map (fun d => d.parameters.length) = some 0 := kv_X1_bestSplice.2
set_option maxHeartbeats 4000000 in
set_option maxRecDepth 100000 in
theorem c_X1_bestSplice_ok (l : Launch) (D : va_G) (cI cZ : ClassId) (ad : Nat → Nat) (th : Int32) (N : Nat) (pa pe : Int32) (g0 g1 g2 : Nat → Int32) (hN : N ≤ 24) : m_I l yX1_bestSplice wsX1_bestSplice ({ frames := 8, cells := 0, slots := 0, locals := 176 } : Room) D ([(cI, .int), (cZ, .boolean)]) (mw cI cZ ad th (nI N) pa pe g0 g1 g2) [.ref (ad 0)] ((m_bs g0 g1 g2 N (m_n g0 N - 1)).1) (mw cI cZ ad 0 (nI N) pa pe g0 g1 g2) := by
  refine m_startI (cc := cX1_bestSplice) (maxL := 1) (rt := .int) (by decide) rfl (Nat.le_of_ble_eq_true rfl) ?_
  intro p e s m below meth c A hx hb hml hr hts hown hlocks hK hA H locs ls hP hD hS hl
  have hin : ∀ w ∈ wsX10, w ∈ wsX1_bestSplice := by decide +kernel
  have hl : lv_has ls 1 [(0, .ref (ad 0))] := hl
  refine lv_aload_n hx hb dX1_bestSplice_0 rfl (lv_at hl 0 rfl) ?_
  refine lv_aload_n hx hb dX1_bestSplice_1 rfl (lv_at hl 0 rfl) ?_
  refine q_callV (As := []) (rest := [.ref (ad 0)]) ⟨hx, hb, hml, hown, hts⟩ (c_X1_best l D cI cZ ad th N pa pe g0 g1 g2 hN) (cwV 0 hts gX1_bestSplice_X1_best rfl rfl rfl kv_X1_best ⟨Nat.le_of_ble_eq_true rfl, Nat.le_of_ble_eq_true rfl⟩) (va_recv hK hP (ci := 1) (q0 := 0) rfl rfl) hP hK rfl hl.1 rfl (Nat.le_of_ble_eq_true rfl) dX1_bestSplice_2 (Nat.zero_le _) (Nat.zero_le _) hS (fun H locs hsm hS => ?_)
  have hP := hsm.P hP
  refine m_callVI (As := [.int ((m_bs g0 g1 g2 N (m_n g0 N - 1)).1)]) (rest := []) (Wr := []) (W2 := (mw cI cZ ad 0 (nI N) pa pe g0 g1 g2)) ⟨hx, hb, hml, hown, hts⟩ (c_X1_told l D cI cZ ad th N pa pe g0 g1 g2 hN ((m_bs g0 g1 g2 N (m_n g0 N - 1)).1)) (cwV 1 hts gX1_bestSplice_X1_told rfl rfl rfl kv_X1_told ⟨Nat.le_of_ble_eq_true rfl, Nat.le_of_ble_eq_true rfl⟩) (va_recv hK hP (ci := 1) (q0 := 0) rfl rfl) hP hD hK hA [0, 1, 2, 3] [] [0, 1, 2, 3] rfl rfl rfl rfl rfl (by decide) rfl rfl rfl hl.1 rfl (Nat.le_of_ble_eq_true rfl) dX1_bestSplice_5 (Nat.zero_le _) (Nat.zero_le _) hS (fun H locs hP hS => ?_)
  have hD : va_D A (mw cI cZ ad 0 (nI N) pa pe g0 g1 g2) := q_Dc (L := [ad 0, ad 1, ad 2, ad 3]) hD rfl rfl
  exact m_retI hx hb hr hlocks hS hP rfl dX1_bestSplice_8

theorem kv_X1_isCough : yX1_isCough.cls = RX1 ∧ yX1_isCough.cls ≠ "java/lang/invoke/MethodHandle" ∧ yX1_isCough.cls ≠ "java/lang/invoke/VarHandle" ∧ (parseMethodDescriptor yX1_isCough.desc).map (fun d => d.parameters.length) = some 1 := by decide +kernel
theorem ks_X1_isCough : yX1_isCough.cls ≠ "java/lang/invoke/MethodHandle" ∧ yX1_isCough.cls ≠ "java/lang/invoke/VarHandle" ∧ (parseMethodDescriptor yX1_isCough.desc).map (fun d => d.parameters.length) = some 1 := kv_X1_isCough.2
set_option maxHeartbeats 4000000 in
set_option maxRecDepth 100000 in
theorem c_X1_isCough_1 (l : Launch) (D : va_G) (cI cZ : ClassId) (ad : Nat → Nat) (th : Int32) (N : Nat) (pa pe : Int32) (g0 g1 g2 : Nat → Int32) (hN : N ≤ 24) (x1 : Int32) (h1 : m_in x1 0 (nI N - 1) = false) : m_I l yX1_isCough wsX1_isCough ({ frames := 2, cells := 0, slots := 0, locals := 43 } : Room) D ([(cI, .int), (cZ, .boolean)]) (mw cI cZ ad th (nI N) pa pe g0 g1 g2) [.ref (ad 0), .int x1] 0 (mw cI cZ ad 1 (nI N) pa pe g0 g1 g2) := by
  refine m_startI (cc := cX1_isCough) (maxL := 2) (rt := .boolean) (by decide) rfl (Nat.le_of_ble_eq_true rfl) ?_
  intro p e s m below meth c A hx hb hml hr hts hown hlocks hK hA H locs ls hP hD hS hl
  have hin : ∀ w ∈ wsX10, w ∈ wsX1_isCough := by decide +kernel
  have hl : lv_has ls 2 [(0, .ref (ad 0)), (1, .int x1)] := hl
  refine lv_aload_n hx hb dX1_isCough_0 rfl (lv_at hl 0 rfl) ?_
  refine lv_aload_n hx hb dX1_isCough_1 rfl (lv_at hl 0 rfl) ?_
  refine lv_iload_n hx hb dX1_isCough_2 rfl (lv_at hl 1 rfl) ?_
  refine q_callV (As := [.int x1]) (rest := [.ref (ad 0)]) ⟨hx, hb, hml, hown, hts⟩ (c_X1_isPlace l D cI cZ ad th N pa pe g0 g1 g2 hN x1) (cwV 1 hts gX1_isCough_X1_isPlace rfl rfl rfl kv_X1_isPlace ⟨Nat.le_of_ble_eq_true rfl, Nat.le_of_ble_eq_true rfl⟩) (va_recv hK hP (ci := 1) (q0 := 0) rfl rfl) hP hK rfl hl.1 rfl (Nat.le_of_ble_eq_true rfl) dX1_isCough_3 (Nat.zero_le _) (Nat.zero_le _) hS (fun H locs hsm hS => ?_)
  have hP := hsm.P hP
  refine lv_if_eq (tgt := 13) hx hb dX1_isCough_6 (by decide) (fun c_6 => ?_) (fun h9 => absurd (bI_0.mpr h1) h9)
  refine lv_iconst (v := 1) hx hb dX1_isCough_13 (by decide) ?_
  refine va_put (D := D) (ci := 1) (v := .int 1) (ty := .int) (C := RX1) (T := TX1) (N := 7) hx hb hts hin tyX1 tyX1_ok nmX1 hown hK hP hD hS 0 rfl rfl 0 (by decide) (hts (.fieldLink RX1 24 "SplicedTalkModel" "thrown" "I") (by decide +kernel)) (fun _ h9 => h9) rfl (by decide +kernel) rfl rfl (Nat.le_of_ble_eq_true rfl) dX1_isCough_14 (fun H locs hP hD hS => ?_)
  have hP : va_P D vwCl (mw cI cZ ad 1 (nI N) pa pe g0 g1 g2) H := hP
  have hD : va_D A (mw cI cZ ad 1 (nI N) pa pe g0 g1 g2) := q_Dc (L := [ad 0, ad 1, ad 2, ad 3]) hD rfl rfl
  refine lv_aload_n hx hb dX1_isCough_17 rfl (lv_at hl 0 rfl) ?_
  refine va_get (D := D) (ci := 1) (v := .int 1) (C := RX1) (T := TX1) (N := 7) hx hb hts hin hown hK hP 0 rfl rfl 0 (by decide) (hts (.fieldLink RX1 24 "SplicedTalkModel" "thrown" "I") (by decide +kernel)) (fun _ h9 => h9) rfl dX1_isCough_18 ?_
  refine lv_if_ne (tgt := 37) hx hb dX1_isCough_21 (by decide) (fun _ => ?_) (fun h9 => absurd h9 (by decide))
  refine lv_iconst (v := 0) hx hb dX1_isCough_37 (by decide) ?_
  exact m_retZ hx hb hr hlocks hS hP rfl (Or.inl rfl) dX1_isCough_38

set_option maxHeartbeats 4000000 in
set_option maxRecDepth 100000 in
theorem c_X1_isCough_ok (l : Launch) (D : va_G) (cI cZ : ClassId) (ad : Nat → Nat) (th : Int32) (N : Nat) (pa pe : Int32) (g0 g1 g2 : Nat → Int32) (hN : N ≤ 24) (k : Nat) (hk : k < N) (h1 : m_in (nI k) 0 (nI N - 1) = true) : m_I l yX1_isCough wsX1_isCough ({ frames := 2, cells := 0, slots := 0, locals := 43 } : Room) D ([(cI, .int), (cZ, .boolean)]) (mw cI cZ ad th (nI N) pa pe g0 g1 g2) [.ref (ad 0), .int (nI k)] (bI (!decide (0 ≤ g0 k))) (mw cI cZ ad 0 (nI N) pa pe g0 g1 g2) := by
  refine m_startI (cc := cX1_isCough) (maxL := 2) (rt := .boolean) (by decide) rfl (Nat.le_of_ble_eq_true rfl) ?_
  intro p e s m below meth c A hx hb hml hr hts hown hlocks hK hA H locs ls hP hD hS hl
  have hin : ∀ w ∈ wsX10, w ∈ wsX1_isCough := by decide +kernel
  have hl : lv_has ls 2 [(0, .ref (ad 0)), (1, .int (nI k))] := hl
  refine lv_aload_n hx hb dX1_isCough_0 rfl (lv_at hl 0 rfl) ?_
  refine lv_aload_n hx hb dX1_isCough_1 rfl (lv_at hl 0 rfl) ?_
  refine lv_iload_n hx hb dX1_isCough_2 rfl (lv_at hl 1 rfl) ?_
  refine q_callV (As := [.int (nI k)]) (rest := [.ref (ad 0)]) ⟨hx, hb, hml, hown, hts⟩ (c_X1_isPlace l D cI cZ ad th N pa pe g0 g1 g2 hN (nI k)) (cwV 1 hts gX1_isCough_X1_isPlace rfl rfl rfl kv_X1_isPlace ⟨Nat.le_of_ble_eq_true rfl, Nat.le_of_ble_eq_true rfl⟩) (va_recv hK hP (ci := 1) (q0 := 0) rfl rfl) hP hK rfl hl.1 rfl (Nat.le_of_ble_eq_true rfl) dX1_isCough_3 (Nat.zero_le _) (Nat.zero_le _) hS (fun H locs hsm hS => ?_)
  have hP := hsm.P hP
  refine lv_if_eq (tgt := 13) hx hb dX1_isCough_6 (by decide) (fun h9 => absurd (h1.symm.trans (bI_0.mp h9)) (by decide)) (fun c_6 => ?_)
  refine lv_iconst (v := 0) hx hb dX1_isCough_9 (by decide) ?_
  refine lv_goto (tgt := 14) hx hb dX1_isCough_10 (by decide) ?_
  refine va_put (D := D) (ci := 1) (v := .int 0) (ty := .int) (C := RX1) (T := TX1) (N := 7) hx hb hts hin tyX1 tyX1_ok nmX1 hown hK hP hD hS 0 rfl rfl 0 (by decide) (hts (.fieldLink RX1 24 "SplicedTalkModel" "thrown" "I") (by decide +kernel)) (fun _ h9 => h9) rfl (by decide +kernel) rfl rfl (Nat.le_of_ble_eq_true rfl) dX1_isCough_14 (fun H locs hP hD hS => ?_)
  have hP : va_P D vwCl (mw cI cZ ad 0 (nI N) pa pe g0 g1 g2) H := hP
  have hD : va_D A (mw cI cZ ad 0 (nI N) pa pe g0 g1 g2) := q_Dc (L := [ad 0, ad 1, ad 2, ad 3]) hD rfl rfl
  refine lv_aload_n hx hb dX1_isCough_17 rfl (lv_at hl 0 rfl) ?_
  refine va_get (D := D) (ci := 1) (v := .int 0) (C := RX1) (T := TX1) (N := 7) hx hb hts hin hown hK hP 0 rfl rfl 0 (by decide) (hts (.fieldLink RX1 24 "SplicedTalkModel" "thrown" "I") (by decide +kernel)) (fun _ h9 => h9) rfl dX1_isCough_18 ?_
  refine lv_if_ne (tgt := 37) hx hb dX1_isCough_21 (by decide) (fun h9 => absurd (by decide) h9) (fun _ => ?_)
  refine lv_aload_n hx hb dX1_isCough_24 rfl (lv_at hl 0 rfl) ?_
  refine va_get (D := D) (ci := 1) (v := .ref (ad 1)) (C := RX1) (T := TX1) (N := 7) hx hb hts hin hown hK hP 0 rfl rfl 4 (by decide) (hts (.fieldLink RX1 13 "SplicedTalkModel" "topic" "[I") (by decide +kernel)) (fun _ h9 => h9) rfl dX1_isCough_25 ?_
  refine lv_iload_n hx hb dX1_isCough_28 rfl (lv_at hl 1 rfl) ?_
  refine va_iald hx hb hK hP 1 0 rfl rfl (vp_in_nI (by have := hN; skip; omega) (by decide)) dX1_isCough_29 ?_
  rw [nI_clamp (by have := hN; skip; omega)]
  suffices K_30 : ∀ v9 : Int32, v9 = (bI (!decide (0 ≤ (g0 k)))) → W p l e ({ frames := 2, cells := 0, slots := 0, locals := 43 } : Room) s m [.ref (ad 0), .int (nI k)].toArray below meth c H locs 0 0 (m_EI D below [.ref (ad 0), .int (nI k)].toArray s (bI (!decide (0 ≤ g0 k))) (mw cI cZ ad 0 (nI N) pa pe g0 g1 g2) A) (F0 m 38 ls [.int v9]) from by
    refine lv_if_ge (tgt := 37) hx hb dX1_isCough_30 (by decide) (fun c_30 => ?_) (fun c_30 => ?_)
    · refine lv_iconst (v := 0) hx hb dX1_isCough_37 (by decide) ?_
      exact K_30 _ (bI_nt c_30)
    · refine lv_iconst (v := 1) hx hb dX1_isCough_33 (by decide) ?_
      refine lv_goto (tgt := 38) hx hb dX1_isCough_34 (by decide) ?_
      exact K_30 _ (bI_nf c_30)
  intro v9 hv9
  rw [hv9]; clear hv9
  exact m_retZ hx hb hr hlocks hS hP rfl (bI_01 _) dX1_isCough_38

theorem kv_X1_speakerAt : yX1_speakerAt.cls = RX1 ∧ yX1_speakerAt.cls ≠ "java/lang/invoke/MethodHandle" ∧ yX1_speakerAt.cls ≠ "java/lang/invoke/VarHandle" ∧ (parseMethodDescriptor yX1_speakerAt.desc).map (fun d => d.parameters.length) = some 1 := by decide +kernel
theorem ks_X1_speakerAt : yX1_speakerAt.cls ≠ "java/lang/invoke/MethodHandle" ∧ yX1_speakerAt.cls ≠ "java/lang/invoke/VarHandle" ∧ (parseMethodDescriptor yX1_speakerAt.desc).map (fun d => d.parameters.length) = some 1 := kv_X1_speakerAt.2
set_option maxHeartbeats 4000000 in
set_option maxRecDepth 100000 in
theorem c_X1_speakerAt_1 (l : Launch) (D : va_G) (cI cZ : ClassId) (ad : Nat → Nat) (th : Int32) (N : Nat) (pa pe : Int32) (g0 g1 g2 : Nat → Int32) (hN : N ≤ 24) (x1 : Int32) (h1 : m_in x1 0 (nI N - 1) = false) : m_I l yX1_speakerAt wsX1_speakerAt ({ frames := 2, cells := 0, slots := 0, locals := 43 } : Room) D ([(cI, .int), (cZ, .boolean)]) (mw cI cZ ad th (nI N) pa pe g0 g1 g2) [.ref (ad 0), .int x1] 0 (mw cI cZ ad 1 (nI N) pa pe g0 g1 g2) := by
  refine m_startI (cc := cX1_speakerAt) (maxL := 2) (rt := .int) (by decide) rfl (Nat.le_of_ble_eq_true rfl) ?_
  intro p e s m below meth c A hx hb hml hr hts hown hlocks hK hA H locs ls hP hD hS hl
  have hin : ∀ w ∈ wsX10, w ∈ wsX1_speakerAt := by decide +kernel
  have hl : lv_has ls 2 [(0, .ref (ad 0)), (1, .int x1)] := hl
  refine lv_aload_n hx hb dX1_speakerAt_0 rfl (lv_at hl 0 rfl) ?_
  refine lv_iconst (v := 0) hx hb dX1_speakerAt_1 (by decide) ?_
  refine va_put (D := D) (ci := 1) (v := .int 0) (ty := .int) (C := RX1) (T := TX1) (N := 7) hx hb hts hin tyX1 tyX1_ok nmX1 hown hK hP hD hS 0 rfl rfl 0 (by decide) (hts (.fieldLink RX1 24 "SplicedTalkModel" "thrown" "I") (by decide +kernel)) (fun _ h9 => h9) rfl (by decide +kernel) rfl rfl (Nat.le_of_ble_eq_true rfl) dX1_speakerAt_2 (fun H locs hP hD hS => ?_)
  have hP : va_P D vwCl (mw cI cZ ad 0 (nI N) pa pe g0 g1 g2) H := hP
  have hD : va_D A (mw cI cZ ad 0 (nI N) pa pe g0 g1 g2) := q_Dc (L := [ad 0, ad 1, ad 2, ad 3]) hD rfl rfl
  refine lv_aload_n hx hb dX1_speakerAt_5 rfl (lv_at hl 0 rfl) ?_
  refine lv_iload_n hx hb dX1_speakerAt_6 rfl (lv_at hl 1 rfl) ?_
  refine q_callV (As := [.int x1]) (rest := []) ⟨hx, hb, hml, hown, hts⟩ (c_X1_isPlace l D cI cZ ad 0 N pa pe g0 g1 g2 hN x1) (cwV 1 hts gX1_speakerAt_X1_isPlace rfl rfl rfl kv_X1_isPlace ⟨Nat.le_of_ble_eq_true rfl, Nat.le_of_ble_eq_true rfl⟩) (va_recv hK hP (ci := 1) (q0 := 0) rfl rfl) hP hK rfl hl.1 rfl (Nat.le_of_ble_eq_true rfl) dX1_speakerAt_7 (Nat.zero_le _) (Nat.zero_le _) hS (fun H locs hsm hS => ?_)
  have hP := hsm.P hP
  refine lv_if_eq (tgt := 22) hx hb dX1_speakerAt_10 (by decide) (fun c_10 => ?_) (fun h9 => absurd (bI_0.mpr h1) h9)
  refine lv_aload_n hx hb dX1_speakerAt_22 rfl (lv_at hl 0 rfl) ?_
  refine lv_iconst (v := 1) hx hb dX1_speakerAt_23 (by decide) ?_
  refine m_callVI (As := [.int 1]) (rest := []) (Wr := []) (W2 := (mw cI cZ ad 1 (nI N) pa pe g0 g1 g2)) ⟨hx, hb, hml, hown, hts⟩ (c_X1_fail l D cI cZ ad 0 N pa pe g0 g1 g2 hN 1) (cwV 1 hts gX1_speakerAt_X1_fail rfl rfl rfl kv_X1_fail ⟨Nat.le_of_ble_eq_true rfl, Nat.le_of_ble_eq_true rfl⟩) (va_recv hK hP (ci := 1) (q0 := 0) rfl rfl) hP hD hK hA [0, 1, 2, 3] [] [0, 1, 2, 3] rfl rfl rfl rfl rfl (by decide) rfl rfl rfl hl.1 rfl (Nat.le_of_ble_eq_true rfl) dX1_speakerAt_24 (Nat.zero_le _) (Nat.zero_le _) hS (fun H locs hP hS => ?_)
  have hD : va_D A (mw cI cZ ad 1 (nI N) pa pe g0 g1 g2) := q_Dc (L := [ad 0, ad 1, ad 2, ad 3]) hD rfl rfl
  exact m_retI hx hb hr hlocks hS hP rfl dX1_speakerAt_27

set_option maxHeartbeats 4000000 in
set_option maxRecDepth 100000 in
theorem c_X1_speakerAt_ok (l : Launch) (D : va_G) (cI cZ : ClassId) (ad : Nat → Nat) (th : Int32) (N : Nat) (pa pe : Int32) (g0 g1 g2 : Nat → Int32) (hN : N ≤ 24) (k : Nat) (hk : k < N) (h1 : m_in (nI k) 0 (nI N - 1) = true) : m_I l yX1_speakerAt wsX1_speakerAt ({ frames := 2, cells := 0, slots := 0, locals := 43 } : Room) D ([(cI, .int), (cZ, .boolean)]) (mw cI cZ ad th (nI N) pa pe g0 g1 g2) [.ref (ad 0), .int (nI k)] (g1 k) (mw cI cZ ad 0 (nI N) pa pe g0 g1 g2) := by
  refine m_startI (cc := cX1_speakerAt) (maxL := 2) (rt := .int) (by decide) rfl (Nat.le_of_ble_eq_true rfl) ?_
  intro p e s m below meth c A hx hb hml hr hts hown hlocks hK hA H locs ls hP hD hS hl
  have hin : ∀ w ∈ wsX10, w ∈ wsX1_speakerAt := by decide +kernel
  have hl : lv_has ls 2 [(0, .ref (ad 0)), (1, .int (nI k))] := hl
  refine lv_aload_n hx hb dX1_speakerAt_0 rfl (lv_at hl 0 rfl) ?_
  refine lv_iconst (v := 0) hx hb dX1_speakerAt_1 (by decide) ?_
  refine va_put (D := D) (ci := 1) (v := .int 0) (ty := .int) (C := RX1) (T := TX1) (N := 7) hx hb hts hin tyX1 tyX1_ok nmX1 hown hK hP hD hS 0 rfl rfl 0 (by decide) (hts (.fieldLink RX1 24 "SplicedTalkModel" "thrown" "I") (by decide +kernel)) (fun _ h9 => h9) rfl (by decide +kernel) rfl rfl (Nat.le_of_ble_eq_true rfl) dX1_speakerAt_2 (fun H locs hP hD hS => ?_)
  have hP : va_P D vwCl (mw cI cZ ad 0 (nI N) pa pe g0 g1 g2) H := hP
  have hD : va_D A (mw cI cZ ad 0 (nI N) pa pe g0 g1 g2) := q_Dc (L := [ad 0, ad 1, ad 2, ad 3]) hD rfl rfl
  refine lv_aload_n hx hb dX1_speakerAt_5 rfl (lv_at hl 0 rfl) ?_
  refine lv_iload_n hx hb dX1_speakerAt_6 rfl (lv_at hl 1 rfl) ?_
  refine q_callV (As := [.int (nI k)]) (rest := []) ⟨hx, hb, hml, hown, hts⟩ (c_X1_isPlace l D cI cZ ad 0 N pa pe g0 g1 g2 hN (nI k)) (cwV 1 hts gX1_speakerAt_X1_isPlace rfl rfl rfl kv_X1_isPlace ⟨Nat.le_of_ble_eq_true rfl, Nat.le_of_ble_eq_true rfl⟩) (va_recv hK hP (ci := 1) (q0 := 0) rfl rfl) hP hK rfl hl.1 rfl (Nat.le_of_ble_eq_true rfl) dX1_speakerAt_7 (Nat.zero_le _) (Nat.zero_le _) hS (fun H locs hsm hS => ?_)
  have hP := hsm.P hP
  refine lv_if_eq (tgt := 22) hx hb dX1_speakerAt_10 (by decide) (fun h9 => absurd (h1.symm.trans (bI_0.mp h9)) (by decide)) (fun c_10 => ?_)
  refine lv_aload_n hx hb dX1_speakerAt_13 rfl (lv_at hl 0 rfl) ?_
  refine va_get (D := D) (ci := 1) (v := .ref (ad 2)) (C := RX1) (T := TX1) (N := 7) hx hb hts hin hown hK hP 0 rfl rfl 5 (by decide) (hts (.fieldLink RX1 17 "SplicedTalkModel" "speaker" "[I") (by decide +kernel)) (fun _ h9 => h9) rfl dX1_speakerAt_14 ?_
  refine lv_iload_n hx hb dX1_speakerAt_17 rfl (lv_at hl 1 rfl) ?_
  refine va_iald hx hb hK hP 2 0 rfl rfl (vp_in_nI (by have := hN; skip; omega) (by decide)) dX1_speakerAt_18 ?_
  rw [nI_clamp (by have := hN; skip; omega)]
  refine lv_goto (tgt := 27) hx hb dX1_speakerAt_19 (by decide) ?_
  exact m_retI hx hb hr hlocks hS hP rfl dX1_speakerAt_27

theorem kv_X1_placeOf : yX1_placeOf.cls = RX1 ∧ yX1_placeOf.cls ≠ "java/lang/invoke/MethodHandle" ∧ yX1_placeOf.cls ≠ "java/lang/invoke/VarHandle" ∧ (parseMethodDescriptor yX1_placeOf.desc).map (fun d => d.parameters.length) = some 1 := by decide +kernel
theorem ks_X1_placeOf : yX1_placeOf.cls ≠ "java/lang/invoke/MethodHandle" ∧ yX1_placeOf.cls ≠ "java/lang/invoke/VarHandle" ∧ (parseMethodDescriptor yX1_placeOf.desc).map (fun d => d.parameters.length) = some 1 := kv_X1_placeOf.2
set_option maxHeartbeats 4000000 in
set_option maxRecDepth 100000 in
theorem c_X1_placeOf_1 (l : Launch) (D : va_G) (cI cZ : ClassId) (ad : Nat → Nat) (th : Int32) (N : Nat) (pa pe : Int32) (g0 g1 g2 : Nat → Int32) (hN : N ≤ 24) (x1 : Int32) (h1 : m_in x1 0 (nI (m_n g0 N) - 1) = false) : m_I l yX1_placeOf wsX1_placeOf ({ frames := 2, cells := 0, slots := 0, locals := 43 } : Room) D ([(cI, .int), (cZ, .boolean)]) (mw cI cZ ad th (nI N) pa pe g0 g1 g2) [.ref (ad 0), .int x1] 0 (mw cI cZ ad 1 (nI N) pa pe g0 g1 g2) := by
  refine m_startI (cc := cX1_placeOf) (maxL := 2) (rt := .int) (by decide) rfl (Nat.le_of_ble_eq_true rfl) ?_
  intro p e s m below meth c A hx hb hml hr hts hown hlocks hK hA H locs ls hP hD hS hl
  have hin : ∀ w ∈ wsX10, w ∈ wsX1_placeOf := by decide +kernel
  have hl : lv_has ls 2 [(0, .ref (ad 0)), (1, .int x1)] := hl
  refine lv_aload_n hx hb dX1_placeOf_0 rfl (lv_at hl 0 rfl) ?_
  refine lv_iconst (v := 0) hx hb dX1_placeOf_1 (by decide) ?_
  refine va_put (D := D) (ci := 1) (v := .int 0) (ty := .int) (C := RX1) (T := TX1) (N := 7) hx hb hts hin tyX1 tyX1_ok nmX1 hown hK hP hD hS 0 rfl rfl 0 (by decide) (hts (.fieldLink RX1 24 "SplicedTalkModel" "thrown" "I") (by decide +kernel)) (fun _ h9 => h9) rfl (by decide +kernel) rfl rfl (Nat.le_of_ble_eq_true rfl) dX1_placeOf_2 (fun H locs hP hD hS => ?_)
  have hP : va_P D vwCl (mw cI cZ ad 0 (nI N) pa pe g0 g1 g2) H := hP
  have hD : va_D A (mw cI cZ ad 0 (nI N) pa pe g0 g1 g2) := q_Dc (L := [ad 0, ad 1, ad 2, ad 3]) hD rfl rfl
  refine lv_aload_n hx hb dX1_placeOf_5 rfl (lv_at hl 0 rfl) ?_
  refine lv_iload_n hx hb dX1_placeOf_6 rfl (lv_at hl 1 rfl) ?_
  refine q_callV (As := [.int x1]) (rest := []) ⟨hx, hb, hml, hown, hts⟩ (c_X1_isWord l D cI cZ ad 0 N pa pe g0 g1 g2 hN x1) (cwV 1 hts gX1_placeOf_X1_isWord rfl rfl rfl kv_X1_isWord ⟨Nat.le_of_ble_eq_true rfl, Nat.le_of_ble_eq_true rfl⟩) (va_recv hK hP (ci := 1) (q0 := 0) rfl rfl) hP hK rfl hl.1 rfl (Nat.le_of_ble_eq_true rfl) dX1_placeOf_7 (Nat.zero_le _) (Nat.zero_le _) hS (fun H locs hsm hS => ?_)
  have hP := hsm.P hP
  refine lv_if_eq (tgt := 21) hx hb dX1_placeOf_10 (by decide) (fun c_10 => ?_) (fun h9 => absurd (bI_0.mpr h1) h9)
  refine lv_aload_n hx hb dX1_placeOf_21 rfl (lv_at hl 0 rfl) ?_
  refine lv_iconst (v := 1) hx hb dX1_placeOf_22 (by decide) ?_
  refine m_callVI (As := [.int 1]) (rest := []) (Wr := []) (W2 := (mw cI cZ ad 1 (nI N) pa pe g0 g1 g2)) ⟨hx, hb, hml, hown, hts⟩ (c_X1_fail l D cI cZ ad 0 N pa pe g0 g1 g2 hN 1) (cwV 1 hts gX1_placeOf_X1_fail rfl rfl rfl kv_X1_fail ⟨Nat.le_of_ble_eq_true rfl, Nat.le_of_ble_eq_true rfl⟩) (va_recv hK hP (ci := 1) (q0 := 0) rfl rfl) hP hD hK hA [0, 1, 2, 3] [] [0, 1, 2, 3] rfl rfl rfl rfl rfl (by decide) rfl rfl rfl hl.1 rfl (Nat.le_of_ble_eq_true rfl) dX1_placeOf_23 (Nat.zero_le _) (Nat.zero_le _) hS (fun H locs hP hS => ?_)
  have hD : va_D A (mw cI cZ ad 1 (nI N) pa pe g0 g1 g2) := q_Dc (L := [ad 0, ad 1, ad 2, ad 3]) hD rfl rfl
  exact m_retI hx hb hr hlocks hS hP rfl dX1_placeOf_26

set_option maxHeartbeats 4000000 in
set_option maxRecDepth 100000 in
theorem c_X1_placeOf_ok (l : Launch) (D : va_G) (cI cZ : ClassId) (ad : Nat → Nat) (th : Int32) (N : Nat) (pa pe : Int32) (g0 g1 g2 : Nat → Int32) (hN : N ≤ 24) (k : Nat) (hk : k < m_n g0 N) (h1 : m_in (nI k) 0 (nI (m_n g0 N) - 1) = true) : m_I l yX1_placeOf wsX1_placeOf ({ frames := 2, cells := 0, slots := 0, locals := 43 } : Room) D ([(cI, .int), (cZ, .boolean)]) (mw cI cZ ad th (nI N) pa pe g0 g1 g2) [.ref (ad 0), .int (nI k)] (nI (m_P g0 N k)) (mw cI cZ ad 0 (nI N) pa pe g0 g1 g2) := by
  refine m_startI (cc := cX1_placeOf) (maxL := 2) (rt := .int) (by decide) rfl (Nat.le_of_ble_eq_true rfl) ?_
  intro p e s m below meth c A hx hb hml hr hts hown hlocks hK hA H locs ls hP hD hS hl
  have hin : ∀ w ∈ wsX10, w ∈ wsX1_placeOf := by decide +kernel
  have hl : lv_has ls 2 [(0, .ref (ad 0)), (1, .int (nI k))] := hl
  refine lv_aload_n hx hb dX1_placeOf_0 rfl (lv_at hl 0 rfl) ?_
  refine lv_iconst (v := 0) hx hb dX1_placeOf_1 (by decide) ?_
  refine va_put (D := D) (ci := 1) (v := .int 0) (ty := .int) (C := RX1) (T := TX1) (N := 7) hx hb hts hin tyX1 tyX1_ok nmX1 hown hK hP hD hS 0 rfl rfl 0 (by decide) (hts (.fieldLink RX1 24 "SplicedTalkModel" "thrown" "I") (by decide +kernel)) (fun _ h9 => h9) rfl (by decide +kernel) rfl rfl (Nat.le_of_ble_eq_true rfl) dX1_placeOf_2 (fun H locs hP hD hS => ?_)
  have hP : va_P D vwCl (mw cI cZ ad 0 (nI N) pa pe g0 g1 g2) H := hP
  have hD : va_D A (mw cI cZ ad 0 (nI N) pa pe g0 g1 g2) := q_Dc (L := [ad 0, ad 1, ad 2, ad 3]) hD rfl rfl
  refine lv_aload_n hx hb dX1_placeOf_5 rfl (lv_at hl 0 rfl) ?_
  refine lv_iload_n hx hb dX1_placeOf_6 rfl (lv_at hl 1 rfl) ?_
  refine q_callV (As := [.int (nI k)]) (rest := []) ⟨hx, hb, hml, hown, hts⟩ (c_X1_isWord l D cI cZ ad 0 N pa pe g0 g1 g2 hN (nI k)) (cwV 1 hts gX1_placeOf_X1_isWord rfl rfl rfl kv_X1_isWord ⟨Nat.le_of_ble_eq_true rfl, Nat.le_of_ble_eq_true rfl⟩) (va_recv hK hP (ci := 1) (q0 := 0) rfl rfl) hP hK rfl hl.1 rfl (Nat.le_of_ble_eq_true rfl) dX1_placeOf_7 (Nat.zero_le _) (Nat.zero_le _) hS (fun H locs hsm hS => ?_)
  have hP := hsm.P hP
  refine lv_if_eq (tgt := 21) hx hb dX1_placeOf_10 (by decide) (fun h9 => absurd (h1.symm.trans (bI_0.mp h9)) (by decide)) (fun c_10 => ?_)
  refine lv_aload_n hx hb dX1_placeOf_13 rfl (lv_at hl 0 rfl) ?_
  refine lv_iload_n hx hb dX1_placeOf_14 rfl (lv_at hl 1 rfl) ?_
  refine q_callV (As := [.int (nI k)]) (rest := []) ⟨hx, hb, hml, hown, hts⟩ (c_X1_place l D cI cZ ad 0 N pa pe g0 g1 g2 hN k (by omega)) (cwV 1 hts gX1_placeOf_X1_place rfl rfl rfl kv_X1_place ⟨Nat.le_of_ble_eq_true rfl, Nat.le_of_ble_eq_true rfl⟩) (va_recv hK hP (ci := 1) (q0 := 0) rfl rfl) hP hK rfl hl.1 rfl (Nat.le_of_ble_eq_true rfl) dX1_placeOf_15 (Nat.zero_le _) (Nat.zero_le _) hS (fun H locs hsm hS => ?_)
  have hP := hsm.P hP
  refine lv_goto (tgt := 26) hx hb dX1_placeOf_18 (by decide) ?_
  exact m_retI hx hb hr hlocks hS hP rfl dX1_placeOf_26

theorem kv_X1_topicOf : yX1_topicOf.cls = RX1 ∧ yX1_topicOf.cls ≠ "java/lang/invoke/MethodHandle" ∧ yX1_topicOf.cls ≠ "java/lang/invoke/VarHandle" ∧ (parseMethodDescriptor yX1_topicOf.desc).map (fun d => d.parameters.length) = some 1 := by decide +kernel
theorem ks_X1_topicOf : yX1_topicOf.cls ≠ "java/lang/invoke/MethodHandle" ∧ yX1_topicOf.cls ≠ "java/lang/invoke/VarHandle" ∧ (parseMethodDescriptor yX1_topicOf.desc).map (fun d => d.parameters.length) = some 1 := kv_X1_topicOf.2
set_option maxHeartbeats 4000000 in
set_option maxRecDepth 100000 in
theorem c_X1_topicOf_1 (l : Launch) (D : va_G) (cI cZ : ClassId) (ad : Nat → Nat) (th : Int32) (N : Nat) (pa pe : Int32) (g0 g1 g2 : Nat → Int32) (hN : N ≤ 24) (x1 : Int32) (h1 : m_in x1 0 (nI (m_n g0 N) - 1) = false) : m_I l yX1_topicOf wsX1_topicOf ({ frames := 2, cells := 0, slots := 0, locals := 43 } : Room) D ([(cI, .int), (cZ, .boolean)]) (mw cI cZ ad th (nI N) pa pe g0 g1 g2) [.ref (ad 0), .int x1] 0 (mw cI cZ ad 1 (nI N) pa pe g0 g1 g2) := by
  refine m_startI (cc := cX1_topicOf) (maxL := 2) (rt := .int) (by decide) rfl (Nat.le_of_ble_eq_true rfl) ?_
  intro p e s m below meth c A hx hb hml hr hts hown hlocks hK hA H locs ls hP hD hS hl
  have hin : ∀ w ∈ wsX10, w ∈ wsX1_topicOf := by decide +kernel
  have hl : lv_has ls 2 [(0, .ref (ad 0)), (1, .int x1)] := hl
  refine lv_aload_n hx hb dX1_topicOf_0 rfl (lv_at hl 0 rfl) ?_
  refine lv_iconst (v := 0) hx hb dX1_topicOf_1 (by decide) ?_
  refine va_put (D := D) (ci := 1) (v := .int 0) (ty := .int) (C := RX1) (T := TX1) (N := 7) hx hb hts hin tyX1 tyX1_ok nmX1 hown hK hP hD hS 0 rfl rfl 0 (by decide) (hts (.fieldLink RX1 24 "SplicedTalkModel" "thrown" "I") (by decide +kernel)) (fun _ h9 => h9) rfl (by decide +kernel) rfl rfl (Nat.le_of_ble_eq_true rfl) dX1_topicOf_2 (fun H locs hP hD hS => ?_)
  have hP : va_P D vwCl (mw cI cZ ad 0 (nI N) pa pe g0 g1 g2) H := hP
  have hD : va_D A (mw cI cZ ad 0 (nI N) pa pe g0 g1 g2) := q_Dc (L := [ad 0, ad 1, ad 2, ad 3]) hD rfl rfl
  refine lv_aload_n hx hb dX1_topicOf_5 rfl (lv_at hl 0 rfl) ?_
  refine lv_iload_n hx hb dX1_topicOf_6 rfl (lv_at hl 1 rfl) ?_
  refine q_callV (As := [.int x1]) (rest := []) ⟨hx, hb, hml, hown, hts⟩ (c_X1_isWord l D cI cZ ad 0 N pa pe g0 g1 g2 hN x1) (cwV 1 hts gX1_topicOf_X1_isWord rfl rfl rfl kv_X1_isWord ⟨Nat.le_of_ble_eq_true rfl, Nat.le_of_ble_eq_true rfl⟩) (va_recv hK hP (ci := 1) (q0 := 0) rfl rfl) hP hK rfl hl.1 rfl (Nat.le_of_ble_eq_true rfl) dX1_topicOf_7 (Nat.zero_le _) (Nat.zero_le _) hS (fun H locs hsm hS => ?_)
  have hP := hsm.P hP
  refine lv_if_eq (tgt := 26) hx hb dX1_topicOf_10 (by decide) (fun c_10 => ?_) (fun h9 => absurd (bI_0.mpr h1) h9)
  refine lv_aload_n hx hb dX1_topicOf_26 rfl (lv_at hl 0 rfl) ?_
  refine lv_iconst (v := 1) hx hb dX1_topicOf_27 (by decide) ?_
  refine m_callVI (As := [.int 1]) (rest := []) (Wr := []) (W2 := (mw cI cZ ad 1 (nI N) pa pe g0 g1 g2)) ⟨hx, hb, hml, hown, hts⟩ (c_X1_fail l D cI cZ ad 0 N pa pe g0 g1 g2 hN 1) (cwV 1 hts gX1_topicOf_X1_fail rfl rfl rfl kv_X1_fail ⟨Nat.le_of_ble_eq_true rfl, Nat.le_of_ble_eq_true rfl⟩) (va_recv hK hP (ci := 1) (q0 := 0) rfl rfl) hP hD hK hA [0, 1, 2, 3] [] [0, 1, 2, 3] rfl rfl rfl rfl rfl (by decide) rfl rfl rfl hl.1 rfl (Nat.le_of_ble_eq_true rfl) dX1_topicOf_28 (Nat.zero_le _) (Nat.zero_le _) hS (fun H locs hP hS => ?_)
  have hD : va_D A (mw cI cZ ad 1 (nI N) pa pe g0 g1 g2) := q_Dc (L := [ad 0, ad 1, ad 2, ad 3]) hD rfl rfl
  exact m_retI hx hb hr hlocks hS hP rfl dX1_topicOf_31

set_option maxHeartbeats 4000000 in
set_option maxRecDepth 100000 in
theorem c_X1_topicOf_ok (l : Launch) (D : va_G) (cI cZ : ClassId) (ad : Nat → Nat) (th : Int32) (N : Nat) (pa pe : Int32) (g0 g1 g2 : Nat → Int32) (hN : N ≤ 24) (k : Nat) (hk : k < m_n g0 N) (h1 : m_in (nI k) 0 (nI (m_n g0 N) - 1) = true) : m_I l yX1_topicOf wsX1_topicOf ({ frames := 2, cells := 0, slots := 0, locals := 43 } : Room) D ([(cI, .int), (cZ, .boolean)]) (mw cI cZ ad th (nI N) pa pe g0 g1 g2) [.ref (ad 0), .int (nI k)] (g0 (m_P g0 N k)) (mw cI cZ ad 0 (nI N) pa pe g0 g1 g2) := by
  refine m_startI (cc := cX1_topicOf) (maxL := 2) (rt := .int) (by decide) rfl (Nat.le_of_ble_eq_true rfl) ?_
  intro p e s m below meth c A hx hb hml hr hts hown hlocks hK hA H locs ls hP hD hS hl
  have hin : ∀ w ∈ wsX10, w ∈ wsX1_topicOf := by decide +kernel
  have hl : lv_has ls 2 [(0, .ref (ad 0)), (1, .int (nI k))] := hl
  refine lv_aload_n hx hb dX1_topicOf_0 rfl (lv_at hl 0 rfl) ?_
  refine lv_iconst (v := 0) hx hb dX1_topicOf_1 (by decide) ?_
  refine va_put (D := D) (ci := 1) (v := .int 0) (ty := .int) (C := RX1) (T := TX1) (N := 7) hx hb hts hin tyX1 tyX1_ok nmX1 hown hK hP hD hS 0 rfl rfl 0 (by decide) (hts (.fieldLink RX1 24 "SplicedTalkModel" "thrown" "I") (by decide +kernel)) (fun _ h9 => h9) rfl (by decide +kernel) rfl rfl (Nat.le_of_ble_eq_true rfl) dX1_topicOf_2 (fun H locs hP hD hS => ?_)
  have hP : va_P D vwCl (mw cI cZ ad 0 (nI N) pa pe g0 g1 g2) H := hP
  have hD : va_D A (mw cI cZ ad 0 (nI N) pa pe g0 g1 g2) := q_Dc (L := [ad 0, ad 1, ad 2, ad 3]) hD rfl rfl
  refine lv_aload_n hx hb dX1_topicOf_5 rfl (lv_at hl 0 rfl) ?_
  refine lv_iload_n hx hb dX1_topicOf_6 rfl (lv_at hl 1 rfl) ?_
  refine q_callV (As := [.int (nI k)]) (rest := []) ⟨hx, hb, hml, hown, hts⟩ (c_X1_isWord l D cI cZ ad 0 N pa pe g0 g1 g2 hN (nI k)) (cwV 1 hts gX1_topicOf_X1_isWord rfl rfl rfl kv_X1_isWord ⟨Nat.le_of_ble_eq_true rfl, Nat.le_of_ble_eq_true rfl⟩) (va_recv hK hP (ci := 1) (q0 := 0) rfl rfl) hP hK rfl hl.1 rfl (Nat.le_of_ble_eq_true rfl) dX1_topicOf_7 (Nat.zero_le _) (Nat.zero_le _) hS (fun H locs hsm hS => ?_)
  have hP := hsm.P hP
  refine lv_if_eq (tgt := 26) hx hb dX1_topicOf_10 (by decide) (fun h9 => absurd (h1.symm.trans (bI_0.mp h9)) (by decide)) (fun c_10 => ?_)
  refine lv_aload_n hx hb dX1_topicOf_13 rfl (lv_at hl 0 rfl) ?_
  refine va_get (D := D) (ci := 1) (v := .ref (ad 1)) (C := RX1) (T := TX1) (N := 7) hx hb hts hin hown hK hP 0 rfl rfl 4 (by decide) (hts (.fieldLink RX1 13 "SplicedTalkModel" "topic" "[I") (by decide +kernel)) (fun _ h9 => h9) rfl dX1_topicOf_14 ?_
  refine lv_aload_n hx hb dX1_topicOf_17 rfl (lv_at hl 0 rfl) ?_
  refine lv_iload_n hx hb dX1_topicOf_18 rfl (lv_at hl 1 rfl) ?_
  refine q_callV (As := [.int (nI k)]) (rest := [.ref (ad 1)]) ⟨hx, hb, hml, hown, hts⟩ (c_X1_place l D cI cZ ad 0 N pa pe g0 g1 g2 hN k (by omega)) (cwV 1 hts gX1_topicOf_X1_place rfl rfl rfl kv_X1_place ⟨Nat.le_of_ble_eq_true rfl, Nat.le_of_ble_eq_true rfl⟩) (va_recv hK hP (ci := 1) (q0 := 0) rfl rfl) hP hK rfl hl.1 rfl (Nat.le_of_ble_eq_true rfl) dX1_topicOf_19 (Nat.zero_le _) (Nat.zero_le _) hS (fun H locs hsm hS => ?_)
  have hP := hsm.P hP
  refine va_iald hx hb hK hP 1 0 rfl rfl (vp_in_nI (by have := hN; have := m_P_lt (g0 := g0) (N := N) (k := k) (by omega); omega) (by decide)) dX1_topicOf_22 ?_
  rw [nI_clamp (by have := hN; have := m_P_lt (g0 := g0) (N := N) (k := k) (by omega); omega)]
  refine lv_goto (tgt := 31) hx hb dX1_topicOf_23 (by decide) ?_
  exact m_retI hx hb hr hlocks hS hP rfl dX1_topicOf_31

theorem kv_X1_threadOf : yX1_threadOf.cls = RX1 ∧ yX1_threadOf.cls ≠ "java/lang/invoke/MethodHandle" ∧ yX1_threadOf.cls ≠ "java/lang/invoke/VarHandle" ∧ (parseMethodDescriptor yX1_threadOf.desc).map (fun d => d.parameters.length) = some 1 := by decide +kernel
theorem ks_X1_threadOf : yX1_threadOf.cls ≠ "java/lang/invoke/MethodHandle" ∧ yX1_threadOf.cls ≠ "java/lang/invoke/VarHandle" ∧ (parseMethodDescriptor yX1_threadOf.desc).map (fun d => d.parameters.length) = some 1 := kv_X1_threadOf.2
set_option maxHeartbeats 4000000 in
set_option maxRecDepth 100000 in
theorem c_X1_threadOf_1 (l : Launch) (D : va_G) (cI cZ : ClassId) (ad : Nat → Nat) (th : Int32) (N : Nat) (pa pe : Int32) (g0 g1 g2 : Nat → Int32) (hN : N ≤ 24) (x1 : Int32) (h1 : m_in x1 0 (nI (m_n g0 N) - 1) = false) : m_I l yX1_threadOf wsX1_threadOf ({ frames := 2, cells := 0, slots := 0, locals := 43 } : Room) D ([(cI, .int), (cZ, .boolean)]) (mw cI cZ ad th (nI N) pa pe g0 g1 g2) [.ref (ad 0), .int x1] 0 (mw cI cZ ad 1 (nI N) pa pe g0 g1 g2) := by
  refine m_startI (cc := cX1_threadOf) (maxL := 2) (rt := .int) (by decide) rfl (Nat.le_of_ble_eq_true rfl) ?_
  intro p e s m below meth c A hx hb hml hr hts hown hlocks hK hA H locs ls hP hD hS hl
  have hin : ∀ w ∈ wsX10, w ∈ wsX1_threadOf := by decide +kernel
  have hl : lv_has ls 2 [(0, .ref (ad 0)), (1, .int x1)] := hl
  refine lv_aload_n hx hb dX1_threadOf_0 rfl (lv_at hl 0 rfl) ?_
  refine lv_iconst (v := 0) hx hb dX1_threadOf_1 (by decide) ?_
  refine va_put (D := D) (ci := 1) (v := .int 0) (ty := .int) (C := RX1) (T := TX1) (N := 7) hx hb hts hin tyX1 tyX1_ok nmX1 hown hK hP hD hS 0 rfl rfl 0 (by decide) (hts (.fieldLink RX1 24 "SplicedTalkModel" "thrown" "I") (by decide +kernel)) (fun _ h9 => h9) rfl (by decide +kernel) rfl rfl (Nat.le_of_ble_eq_true rfl) dX1_threadOf_2 (fun H locs hP hD hS => ?_)
  have hP : va_P D vwCl (mw cI cZ ad 0 (nI N) pa pe g0 g1 g2) H := hP
  have hD : va_D A (mw cI cZ ad 0 (nI N) pa pe g0 g1 g2) := q_Dc (L := [ad 0, ad 1, ad 2, ad 3]) hD rfl rfl
  refine lv_aload_n hx hb dX1_threadOf_5 rfl (lv_at hl 0 rfl) ?_
  refine lv_iload_n hx hb dX1_threadOf_6 rfl (lv_at hl 1 rfl) ?_
  refine q_callV (As := [.int x1]) (rest := []) ⟨hx, hb, hml, hown, hts⟩ (c_X1_isWord l D cI cZ ad 0 N pa pe g0 g1 g2 hN x1) (cwV 1 hts gX1_threadOf_X1_isWord rfl rfl rfl kv_X1_isWord ⟨Nat.le_of_ble_eq_true rfl, Nat.le_of_ble_eq_true rfl⟩) (va_recv hK hP (ci := 1) (q0 := 0) rfl rfl) hP hK rfl hl.1 rfl (Nat.le_of_ble_eq_true rfl) dX1_threadOf_7 (Nat.zero_le _) (Nat.zero_le _) hS (fun H locs hsm hS => ?_)
  have hP := hsm.P hP
  refine lv_if_eq (tgt := 21) hx hb dX1_threadOf_10 (by decide) (fun c_10 => ?_) (fun h9 => absurd (bI_0.mpr h1) h9)
  refine lv_aload_n hx hb dX1_threadOf_21 rfl (lv_at hl 0 rfl) ?_
  refine lv_iconst (v := 1) hx hb dX1_threadOf_22 (by decide) ?_
  refine m_callVI (As := [.int 1]) (rest := []) (Wr := []) (W2 := (mw cI cZ ad 1 (nI N) pa pe g0 g1 g2)) ⟨hx, hb, hml, hown, hts⟩ (c_X1_fail l D cI cZ ad 0 N pa pe g0 g1 g2 hN 1) (cwV 1 hts gX1_threadOf_X1_fail rfl rfl rfl kv_X1_fail ⟨Nat.le_of_ble_eq_true rfl, Nat.le_of_ble_eq_true rfl⟩) (va_recv hK hP (ci := 1) (q0 := 0) rfl rfl) hP hD hK hA [0, 1, 2, 3] [] [0, 1, 2, 3] rfl rfl rfl rfl rfl (by decide) rfl rfl rfl hl.1 rfl (Nat.le_of_ble_eq_true rfl) dX1_threadOf_23 (Nat.zero_le _) (Nat.zero_le _) hS (fun H locs hP hS => ?_)
  have hD : va_D A (mw cI cZ ad 1 (nI N) pa pe g0 g1 g2) := q_Dc (L := [ad 0, ad 1, ad 2, ad 3]) hD rfl rfl
  exact m_retI hx hb hr hlocks hS hP rfl dX1_threadOf_26

set_option maxHeartbeats 4000000 in
set_option maxRecDepth 100000 in
theorem c_X1_threadOf_ok (l : Launch) (D : va_G) (cI cZ : ClassId) (ad : Nat → Nat) (th : Int32) (N : Nat) (pa pe : Int32) (g0 g1 g2 : Nat → Int32) (hN : N ≤ 24) (k : Nat) (hk : k < m_n g0 N) (h1 : m_in (nI k) 0 (nI (m_n g0 N) - 1) = true) : m_I l yX1_threadOf wsX1_threadOf ({ frames := 6, cells := 0, slots := 0, locals := 130 } : Room) D ([(cI, .int), (cZ, .boolean)]) (mw cI cZ ad th (nI N) pa pe g0 g1 g2) [.ref (ad 0), .int (nI k)] (nI (m_th g0 g1 g2 N k)) (mw cI cZ ad 0 (nI N) pa pe g0 g1 g2) := by
  refine m_startI (cc := cX1_threadOf) (maxL := 2) (rt := .int) (by decide) rfl (Nat.le_of_ble_eq_true rfl) ?_
  intro p e s m below meth c A hx hb hml hr hts hown hlocks hK hA H locs ls hP hD hS hl
  have hin : ∀ w ∈ wsX10, w ∈ wsX1_threadOf := by decide +kernel
  have hl : lv_has ls 2 [(0, .ref (ad 0)), (1, .int (nI k))] := hl
  refine lv_aload_n hx hb dX1_threadOf_0 rfl (lv_at hl 0 rfl) ?_
  refine lv_iconst (v := 0) hx hb dX1_threadOf_1 (by decide) ?_
  refine va_put (D := D) (ci := 1) (v := .int 0) (ty := .int) (C := RX1) (T := TX1) (N := 7) hx hb hts hin tyX1 tyX1_ok nmX1 hown hK hP hD hS 0 rfl rfl 0 (by decide) (hts (.fieldLink RX1 24 "SplicedTalkModel" "thrown" "I") (by decide +kernel)) (fun _ h9 => h9) rfl (by decide +kernel) rfl rfl (Nat.le_of_ble_eq_true rfl) dX1_threadOf_2 (fun H locs hP hD hS => ?_)
  have hP : va_P D vwCl (mw cI cZ ad 0 (nI N) pa pe g0 g1 g2) H := hP
  have hD : va_D A (mw cI cZ ad 0 (nI N) pa pe g0 g1 g2) := q_Dc (L := [ad 0, ad 1, ad 2, ad 3]) hD rfl rfl
  refine lv_aload_n hx hb dX1_threadOf_5 rfl (lv_at hl 0 rfl) ?_
  refine lv_iload_n hx hb dX1_threadOf_6 rfl (lv_at hl 1 rfl) ?_
  refine q_callV (As := [.int (nI k)]) (rest := []) ⟨hx, hb, hml, hown, hts⟩ (c_X1_isWord l D cI cZ ad 0 N pa pe g0 g1 g2 hN (nI k)) (cwV 1 hts gX1_threadOf_X1_isWord rfl rfl rfl kv_X1_isWord ⟨Nat.le_of_ble_eq_true rfl, Nat.le_of_ble_eq_true rfl⟩) (va_recv hK hP (ci := 1) (q0 := 0) rfl rfl) hP hK rfl hl.1 rfl (Nat.le_of_ble_eq_true rfl) dX1_threadOf_7 (Nat.zero_le _) (Nat.zero_le _) hS (fun H locs hsm hS => ?_)
  have hP := hsm.P hP
  refine lv_if_eq (tgt := 21) hx hb dX1_threadOf_10 (by decide) (fun h9 => absurd (h1.symm.trans (bI_0.mp h9)) (by decide)) (fun c_10 => ?_)
  refine lv_aload_n hx hb dX1_threadOf_13 rfl (lv_at hl 0 rfl) ?_
  refine lv_iload_n hx hb dX1_threadOf_14 rfl (lv_at hl 1 rfl) ?_
  refine q_callV (As := [.int (nI k)]) (rest := []) ⟨hx, hb, hml, hown, hts⟩ (c_X1_thread l D cI cZ ad 0 N pa pe g0 g1 g2 hN k (by omega)) (cwV 1 hts gX1_threadOf_X1_thread rfl rfl rfl kv_X1_thread ⟨Nat.le_of_ble_eq_true rfl, Nat.le_of_ble_eq_true rfl⟩) (va_recv hK hP (ci := 1) (q0 := 0) rfl rfl) hP hK rfl hl.1 rfl (Nat.le_of_ble_eq_true rfl) dX1_threadOf_15 (Nat.zero_le _) (Nat.zero_le _) hS (fun H locs hsm hS => ?_)
  have hP := hsm.P hP
  refine lv_goto (tgt := 26) hx hb dX1_threadOf_18 (by decide) ?_
  exact m_retI hx hb hr hlocks hS hP rfl dX1_threadOf_26

theorem kv_X1_gap : yX1_gap.cls = RX1 ∧ yX1_gap.cls ≠ "java/lang/invoke/MethodHandle" ∧ yX1_gap.cls ≠ "java/lang/invoke/VarHandle" ∧ (parseMethodDescriptor yX1_gap.desc).map (fun d => d.parameters.length) = some 1 := by decide +kernel
theorem ks_X1_gap : yX1_gap.cls ≠ "java/lang/invoke/MethodHandle" ∧ yX1_gap.cls ≠ "java/lang/invoke/VarHandle" ∧ (parseMethodDescriptor yX1_gap.desc).map (fun d => d.parameters.length) = some 1 := kv_X1_gap.2
set_option maxHeartbeats 4000000 in
set_option maxRecDepth 100000 in
theorem c_X1_gap_1 (l : Launch) (D : va_G) (cI cZ : ClassId) (ad : Nat → Nat) (th : Int32) (N : Nat) (pa pe : Int32) (g0 g1 g2 : Nat → Int32) (hN : N ≤ 24) (x1 : Int32) (h1 : m_in x1 0 (nI (m_n g0 N) - 2) = false) : m_I l yX1_gap wsX1_gap ({ frames := 2, cells := 0, slots := 0, locals := 43 } : Room) D ([(cI, .int), (cZ, .boolean)]) (mw cI cZ ad th (nI N) pa pe g0 g1 g2) [.ref (ad 0), .int x1] 0 (mw cI cZ ad 1 (nI N) pa pe g0 g1 g2) := by
  refine m_startI (cc := cX1_gap) (maxL := 2) (rt := .boolean) (by decide) rfl (Nat.le_of_ble_eq_true rfl) ?_
  intro p e s m below meth c A hx hb hml hr hts hown hlocks hK hA H locs ls hP hD hS hl
  have hin : ∀ w ∈ wsX10, w ∈ wsX1_gap := by decide +kernel
  have hl : lv_has ls 2 [(0, .ref (ad 0)), (1, .int x1)] := hl
  refine lv_aload_n hx hb dX1_gap_0 rfl (lv_at hl 0 rfl) ?_
  refine lv_aload_n hx hb dX1_gap_1 rfl (lv_at hl 0 rfl) ?_
  refine lv_iload_n hx hb dX1_gap_2 rfl (lv_at hl 1 rfl) ?_
  refine q_callV (As := [.int x1]) (rest := [.ref (ad 0)]) ⟨hx, hb, hml, hown, hts⟩ (c_X1_isGap l D cI cZ ad th N pa pe g0 g1 g2 hN x1) (cwV 1 hts gX1_gap_X1_isGap rfl rfl rfl kv_X1_isGap ⟨Nat.le_of_ble_eq_true rfl, Nat.le_of_ble_eq_true rfl⟩) (va_recv hK hP (ci := 1) (q0 := 0) rfl rfl) hP hK rfl hl.1 rfl (Nat.le_of_ble_eq_true rfl) dX1_gap_3 (Nat.zero_le _) (Nat.zero_le _) hS (fun H locs hsm hS => ?_)
  have hP := hsm.P hP
  refine lv_if_eq (tgt := 13) hx hb dX1_gap_6 (by decide) (fun c_6 => ?_) (fun h9 => absurd (bI_0.mpr h1) h9)
  refine lv_iconst (v := 1) hx hb dX1_gap_13 (by decide) ?_
  refine va_put (D := D) (ci := 1) (v := .int 1) (ty := .int) (C := RX1) (T := TX1) (N := 7) hx hb hts hin tyX1 tyX1_ok nmX1 hown hK hP hD hS 0 rfl rfl 0 (by decide) (hts (.fieldLink RX1 24 "SplicedTalkModel" "thrown" "I") (by decide +kernel)) (fun _ h9 => h9) rfl (by decide +kernel) rfl rfl (Nat.le_of_ble_eq_true rfl) dX1_gap_14 (fun H locs hP hD hS => ?_)
  have hP : va_P D vwCl (mw cI cZ ad 1 (nI N) pa pe g0 g1 g2) H := hP
  have hD : va_D A (mw cI cZ ad 1 (nI N) pa pe g0 g1 g2) := q_Dc (L := [ad 0, ad 1, ad 2, ad 3]) hD rfl rfl
  refine lv_aload_n hx hb dX1_gap_17 rfl (lv_at hl 0 rfl) ?_
  refine va_get (D := D) (ci := 1) (v := .int 1) (C := RX1) (T := TX1) (N := 7) hx hb hts hin hown hK hP 0 rfl rfl 0 (by decide) (hts (.fieldLink RX1 24 "SplicedTalkModel" "thrown" "I") (by decide +kernel)) (fun _ h9 => h9) rfl dX1_gap_18 ?_
  refine lv_if_ne (tgt := 28) hx hb dX1_gap_21 (by decide) (fun _ => ?_) (fun h9 => absurd h9 (by decide))
  refine lv_iconst (v := 0) hx hb dX1_gap_28 (by decide) ?_
  exact m_retZ hx hb hr hlocks hS hP rfl (Or.inl rfl) dX1_gap_29

set_option maxHeartbeats 4000000 in
set_option maxRecDepth 100000 in
theorem c_X1_gap_ok (l : Launch) (D : va_G) (cI cZ : ClassId) (ad : Nat → Nat) (th : Int32) (N : Nat) (pa pe : Int32) (g0 g1 g2 : Nat → Int32) (hN : N ≤ 24) (x1 : Int32) (h1 : m_in x1 0 (nI (m_n g0 N) - 2) = true) : m_I l yX1_gap wsX1_gap ({ frames := 2, cells := 0, slots := 0, locals := 43 } : Room) D ([(cI, .int), (cZ, .boolean)]) (mw cI cZ ad th (nI N) pa pe g0 g1 g2) [.ref (ad 0), .int x1] 1 (mw cI cZ ad 0 (nI N) pa pe g0 g1 g2) := by
  refine m_startI (cc := cX1_gap) (maxL := 2) (rt := .boolean) (by decide) rfl (Nat.le_of_ble_eq_true rfl) ?_
  intro p e s m below meth c A hx hb hml hr hts hown hlocks hK hA H locs ls hP hD hS hl
  have hin : ∀ w ∈ wsX10, w ∈ wsX1_gap := by decide +kernel
  have hl : lv_has ls 2 [(0, .ref (ad 0)), (1, .int x1)] := hl
  refine lv_aload_n hx hb dX1_gap_0 rfl (lv_at hl 0 rfl) ?_
  refine lv_aload_n hx hb dX1_gap_1 rfl (lv_at hl 0 rfl) ?_
  refine lv_iload_n hx hb dX1_gap_2 rfl (lv_at hl 1 rfl) ?_
  refine q_callV (As := [.int x1]) (rest := [.ref (ad 0)]) ⟨hx, hb, hml, hown, hts⟩ (c_X1_isGap l D cI cZ ad th N pa pe g0 g1 g2 hN x1) (cwV 1 hts gX1_gap_X1_isGap rfl rfl rfl kv_X1_isGap ⟨Nat.le_of_ble_eq_true rfl, Nat.le_of_ble_eq_true rfl⟩) (va_recv hK hP (ci := 1) (q0 := 0) rfl rfl) hP hK rfl hl.1 rfl (Nat.le_of_ble_eq_true rfl) dX1_gap_3 (Nat.zero_le _) (Nat.zero_le _) hS (fun H locs hsm hS => ?_)
  have hP := hsm.P hP
  refine lv_if_eq (tgt := 13) hx hb dX1_gap_6 (by decide) (fun h9 => absurd (h1.symm.trans (bI_0.mp h9)) (by decide)) (fun c_6 => ?_)
  refine lv_iconst (v := 0) hx hb dX1_gap_9 (by decide) ?_
  refine lv_goto (tgt := 14) hx hb dX1_gap_10 (by decide) ?_
  refine va_put (D := D) (ci := 1) (v := .int 0) (ty := .int) (C := RX1) (T := TX1) (N := 7) hx hb hts hin tyX1 tyX1_ok nmX1 hown hK hP hD hS 0 rfl rfl 0 (by decide) (hts (.fieldLink RX1 24 "SplicedTalkModel" "thrown" "I") (by decide +kernel)) (fun _ h9 => h9) rfl (by decide +kernel) rfl rfl (Nat.le_of_ble_eq_true rfl) dX1_gap_14 (fun H locs hP hD hS => ?_)
  have hP : va_P D vwCl (mw cI cZ ad 0 (nI N) pa pe g0 g1 g2) H := hP
  have hD : va_D A (mw cI cZ ad 0 (nI N) pa pe g0 g1 g2) := q_Dc (L := [ad 0, ad 1, ad 2, ad 3]) hD rfl rfl
  refine lv_aload_n hx hb dX1_gap_17 rfl (lv_at hl 0 rfl) ?_
  refine va_get (D := D) (ci := 1) (v := .int 0) (C := RX1) (T := TX1) (N := 7) hx hb hts hin hown hK hP 0 rfl rfl 0 (by decide) (hts (.fieldLink RX1 24 "SplicedTalkModel" "thrown" "I") (by decide +kernel)) (fun _ h9 => h9) rfl dX1_gap_18 ?_
  refine lv_if_ne (tgt := 28) hx hb dX1_gap_21 (by decide) (fun h9 => absurd (by decide) h9) (fun _ => ?_)
  refine lv_iconst (v := 1) hx hb dX1_gap_24 (by decide) ?_
  refine lv_goto (tgt := 29) hx hb dX1_gap_25 (by decide) ?_
  exact m_retZ hx hb hr hlocks hS hP rfl (Or.inr rfl) dX1_gap_29

theorem kv_X1_coughsIn : yX1_coughsIn.cls = RX1 ∧ yX1_coughsIn.cls ≠ "java/lang/invoke/MethodHandle" ∧ yX1_coughsIn.cls ≠ "java/lang/invoke/VarHandle" ∧ (parseMethodDescriptor yX1_coughsIn.desc).map (fun d => d.parameters.length) = some 1 := by decide +kernel
theorem ks_X1_coughsIn : yX1_coughsIn.cls ≠ "java/lang/invoke/MethodHandle" ∧ yX1_coughsIn.cls ≠ "java/lang/invoke/VarHandle" ∧ (parseMethodDescriptor yX1_coughsIn.desc).map (fun d => d.parameters.length) = some 1 := kv_X1_coughsIn.2
set_option maxHeartbeats 4000000 in
set_option maxRecDepth 100000 in
theorem c_X1_coughsIn_1 (l : Launch) (D : va_G) (cI cZ : ClassId) (ad : Nat → Nat) (th : Int32) (N : Nat) (pa pe : Int32) (g0 g1 g2 : Nat → Int32) (hN : N ≤ 24) (x1 : Int32) (h1 : m_in x1 0 (nI (m_n g0 N) - 2) = false) : m_I l yX1_coughsIn wsX1_coughsIn ({ frames := 3, cells := 0, slots := 0, locals := 64 } : Room) D ([(cI, .int), (cZ, .boolean)]) (mw cI cZ ad th (nI N) pa pe g0 g1 g2) [.ref (ad 0), .int x1] 0 (mw cI cZ ad 1 (nI N) pa pe g0 g1 g2) := by
  refine m_startI (cc := cX1_coughsIn) (maxL := 2) (rt := .int) (by decide) rfl (Nat.le_of_ble_eq_true rfl) ?_
  intro p e s m below meth c A hx hb hml hr hts hown hlocks hK hA H locs ls hP hD hS hl
  have hin : ∀ w ∈ wsX10, w ∈ wsX1_coughsIn := by decide +kernel
  have hl : lv_has ls 2 [(0, .ref (ad 0)), (1, .int x1)] := hl
  refine lv_aload_n hx hb dX1_coughsIn_0 rfl (lv_at hl 0 rfl) ?_
  refine lv_iload_n hx hb dX1_coughsIn_1 rfl (lv_at hl 1 rfl) ?_
  refine m_callVI (As := [.int x1]) (rest := []) (Wr := []) (W2 := (mw cI cZ ad 1 (nI N) pa pe g0 g1 g2)) ⟨hx, hb, hml, hown, hts⟩ (c_X1_gap_1 l D cI cZ ad th N pa pe g0 g1 g2 hN x1 h1) (cwV 1 hts gX1_coughsIn_X1_gap rfl rfl rfl kv_X1_gap ⟨Nat.le_of_ble_eq_true rfl, Nat.le_of_ble_eq_true rfl⟩) (va_recv hK hP (ci := 1) (q0 := 0) rfl rfl) hP hD hK hA [0, 1, 2, 3] [] [0, 1, 2, 3] rfl rfl rfl rfl rfl (by decide) rfl rfl rfl hl.1 rfl (Nat.le_of_ble_eq_true rfl) dX1_coughsIn_2 (Nat.zero_le _) (Nat.zero_le _) hS (fun H locs hP hS => ?_)
  have hD : va_D A (mw cI cZ ad 1 (nI N) pa pe g0 g1 g2) := q_Dc (L := [ad 0, ad 1, ad 2, ad 3]) hD rfl rfl
  refine lv_if_eq (tgt := 16) hx hb dX1_coughsIn_5 (by decide) (fun _ => ?_) (fun h9 => absurd (by decide) h9)
  refine lv_iconst (v := 0) hx hb dX1_coughsIn_16 (by decide) ?_
  exact m_retI hx hb hr hlocks hS hP rfl dX1_coughsIn_17

set_option maxHeartbeats 4000000 in
set_option maxRecDepth 100000 in
theorem c_X1_coughsIn_ok (l : Launch) (D : va_G) (cI cZ : ClassId) (ad : Nat → Nat) (th : Int32) (N : Nat) (pa pe : Int32) (g0 g1 g2 : Nat → Int32) (hN : N ≤ 24) (g : Nat) (hg : g + 1 < m_n g0 N) (h1 : m_in (nI g) 0 (nI (m_n g0 N) - 2) = true) : m_I l yX1_coughsIn wsX1_coughsIn ({ frames := 3, cells := 0, slots := 0, locals := 65 } : Room) D ([(cI, .int), (cZ, .boolean)]) (mw cI cZ ad th (nI N) pa pe g0 g1 g2) [.ref (ad 0), .int (nI g)] (m_cg g0 N g) (mw cI cZ ad 0 (nI N) pa pe g0 g1 g2) := by
  refine m_startI (cc := cX1_coughsIn) (maxL := 2) (rt := .int) (by decide) rfl (Nat.le_of_ble_eq_true rfl) ?_
  intro p e s m below meth c A hx hb hml hr hts hown hlocks hK hA H locs ls hP hD hS hl
  have hin : ∀ w ∈ wsX10, w ∈ wsX1_coughsIn := by decide +kernel
  have hl : lv_has ls 2 [(0, .ref (ad 0)), (1, .int (nI g))] := hl
  refine lv_aload_n hx hb dX1_coughsIn_0 rfl (lv_at hl 0 rfl) ?_
  refine lv_iload_n hx hb dX1_coughsIn_1 rfl (lv_at hl 1 rfl) ?_
  refine m_callVI (As := [.int (nI g)]) (rest := []) (Wr := []) (W2 := (mw cI cZ ad 0 (nI N) pa pe g0 g1 g2)) ⟨hx, hb, hml, hown, hts⟩ (c_X1_gap_ok l D cI cZ ad th N pa pe g0 g1 g2 hN (nI g) h1) (cwV 1 hts gX1_coughsIn_X1_gap rfl rfl rfl kv_X1_gap ⟨Nat.le_of_ble_eq_true rfl, Nat.le_of_ble_eq_true rfl⟩) (va_recv hK hP (ci := 1) (q0 := 0) rfl rfl) hP hD hK hA [0, 1, 2, 3] [] [0, 1, 2, 3] rfl rfl rfl rfl rfl (by decide) rfl rfl rfl hl.1 rfl (Nat.le_of_ble_eq_true rfl) dX1_coughsIn_2 (Nat.zero_le _) (Nat.zero_le _) hS (fun H locs hP hS => ?_)
  have hD : va_D A (mw cI cZ ad 0 (nI N) pa pe g0 g1 g2) := q_Dc (L := [ad 0, ad 1, ad 2, ad 3]) hD rfl rfl
  refine lv_if_eq (tgt := 16) hx hb dX1_coughsIn_5 (by decide) (fun h9 => absurd h9 (by decide)) (fun _ => ?_)
  refine lv_aload_n hx hb dX1_coughsIn_8 rfl (lv_at hl 0 rfl) ?_
  refine lv_iload_n hx hb dX1_coughsIn_9 rfl (lv_at hl 1 rfl) ?_
  refine q_callV (As := [.int (nI g)]) (rest := []) ⟨hx, hb, hml, hown, hts⟩ (c_X1_coughsOf l D cI cZ ad 0 N pa pe g0 g1 g2 hN g (by omega)) (cwV 1 hts gX1_coughsIn_X1_coughsOf rfl rfl rfl kv_X1_coughsOf ⟨Nat.le_of_ble_eq_true rfl, Nat.le_of_ble_eq_true rfl⟩) (va_recv hK hP (ci := 1) (q0 := 0) rfl rfl) hP hK rfl hl.1 rfl (Nat.le_of_ble_eq_true rfl) dX1_coughsIn_10 (Nat.zero_le _) (Nat.zero_le _) hS (fun H locs hsm hS => ?_)
  have hP := hsm.P hP
  refine lv_goto (tgt := 17) hx hb dX1_coughsIn_13 (by decide) ?_
  exact m_retI hx hb hr hlocks hS hP rfl dX1_coughsIn_17

theorem kv_X1_strainOf : yX1_strainOf.cls = RX1 ∧ yX1_strainOf.cls ≠ "java/lang/invoke/MethodHandle" ∧ yX1_strainOf.cls ≠ "java/lang/invoke/VarHandle" ∧ (parseMethodDescriptor yX1_strainOf.desc).map (fun d => d.parameters.length) = some 1 := by decide +kernel
theorem ks_X1_strainOf : yX1_strainOf.cls ≠ "java/lang/invoke/MethodHandle" ∧ yX1_strainOf.cls ≠ "java/lang/invoke/VarHandle" ∧ (parseMethodDescriptor yX1_strainOf.desc).map (fun d => d.parameters.length) = some 1 := kv_X1_strainOf.2
set_option maxHeartbeats 4000000 in
set_option maxRecDepth 100000 in
theorem c_X1_strainOf_1 (l : Launch) (D : va_G) (cI cZ : ClassId) (ad : Nat → Nat) (th : Int32) (N : Nat) (pa pe : Int32) (g0 g1 g2 : Nat → Int32) (hN : N ≤ 24) (x1 : Int32) (h1 : m_in x1 0 (nI (m_n g0 N) - 2) = false) : m_I l yX1_strainOf wsX1_strainOf ({ frames := 3, cells := 0, slots := 0, locals := 64 } : Room) D ([(cI, .int), (cZ, .boolean)]) (mw cI cZ ad th (nI N) pa pe g0 g1 g2) [.ref (ad 0), .int x1] 0 (mw cI cZ ad 1 (nI N) pa pe g0 g1 g2) := by
  refine m_startI (cc := cX1_strainOf) (maxL := 2) (rt := .int) (by decide) rfl (Nat.le_of_ble_eq_true rfl) ?_
  intro p e s m below meth c A hx hb hml hr hts hown hlocks hK hA H locs ls hP hD hS hl
  have hin : ∀ w ∈ wsX10, w ∈ wsX1_strainOf := by decide +kernel
  have hl : lv_has ls 2 [(0, .ref (ad 0)), (1, .int x1)] := hl
  refine lv_aload_n hx hb dX1_strainOf_0 rfl (lv_at hl 0 rfl) ?_
  refine lv_iload_n hx hb dX1_strainOf_1 rfl (lv_at hl 1 rfl) ?_
  refine m_callVI (As := [.int x1]) (rest := []) (Wr := []) (W2 := (mw cI cZ ad 1 (nI N) pa pe g0 g1 g2)) ⟨hx, hb, hml, hown, hts⟩ (c_X1_gap_1 l D cI cZ ad th N pa pe g0 g1 g2 hN x1 h1) (cwV 1 hts gX1_strainOf_X1_gap rfl rfl rfl kv_X1_gap ⟨Nat.le_of_ble_eq_true rfl, Nat.le_of_ble_eq_true rfl⟩) (va_recv hK hP (ci := 1) (q0 := 0) rfl rfl) hP hD hK hA [0, 1, 2, 3] [] [0, 1, 2, 3] rfl rfl rfl rfl rfl (by decide) rfl rfl rfl hl.1 rfl (Nat.le_of_ble_eq_true rfl) dX1_strainOf_2 (Nat.zero_le _) (Nat.zero_le _) hS (fun H locs hP hS => ?_)
  have hD : va_D A (mw cI cZ ad 1 (nI N) pa pe g0 g1 g2) := q_Dc (L := [ad 0, ad 1, ad 2, ad 3]) hD rfl rfl
  refine lv_if_eq (tgt := 16) hx hb dX1_strainOf_5 (by decide) (fun _ => ?_) (fun h9 => absurd (by decide) h9)
  refine lv_iconst (v := 0) hx hb dX1_strainOf_16 (by decide) ?_
  exact m_retI hx hb hr hlocks hS hP rfl dX1_strainOf_17

set_option maxHeartbeats 4000000 in
set_option maxRecDepth 100000 in
theorem c_X1_strainOf_ok (l : Launch) (D : va_G) (cI cZ : ClassId) (ad : Nat → Nat) (th : Int32) (N : Nat) (pa pe : Int32) (g0 g1 g2 : Nat → Int32) (hN : N ≤ 24) (g : Nat) (hg : g + 1 < m_n g0 N) (h1 : m_in (nI g) 0 (nI (m_n g0 N) - 2) = true) : m_I l yX1_strainOf wsX1_strainOf ({ frames := 4, cells := 0, slots := 0, locals := 86 } : Room) D ([(cI, .int), (cZ, .boolean)]) (mw cI cZ ad th (nI N) pa pe g0 g1 g2) [.ref (ad 0), .int (nI g)] (m_st g0 N g) (mw cI cZ ad 0 (nI N) pa pe g0 g1 g2) := by
  refine m_startI (cc := cX1_strainOf) (maxL := 2) (rt := .int) (by decide) rfl (Nat.le_of_ble_eq_true rfl) ?_
  intro p e s m below meth c A hx hb hml hr hts hown hlocks hK hA H locs ls hP hD hS hl
  have hin : ∀ w ∈ wsX10, w ∈ wsX1_strainOf := by decide +kernel
  have hl : lv_has ls 2 [(0, .ref (ad 0)), (1, .int (nI g))] := hl
  refine lv_aload_n hx hb dX1_strainOf_0 rfl (lv_at hl 0 rfl) ?_
  refine lv_iload_n hx hb dX1_strainOf_1 rfl (lv_at hl 1 rfl) ?_
  refine m_callVI (As := [.int (nI g)]) (rest := []) (Wr := []) (W2 := (mw cI cZ ad 0 (nI N) pa pe g0 g1 g2)) ⟨hx, hb, hml, hown, hts⟩ (c_X1_gap_ok l D cI cZ ad th N pa pe g0 g1 g2 hN (nI g) h1) (cwV 1 hts gX1_strainOf_X1_gap rfl rfl rfl kv_X1_gap ⟨Nat.le_of_ble_eq_true rfl, Nat.le_of_ble_eq_true rfl⟩) (va_recv hK hP (ci := 1) (q0 := 0) rfl rfl) hP hD hK hA [0, 1, 2, 3] [] [0, 1, 2, 3] rfl rfl rfl rfl rfl (by decide) rfl rfl rfl hl.1 rfl (Nat.le_of_ble_eq_true rfl) dX1_strainOf_2 (Nat.zero_le _) (Nat.zero_le _) hS (fun H locs hP hS => ?_)
  have hD : va_D A (mw cI cZ ad 0 (nI N) pa pe g0 g1 g2) := q_Dc (L := [ad 0, ad 1, ad 2, ad 3]) hD rfl rfl
  refine lv_if_eq (tgt := 16) hx hb dX1_strainOf_5 (by decide) (fun h9 => absurd h9 (by decide)) (fun _ => ?_)
  refine lv_aload_n hx hb dX1_strainOf_8 rfl (lv_at hl 0 rfl) ?_
  refine lv_iload_n hx hb dX1_strainOf_9 rfl (lv_at hl 1 rfl) ?_
  refine q_callV (As := [.int (nI g)]) (rest := []) ⟨hx, hb, hml, hown, hts⟩ (c_X1_strain l D cI cZ ad 0 N pa pe g0 g1 g2 hN g (by omega)) (cwV 1 hts gX1_strainOf_X1_strain rfl rfl rfl kv_X1_strain ⟨Nat.le_of_ble_eq_true rfl, Nat.le_of_ble_eq_true rfl⟩) (va_recv hK hP (ci := 1) (q0 := 0) rfl rfl) hP hK rfl hl.1 rfl (Nat.le_of_ble_eq_true rfl) dX1_strainOf_10 (Nat.zero_le _) (Nat.zero_le _) hS (fun H locs hsm hS => ?_)
  have hP := hsm.P hP
  refine lv_goto (tgt := 17) hx hb dX1_strainOf_13 (by decide) ?_
  exact m_retI hx hb hr hlocks hS hP rfl dX1_strainOf_17

theorem kv_X1_isTied : yX1_isTied.cls = RX1 ∧ yX1_isTied.cls ≠ "java/lang/invoke/MethodHandle" ∧ yX1_isTied.cls ≠ "java/lang/invoke/VarHandle" ∧ (parseMethodDescriptor yX1_isTied.desc).map (fun d => d.parameters.length) = some 1 := by decide +kernel
theorem ks_X1_isTied : yX1_isTied.cls ≠ "java/lang/invoke/MethodHandle" ∧ yX1_isTied.cls ≠ "java/lang/invoke/VarHandle" ∧ (parseMethodDescriptor yX1_isTied.desc).map (fun d => d.parameters.length) = some 1 := kv_X1_isTied.2
set_option maxHeartbeats 4000000 in
set_option maxRecDepth 100000 in
theorem c_X1_isTied_1 (l : Launch) (D : va_G) (cI cZ : ClassId) (ad : Nat → Nat) (th : Int32) (N : Nat) (pa pe : Int32) (g0 g1 g2 : Nat → Int32) (hN : N ≤ 24) (x1 : Int32) (h1 : m_in x1 0 (nI (m_n g0 N) - 2) = false) : m_I l yX1_isTied wsX1_isTied ({ frames := 3, cells := 0, slots := 0, locals := 64 } : Room) D ([(cI, .int), (cZ, .boolean)]) (mw cI cZ ad th (nI N) pa pe g0 g1 g2) [.ref (ad 0), .int x1] 0 (mw cI cZ ad 1 (nI N) pa pe g0 g1 g2) := by
  refine m_startI (cc := cX1_isTied) (maxL := 2) (rt := .boolean) (by decide) rfl (Nat.le_of_ble_eq_true rfl) ?_
  intro p e s m below meth c A hx hb hml hr hts hown hlocks hK hA H locs ls hP hD hS hl
  have hin : ∀ w ∈ wsX10, w ∈ wsX1_isTied := by decide +kernel
  have hl : lv_has ls 2 [(0, .ref (ad 0)), (1, .int x1)] := hl
  refine lv_aload_n hx hb dX1_isTied_0 rfl (lv_at hl 0 rfl) ?_
  refine lv_iload_n hx hb dX1_isTied_1 rfl (lv_at hl 1 rfl) ?_
  refine m_callVI (As := [.int x1]) (rest := []) (Wr := []) (W2 := (mw cI cZ ad 1 (nI N) pa pe g0 g1 g2)) ⟨hx, hb, hml, hown, hts⟩ (c_X1_gap_1 l D cI cZ ad th N pa pe g0 g1 g2 hN x1 h1) (cwV 1 hts gX1_isTied_X1_gap rfl rfl rfl kv_X1_gap ⟨Nat.le_of_ble_eq_true rfl, Nat.le_of_ble_eq_true rfl⟩) (va_recv hK hP (ci := 1) (q0 := 0) rfl rfl) hP hD hK hA [0, 1, 2, 3] [] [0, 1, 2, 3] rfl rfl rfl rfl rfl (by decide) rfl rfl rfl hl.1 rfl (Nat.le_of_ble_eq_true rfl) dX1_isTied_2 (Nat.zero_le _) (Nat.zero_le _) hS (fun H locs hP hS => ?_)
  have hD : va_D A (mw cI cZ ad 1 (nI N) pa pe g0 g1 g2) := q_Dc (L := [ad 0, ad 1, ad 2, ad 3]) hD rfl rfl
  refine lv_if_eq (tgt := 25) hx hb dX1_isTied_5 (by decide) (fun _ => ?_) (fun h9 => absurd (by decide) h9)
  refine lv_iconst (v := 0) hx hb dX1_isTied_25 (by decide) ?_
  exact m_retZ hx hb hr hlocks hS hP rfl (Or.inl rfl) dX1_isTied_26

set_option maxHeartbeats 4000000 in
set_option maxRecDepth 100000 in
theorem c_X1_isTied_ok (l : Launch) (D : va_G) (cI cZ : ClassId) (ad : Nat → Nat) (th : Int32) (N : Nat) (pa pe : Int32) (g0 g1 g2 : Nat → Int32) (hN : N ≤ 24) (g : Nat) (hg : g + 1 < m_n g0 N) (h1 : m_in (nI g) 0 (nI (m_n g0 N) - 2) = true) : m_I l yX1_isTied wsX1_isTied ({ frames := 3, cells := 0, slots := 0, locals := 64 } : Room) D ([(cI, .int), (cZ, .boolean)]) (mw cI cZ ad th (nI N) pa pe g0 g1 g2) [.ref (ad 0), .int (nI g)] (bI (m_ti g0 g2 N g)) (mw cI cZ ad 0 (nI N) pa pe g0 g1 g2) := by
  refine m_startI (cc := cX1_isTied) (maxL := 2) (rt := .boolean) (by decide) rfl (Nat.le_of_ble_eq_true rfl) ?_
  intro p e s m below meth c A hx hb hml hr hts hown hlocks hK hA H locs ls hP hD hS hl
  have hin : ∀ w ∈ wsX10, w ∈ wsX1_isTied := by decide +kernel
  have hl : lv_has ls 2 [(0, .ref (ad 0)), (1, .int (nI g))] := hl
  refine lv_aload_n hx hb dX1_isTied_0 rfl (lv_at hl 0 rfl) ?_
  refine lv_iload_n hx hb dX1_isTied_1 rfl (lv_at hl 1 rfl) ?_
  refine m_callVI (As := [.int (nI g)]) (rest := []) (Wr := []) (W2 := (mw cI cZ ad 0 (nI N) pa pe g0 g1 g2)) ⟨hx, hb, hml, hown, hts⟩ (c_X1_gap_ok l D cI cZ ad th N pa pe g0 g1 g2 hN (nI g) h1) (cwV 1 hts gX1_isTied_X1_gap rfl rfl rfl kv_X1_gap ⟨Nat.le_of_ble_eq_true rfl, Nat.le_of_ble_eq_true rfl⟩) (va_recv hK hP (ci := 1) (q0 := 0) rfl rfl) hP hD hK hA [0, 1, 2, 3] [] [0, 1, 2, 3] rfl rfl rfl rfl rfl (by decide) rfl rfl rfl hl.1 rfl (Nat.le_of_ble_eq_true rfl) dX1_isTied_2 (Nat.zero_le _) (Nat.zero_le _) hS (fun H locs hP hS => ?_)
  have hD : va_D A (mw cI cZ ad 0 (nI N) pa pe g0 g1 g2) := q_Dc (L := [ad 0, ad 1, ad 2, ad 3]) hD rfl rfl
  refine lv_if_eq (tgt := 25) hx hb dX1_isTied_5 (by decide) (fun h9 => absurd h9 (by decide)) (fun _ => ?_)
  refine lv_aload_n hx hb dX1_isTied_8 rfl (lv_at hl 0 rfl) ?_
  refine va_get (D := D) (ci := 1) (v := .ref (ad 3)) (C := RX1) (T := TX1) (N := 7) hx hb hts hin hown hK hP 0 rfl rfl 6 (by decide) (hts (.fieldLink RX1 20 "SplicedTalkModel" "tied" "[Z") (by decide +kernel)) (fun _ h9 => h9) rfl dX1_isTied_9 ?_
  refine lv_aload_n hx hb dX1_isTied_12 rfl (lv_at hl 0 rfl) ?_
  refine lv_iload_n hx hb dX1_isTied_13 rfl (lv_at hl 1 rfl) ?_
  refine q_callV (As := [.int (nI g)]) (rest := [.ref (ad 3)]) ⟨hx, hb, hml, hown, hts⟩ (c_X1_from l D cI cZ ad 0 N pa pe g0 g1 g2 hN g (by omega)) (cwV 1 hts gX1_isTied_X1_from rfl rfl rfl kv_X1_from ⟨Nat.le_of_ble_eq_true rfl, Nat.le_of_ble_eq_true rfl⟩) (va_recv hK hP (ci := 1) (q0 := 0) rfl rfl) hP hK rfl hl.1 rfl (Nat.le_of_ble_eq_true rfl) dX1_isTied_14 (Nat.zero_le _) (Nat.zero_le _) hS (fun H locs hsm hS => ?_)
  have hP := hsm.P hP
  refine va_zald hx hb hK hP 3 1 rfl rfl (vp_in_nI (by have := hN; have := m_P_lt (g0 := g0) (N := N) (k := g) (by omega); omega) (by decide)) dX1_isTied_17 ?_
  rw [nI_clamp (by have := hN; have := m_P_lt (g0 := g0) (N := N) (k := g) (by omega); omega)]
  suffices K_18 : ∀ v9 : Int32, v9 = (bI (!decide ((g2 (m_P g0 N g)) = 0))) → W p l e ({ frames := 3, cells := 0, slots := 0, locals := 64 } : Room) s m [.ref (ad 0), .int (nI g)].toArray below meth c H locs 0 0 (m_EI D below [.ref (ad 0), .int (nI g)].toArray s (bI (m_ti g0 g2 N g)) (mw cI cZ ad 0 (nI N) pa pe g0 g1 g2) A) (F0 m 26 ls [.int v9]) from by
    refine lv_if_eq (tgt := 25) hx hb dX1_isTied_18 (by decide) (fun c_18 => ?_) (fun c_18 => ?_)
    · refine lv_iconst (v := 0) hx hb dX1_isTied_25 (by decide) ?_
      exact K_18 _ (bI_nt c_18)
    · refine lv_iconst (v := 1) hx hb dX1_isTied_21 (by decide) ?_
      refine lv_goto (tgt := 26) hx hb dX1_isTied_22 (by decide) ?_
      exact K_18 _ (bI_nf c_18)
  intro v9 hv9
  rw [hv9]; clear hv9
  exact m_retZ hx hb hr hlocks hS hP (by unfold m_ti; rfl) (bI_01 _) dX1_isTied_26

theorem kv_X1_isSmooth : yX1_isSmooth.cls = RX1 ∧ yX1_isSmooth.cls ≠ "java/lang/invoke/MethodHandle" ∧ yX1_isSmooth.cls ≠ "java/lang/invoke/VarHandle" ∧ (parseMethodDescriptor yX1_isSmooth.desc).map (fun d => d.parameters.length) = some 1 := by decide +kernel
theorem ks_X1_isSmooth : yX1_isSmooth.cls ≠ "java/lang/invoke/MethodHandle" ∧ yX1_isSmooth.cls ≠ "java/lang/invoke/VarHandle" ∧ (parseMethodDescriptor yX1_isSmooth.desc).map (fun d => d.parameters.length) = some 1 := kv_X1_isSmooth.2
set_option maxHeartbeats 4000000 in
set_option maxRecDepth 100000 in
theorem c_X1_isSmooth_1 (l : Launch) (D : va_G) (cI cZ : ClassId) (ad : Nat → Nat) (th : Int32) (N : Nat) (pa pe : Int32) (g0 g1 g2 : Nat → Int32) (hN : N ≤ 24) (x1 : Int32) (h1 : m_in x1 0 (nI (m_n g0 N) - 2) = false) : m_I l yX1_isSmooth wsX1_isSmooth ({ frames := 3, cells := 0, slots := 0, locals := 64 } : Room) D ([(cI, .int), (cZ, .boolean)]) (mw cI cZ ad th (nI N) pa pe g0 g1 g2) [.ref (ad 0), .int x1] 0 (mw cI cZ ad 1 (nI N) pa pe g0 g1 g2) := by
  refine m_startI (cc := cX1_isSmooth) (maxL := 2) (rt := .boolean) (by decide) rfl (Nat.le_of_ble_eq_true rfl) ?_
  intro p e s m below meth c A hx hb hml hr hts hown hlocks hK hA H locs ls hP hD hS hl
  have hin : ∀ w ∈ wsX10, w ∈ wsX1_isSmooth := by decide +kernel
  have hl : lv_has ls 2 [(0, .ref (ad 0)), (1, .int x1)] := hl
  refine lv_aload_n hx hb dX1_isSmooth_0 rfl (lv_at hl 0 rfl) ?_
  refine lv_iload_n hx hb dX1_isSmooth_1 rfl (lv_at hl 1 rfl) ?_
  refine m_callVI (As := [.int x1]) (rest := []) (Wr := []) (W2 := (mw cI cZ ad 1 (nI N) pa pe g0 g1 g2)) ⟨hx, hb, hml, hown, hts⟩ (c_X1_gap_1 l D cI cZ ad th N pa pe g0 g1 g2 hN x1 h1) (cwV 1 hts gX1_isSmooth_X1_gap rfl rfl rfl kv_X1_gap ⟨Nat.le_of_ble_eq_true rfl, Nat.le_of_ble_eq_true rfl⟩) (va_recv hK hP (ci := 1) (q0 := 0) rfl rfl) hP hD hK hA [0, 1, 2, 3] [] [0, 1, 2, 3] rfl rfl rfl rfl rfl (by decide) rfl rfl rfl hl.1 rfl (Nat.le_of_ble_eq_true rfl) dX1_isSmooth_2 (Nat.zero_le _) (Nat.zero_le _) hS (fun H locs hP hS => ?_)
  have hD : va_D A (mw cI cZ ad 1 (nI N) pa pe g0 g1 g2) := q_Dc (L := [ad 0, ad 1, ad 2, ad 3]) hD rfl rfl
  refine lv_if_eq (tgt := 20) hx hb dX1_isSmooth_5 (by decide) (fun _ => ?_) (fun h9 => absurd (by decide) h9)
  refine lv_iconst (v := 0) hx hb dX1_isSmooth_20 (by decide) ?_
  exact m_retZ hx hb hr hlocks hS hP rfl (Or.inl rfl) dX1_isSmooth_21

set_option maxHeartbeats 4000000 in
set_option maxRecDepth 100000 in
theorem c_X1_isSmooth_ok (l : Launch) (D : va_G) (cI cZ : ClassId) (ad : Nat → Nat) (th : Int32) (N : Nat) (pa pe : Int32) (g0 g1 g2 : Nat → Int32) (hN : N ≤ 24) (g : Nat) (hg : g + 1 < m_n g0 N) (h1 : m_in (nI g) 0 (nI (m_n g0 N) - 2) = true) : m_I l yX1_isSmooth wsX1_isSmooth ({ frames := 5, cells := 0, slots := 0, locals := 107 } : Room) D ([(cI, .int), (cZ, .boolean)]) (mw cI cZ ad th (nI N) pa pe g0 g1 g2) [.ref (ad 0), .int (nI g)] (bI (m_so g0 g2 N g)) (mw cI cZ ad 0 (nI N) pa pe g0 g1 g2) := by
  refine m_startI (cc := cX1_isSmooth) (maxL := 2) (rt := .boolean) (by decide) rfl (Nat.le_of_ble_eq_true rfl) ?_
  intro p e s m below meth c A hx hb hml hr hts hown hlocks hK hA H locs ls hP hD hS hl
  have hin : ∀ w ∈ wsX10, w ∈ wsX1_isSmooth := by decide +kernel
  have hl : lv_has ls 2 [(0, .ref (ad 0)), (1, .int (nI g))] := hl
  refine lv_aload_n hx hb dX1_isSmooth_0 rfl (lv_at hl 0 rfl) ?_
  refine lv_iload_n hx hb dX1_isSmooth_1 rfl (lv_at hl 1 rfl) ?_
  refine m_callVI (As := [.int (nI g)]) (rest := []) (Wr := []) (W2 := (mw cI cZ ad 0 (nI N) pa pe g0 g1 g2)) ⟨hx, hb, hml, hown, hts⟩ (c_X1_gap_ok l D cI cZ ad th N pa pe g0 g1 g2 hN (nI g) h1) (cwV 1 hts gX1_isSmooth_X1_gap rfl rfl rfl kv_X1_gap ⟨Nat.le_of_ble_eq_true rfl, Nat.le_of_ble_eq_true rfl⟩) (va_recv hK hP (ci := 1) (q0 := 0) rfl rfl) hP hD hK hA [0, 1, 2, 3] [] [0, 1, 2, 3] rfl rfl rfl rfl rfl (by decide) rfl rfl rfl hl.1 rfl (Nat.le_of_ble_eq_true rfl) dX1_isSmooth_2 (Nat.zero_le _) (Nat.zero_le _) hS (fun H locs hP hS => ?_)
  have hD : va_D A (mw cI cZ ad 0 (nI N) pa pe g0 g1 g2) := q_Dc (L := [ad 0, ad 1, ad 2, ad 3]) hD rfl rfl
  refine lv_if_eq (tgt := 20) hx hb dX1_isSmooth_5 (by decide) (fun h9 => absurd h9 (by decide)) (fun _ => ?_)
  refine lv_aload_n hx hb dX1_isSmooth_8 rfl (lv_at hl 0 rfl) ?_
  refine lv_iload_n hx hb dX1_isSmooth_9 rfl (lv_at hl 1 rfl) ?_
  refine q_callV (As := [.int (nI g)]) (rest := []) ⟨hx, hb, hml, hown, hts⟩ (c_X1_smooth l D cI cZ ad 0 N pa pe g0 g1 g2 hN g (by omega)) (cwV 1 hts gX1_isSmooth_X1_smooth rfl rfl rfl kv_X1_smooth ⟨Nat.le_of_ble_eq_true rfl, Nat.le_of_ble_eq_true rfl⟩) (va_recv hK hP (ci := 1) (q0 := 0) rfl rfl) hP hK rfl hl.1 rfl (Nat.le_of_ble_eq_true rfl) dX1_isSmooth_10 (Nat.zero_le _) (Nat.zero_le _) hS (fun H locs hsm hS => ?_)
  have hP := hsm.P hP
  suffices K_13 : ∀ v9 : Int32, v9 = (bI (m_so g0 g2 N g)) → W p l e ({ frames := 5, cells := 0, slots := 0, locals := 107 } : Room) s m [.ref (ad 0), .int (nI g)].toArray below meth c H locs 0 0 (m_EI D below [.ref (ad 0), .int (nI g)].toArray s (bI (m_so g0 g2 N g)) (mw cI cZ ad 0 (nI N) pa pe g0 g1 g2) A) (F0 m 21 ls [.int v9]) from by
    refine lv_if_eq (tgt := 20) hx hb dX1_isSmooth_13 (by decide) (fun c_13 => ?_) (fun c_13 => ?_)
    · refine lv_iconst (v := 0) hx hb dX1_isSmooth_20 (by decide) ?_
      exact K_13 _ (by rw [bI_0.mp c_13]; rfl)
    · refine lv_iconst (v := 1) hx hb dX1_isSmooth_16 (by decide) ?_
      refine lv_goto (tgt := 21) hx hb dX1_isSmooth_17 (by decide) ?_
      exact K_13 _ (by rw [bI_n0.mp c_13]; rfl)
  intro v9 hv9
  rw [hv9]; clear hv9
  exact m_retZ hx hb hr hlocks hS hP rfl (bI_01 _) dX1_isSmooth_21

theorem kv_X1_isPolite : yX1_isPolite.cls = RX1 ∧ yX1_isPolite.cls ≠ "java/lang/invoke/MethodHandle" ∧ yX1_isPolite.cls ≠ "java/lang/invoke/VarHandle" ∧ (parseMethodDescriptor yX1_isPolite.desc).map (fun d => d.parameters.length) = some 1 := by decide +kernel
theorem ks_X1_isPolite : yX1_isPolite.cls ≠ "java/lang/invoke/MethodHandle" ∧ yX1_isPolite.cls ≠ "java/lang/invoke/VarHandle" ∧ (parseMethodDescriptor yX1_isPolite.desc).map (fun d => d.parameters.length) = some 1 := kv_X1_isPolite.2
set_option maxHeartbeats 4000000 in
set_option maxRecDepth 100000 in
theorem c_X1_isPolite_1 (l : Launch) (D : va_G) (cI cZ : ClassId) (ad : Nat → Nat) (th : Int32) (N : Nat) (pa pe : Int32) (g0 g1 g2 : Nat → Int32) (hN : N ≤ 24) (x1 : Int32) (h1 : m_in x1 0 (nI (m_n g0 N) - 2) = false) : m_I l yX1_isPolite wsX1_isPolite ({ frames := 3, cells := 0, slots := 0, locals := 64 } : Room) D ([(cI, .int), (cZ, .boolean)]) (mw cI cZ ad th (nI N) pa pe g0 g1 g2) [.ref (ad 0), .int x1] 0 (mw cI cZ ad 1 (nI N) pa pe g0 g1 g2) := by
  refine m_startI (cc := cX1_isPolite) (maxL := 2) (rt := .boolean) (by decide) rfl (Nat.le_of_ble_eq_true rfl) ?_
  intro p e s m below meth c A hx hb hml hr hts hown hlocks hK hA H locs ls hP hD hS hl
  have hin : ∀ w ∈ wsX10, w ∈ wsX1_isPolite := by decide +kernel
  have hl : lv_has ls 2 [(0, .ref (ad 0)), (1, .int x1)] := hl
  refine lv_aload_n hx hb dX1_isPolite_0 rfl (lv_at hl 0 rfl) ?_
  refine lv_iload_n hx hb dX1_isPolite_1 rfl (lv_at hl 1 rfl) ?_
  refine m_callVI (As := [.int x1]) (rest := []) (Wr := []) (W2 := (mw cI cZ ad 1 (nI N) pa pe g0 g1 g2)) ⟨hx, hb, hml, hown, hts⟩ (c_X1_gap_1 l D cI cZ ad th N pa pe g0 g1 g2 hN x1 h1) (cwV 1 hts gX1_isPolite_X1_gap rfl rfl rfl kv_X1_gap ⟨Nat.le_of_ble_eq_true rfl, Nat.le_of_ble_eq_true rfl⟩) (va_recv hK hP (ci := 1) (q0 := 0) rfl rfl) hP hD hK hA [0, 1, 2, 3] [] [0, 1, 2, 3] rfl rfl rfl rfl rfl (by decide) rfl rfl rfl hl.1 rfl (Nat.le_of_ble_eq_true rfl) dX1_isPolite_2 (Nat.zero_le _) (Nat.zero_le _) hS (fun H locs hP hS => ?_)
  have hD : va_D A (mw cI cZ ad 1 (nI N) pa pe g0 g1 g2) := q_Dc (L := [ad 0, ad 1, ad 2, ad 3]) hD rfl rfl
  refine lv_if_eq (tgt := 28) hx hb dX1_isPolite_5 (by decide) (fun _ => ?_) (fun h9 => absurd (by decide) h9)
  refine lv_iconst (v := 0) hx hb dX1_isPolite_28 (by decide) ?_
  exact m_retZ hx hb hr hlocks hS hP rfl (Or.inl rfl) dX1_isPolite_29

set_option maxHeartbeats 4000000 in
set_option maxRecDepth 100000 in
theorem c_X1_isPolite_ok (l : Launch) (D : va_G) (cI cZ : ClassId) (ad : Nat → Nat) (th : Int32) (N : Nat) (pa pe : Int32) (g0 g1 g2 : Nat → Int32) (hN : N ≤ 24) (g : Nat) (hg : g + 1 < m_n g0 N) (h1 : m_in (nI g) 0 (nI (m_n g0 N) - 2) = true) : m_I l yX1_isPolite wsX1_isPolite ({ frames := 5, cells := 0, slots := 0, locals := 107 } : Room) D ([(cI, .int), (cZ, .boolean)]) (mw cI cZ ad th (nI N) pa pe g0 g1 g2) [.ref (ad 0), .int (nI g)] (bI (!m_so g0 g2 N g && !m_br g0 g1 g2 N g)) (mw cI cZ ad 0 (nI N) pa pe g0 g1 g2) := by
  refine m_startI (cc := cX1_isPolite) (maxL := 2) (rt := .boolean) (by decide) rfl (Nat.le_of_ble_eq_true rfl) ?_
  intro p e s m below meth c A hx hb hml hr hts hown hlocks hK hA H locs ls hP hD hS hl
  have hin : ∀ w ∈ wsX10, w ∈ wsX1_isPolite := by decide +kernel
  have hl : lv_has ls 2 [(0, .ref (ad 0)), (1, .int (nI g))] := hl
  refine lv_aload_n hx hb dX1_isPolite_0 rfl (lv_at hl 0 rfl) ?_
  refine lv_iload_n hx hb dX1_isPolite_1 rfl (lv_at hl 1 rfl) ?_
  refine m_callVI (As := [.int (nI g)]) (rest := []) (Wr := []) (W2 := (mw cI cZ ad 0 (nI N) pa pe g0 g1 g2)) ⟨hx, hb, hml, hown, hts⟩ (c_X1_gap_ok l D cI cZ ad th N pa pe g0 g1 g2 hN (nI g) h1) (cwV 1 hts gX1_isPolite_X1_gap rfl rfl rfl kv_X1_gap ⟨Nat.le_of_ble_eq_true rfl, Nat.le_of_ble_eq_true rfl⟩) (va_recv hK hP (ci := 1) (q0 := 0) rfl rfl) hP hD hK hA [0, 1, 2, 3] [] [0, 1, 2, 3] rfl rfl rfl rfl rfl (by decide) rfl rfl rfl hl.1 rfl (Nat.le_of_ble_eq_true rfl) dX1_isPolite_2 (Nat.zero_le _) (Nat.zero_le _) hS (fun H locs hP hS => ?_)
  have hD : va_D A (mw cI cZ ad 0 (nI N) pa pe g0 g1 g2) := q_Dc (L := [ad 0, ad 1, ad 2, ad 3]) hD rfl rfl
  refine lv_if_eq (tgt := 28) hx hb dX1_isPolite_5 (by decide) (fun h9 => absurd h9 (by decide)) (fun _ => ?_)
  refine lv_aload_n hx hb dX1_isPolite_8 rfl (lv_at hl 0 rfl) ?_
  refine lv_iload_n hx hb dX1_isPolite_9 rfl (lv_at hl 1 rfl) ?_
  refine q_callV (As := [.int (nI g)]) (rest := []) ⟨hx, hb, hml, hown, hts⟩ (c_X1_smooth l D cI cZ ad 0 N pa pe g0 g1 g2 hN g (by omega)) (cwV 1 hts gX1_isPolite_X1_smooth rfl rfl rfl kv_X1_smooth ⟨Nat.le_of_ble_eq_true rfl, Nat.le_of_ble_eq_true rfl⟩) (va_recv hK hP (ci := 1) (q0 := 0) rfl rfl) hP hK rfl hl.1 rfl (Nat.le_of_ble_eq_true rfl) dX1_isPolite_10 (Nat.zero_le _) (Nat.zero_le _) hS (fun H locs hsm hS => ?_)
  have hP := hsm.P hP
  refine lv_if_ne (tgt := 28) hx hb dX1_isPolite_13 (by decide) (fun c_13 => ?_) (fun c_13 => ?_)
  · refine lv_iconst (v := 0) hx hb dX1_isPolite_28 (by decide) ?_
    exact m_retZ hx hb hr hlocks hS hP (by rw [bI_n0.mp c_13]; rfl) (bI_01 _) dX1_isPolite_29
  · refine lv_aload_n hx hb dX1_isPolite_16 rfl (lv_at hl 0 rfl) ?_
    refine lv_iload_n hx hb dX1_isPolite_17 rfl (lv_at hl 1 rfl) ?_
    refine q_callV (As := [.int (nI g)]) (rest := []) ⟨hx, hb, hml, hown, hts⟩ (c_X1_broken l D cI cZ ad 0 N pa pe g0 g1 g2 hN g (by omega)) (cwV 1 hts gX1_isPolite_X1_broken rfl rfl rfl kv_X1_broken ⟨Nat.le_of_ble_eq_true rfl, Nat.le_of_ble_eq_true rfl⟩) (va_recv hK hP (ci := 1) (q0 := 0) rfl rfl) hP hK rfl hl.1 rfl (Nat.le_of_ble_eq_true rfl) dX1_isPolite_18 (Nat.zero_le _) (Nat.zero_le _) hS (fun H locs hsm hS => ?_)
    have hP := hsm.P hP
    refine lv_if_ne (tgt := 28) hx hb dX1_isPolite_21 (by decide) (fun c_21 => ?_) (fun c_21 => ?_)
    · refine lv_iconst (v := 0) hx hb dX1_isPolite_28 (by decide) ?_
      exact m_retZ hx hb hr hlocks hS hP (by rw [bI_0.mp c_13, bI_n0.mp c_21]; rfl) (bI_01 _) dX1_isPolite_29
    · refine lv_iconst (v := 1) hx hb dX1_isPolite_24 (by decide) ?_
      refine lv_goto (tgt := 29) hx hb dX1_isPolite_25 (by decide) ?_
      exact m_retZ hx hb hr hlocks hS hP (by rw [bI_0.mp c_13, bI_0.mp c_21]; rfl) (bI_01 _) dX1_isPolite_29

theorem kv_X1_isBroken : yX1_isBroken.cls = RX1 ∧ yX1_isBroken.cls ≠ "java/lang/invoke/MethodHandle" ∧ yX1_isBroken.cls ≠ "java/lang/invoke/VarHandle" ∧ (parseMethodDescriptor yX1_isBroken.desc).map (fun d => d.parameters.length) = some 1 := by decide +kernel
theorem ks_X1_isBroken : yX1_isBroken.cls ≠ "java/lang/invoke/MethodHandle" ∧ yX1_isBroken.cls ≠ "java/lang/invoke/VarHandle" ∧ (parseMethodDescriptor yX1_isBroken.desc).map (fun d => d.parameters.length) = some 1 := kv_X1_isBroken.2
set_option maxHeartbeats 4000000 in
set_option maxRecDepth 100000 in
theorem c_X1_isBroken_1 (l : Launch) (D : va_G) (cI cZ : ClassId) (ad : Nat → Nat) (th : Int32) (N : Nat) (pa pe : Int32) (g0 g1 g2 : Nat → Int32) (hN : N ≤ 24) (x1 : Int32) (h1 : m_in x1 0 (nI (m_n g0 N) - 2) = false) : m_I l yX1_isBroken wsX1_isBroken ({ frames := 3, cells := 0, slots := 0, locals := 64 } : Room) D ([(cI, .int), (cZ, .boolean)]) (mw cI cZ ad th (nI N) pa pe g0 g1 g2) [.ref (ad 0), .int x1] 0 (mw cI cZ ad 1 (nI N) pa pe g0 g1 g2) := by
  refine m_startI (cc := cX1_isBroken) (maxL := 2) (rt := .boolean) (by decide) rfl (Nat.le_of_ble_eq_true rfl) ?_
  intro p e s m below meth c A hx hb hml hr hts hown hlocks hK hA H locs ls hP hD hS hl
  have hin : ∀ w ∈ wsX10, w ∈ wsX1_isBroken := by decide +kernel
  have hl : lv_has ls 2 [(0, .ref (ad 0)), (1, .int x1)] := hl
  refine lv_aload_n hx hb dX1_isBroken_0 rfl (lv_at hl 0 rfl) ?_
  refine lv_iload_n hx hb dX1_isBroken_1 rfl (lv_at hl 1 rfl) ?_
  refine m_callVI (As := [.int x1]) (rest := []) (Wr := []) (W2 := (mw cI cZ ad 1 (nI N) pa pe g0 g1 g2)) ⟨hx, hb, hml, hown, hts⟩ (c_X1_gap_1 l D cI cZ ad th N pa pe g0 g1 g2 hN x1 h1) (cwV 1 hts gX1_isBroken_X1_gap rfl rfl rfl kv_X1_gap ⟨Nat.le_of_ble_eq_true rfl, Nat.le_of_ble_eq_true rfl⟩) (va_recv hK hP (ci := 1) (q0 := 0) rfl rfl) hP hD hK hA [0, 1, 2, 3] [] [0, 1, 2, 3] rfl rfl rfl rfl rfl (by decide) rfl rfl rfl hl.1 rfl (Nat.le_of_ble_eq_true rfl) dX1_isBroken_2 (Nat.zero_le _) (Nat.zero_le _) hS (fun H locs hP hS => ?_)
  have hD : va_D A (mw cI cZ ad 1 (nI N) pa pe g0 g1 g2) := q_Dc (L := [ad 0, ad 1, ad 2, ad 3]) hD rfl rfl
  refine lv_if_eq (tgt := 20) hx hb dX1_isBroken_5 (by decide) (fun _ => ?_) (fun h9 => absurd (by decide) h9)
  refine lv_iconst (v := 0) hx hb dX1_isBroken_20 (by decide) ?_
  exact m_retZ hx hb hr hlocks hS hP rfl (Or.inl rfl) dX1_isBroken_21

set_option maxHeartbeats 4000000 in
set_option maxRecDepth 100000 in
theorem c_X1_isBroken_ok (l : Launch) (D : va_G) (cI cZ : ClassId) (ad : Nat → Nat) (th : Int32) (N : Nat) (pa pe : Int32) (g0 g1 g2 : Nat → Int32) (hN : N ≤ 24) (g : Nat) (hg : g + 1 < m_n g0 N) (h1 : m_in (nI g) 0 (nI (m_n g0 N) - 2) = true) : m_I l yX1_isBroken wsX1_isBroken ({ frames := 5, cells := 0, slots := 0, locals := 107 } : Room) D ([(cI, .int), (cZ, .boolean)]) (mw cI cZ ad th (nI N) pa pe g0 g1 g2) [.ref (ad 0), .int (nI g)] (bI (m_br g0 g1 g2 N g)) (mw cI cZ ad 0 (nI N) pa pe g0 g1 g2) := by
  refine m_startI (cc := cX1_isBroken) (maxL := 2) (rt := .boolean) (by decide) rfl (Nat.le_of_ble_eq_true rfl) ?_
  intro p e s m below meth c A hx hb hml hr hts hown hlocks hK hA H locs ls hP hD hS hl
  have hin : ∀ w ∈ wsX10, w ∈ wsX1_isBroken := by decide +kernel
  have hl : lv_has ls 2 [(0, .ref (ad 0)), (1, .int (nI g))] := hl
  refine lv_aload_n hx hb dX1_isBroken_0 rfl (lv_at hl 0 rfl) ?_
  refine lv_iload_n hx hb dX1_isBroken_1 rfl (lv_at hl 1 rfl) ?_
  refine m_callVI (As := [.int (nI g)]) (rest := []) (Wr := []) (W2 := (mw cI cZ ad 0 (nI N) pa pe g0 g1 g2)) ⟨hx, hb, hml, hown, hts⟩ (c_X1_gap_ok l D cI cZ ad th N pa pe g0 g1 g2 hN (nI g) h1) (cwV 1 hts gX1_isBroken_X1_gap rfl rfl rfl kv_X1_gap ⟨Nat.le_of_ble_eq_true rfl, Nat.le_of_ble_eq_true rfl⟩) (va_recv hK hP (ci := 1) (q0 := 0) rfl rfl) hP hD hK hA [0, 1, 2, 3] [] [0, 1, 2, 3] rfl rfl rfl rfl rfl (by decide) rfl rfl rfl hl.1 rfl (Nat.le_of_ble_eq_true rfl) dX1_isBroken_2 (Nat.zero_le _) (Nat.zero_le _) hS (fun H locs hP hS => ?_)
  have hD : va_D A (mw cI cZ ad 0 (nI N) pa pe g0 g1 g2) := q_Dc (L := [ad 0, ad 1, ad 2, ad 3]) hD rfl rfl
  refine lv_if_eq (tgt := 20) hx hb dX1_isBroken_5 (by decide) (fun h9 => absurd h9 (by decide)) (fun _ => ?_)
  refine lv_aload_n hx hb dX1_isBroken_8 rfl (lv_at hl 0 rfl) ?_
  refine lv_iload_n hx hb dX1_isBroken_9 rfl (lv_at hl 1 rfl) ?_
  refine q_callV (As := [.int (nI g)]) (rest := []) ⟨hx, hb, hml, hown, hts⟩ (c_X1_broken l D cI cZ ad 0 N pa pe g0 g1 g2 hN g (by omega)) (cwV 1 hts gX1_isBroken_X1_broken rfl rfl rfl kv_X1_broken ⟨Nat.le_of_ble_eq_true rfl, Nat.le_of_ble_eq_true rfl⟩) (va_recv hK hP (ci := 1) (q0 := 0) rfl rfl) hP hK rfl hl.1 rfl (Nat.le_of_ble_eq_true rfl) dX1_isBroken_10 (Nat.zero_le _) (Nat.zero_le _) hS (fun H locs hsm hS => ?_)
  have hP := hsm.P hP
  suffices K_13 : ∀ v9 : Int32, v9 = (bI (m_br g0 g1 g2 N g)) → W p l e ({ frames := 5, cells := 0, slots := 0, locals := 107 } : Room) s m [.ref (ad 0), .int (nI g)].toArray below meth c H locs 0 0 (m_EI D below [.ref (ad 0), .int (nI g)].toArray s (bI (m_br g0 g1 g2 N g)) (mw cI cZ ad 0 (nI N) pa pe g0 g1 g2) A) (F0 m 21 ls [.int v9]) from by
    refine lv_if_eq (tgt := 20) hx hb dX1_isBroken_13 (by decide) (fun c_13 => ?_) (fun c_13 => ?_)
    · refine lv_iconst (v := 0) hx hb dX1_isBroken_20 (by decide) ?_
      exact K_13 _ (by rw [bI_0.mp c_13]; rfl)
    · refine lv_iconst (v := 1) hx hb dX1_isBroken_16 (by decide) ?_
      refine lv_goto (tgt := 21) hx hb dX1_isBroken_17 (by decide) ?_
      exact K_13 _ (by rw [bI_n0.mp c_13]; rfl)
  intro v9 hv9
  rw [hv9]; clear hv9
  exact m_retZ hx hb hr hlocks hS hP rfl (bI_01 _) dX1_isBroken_21

theorem kv_X1_costOfMending : yX1_costOfMending.cls = RX1 ∧ yX1_costOfMending.cls ≠ "java/lang/invoke/MethodHandle" ∧ yX1_costOfMending.cls ≠ "java/lang/invoke/VarHandle" ∧ (parseMethodDescriptor yX1_costOfMending.desc).map (fun d => d.parameters.length) = some 1 := by decide +kernel
theorem ks_X1_costOfMending : yX1_costOfMending.cls ≠ "java/lang/invoke/MethodHandle" ∧ yX1_costOfMending.cls ≠ "java/lang/invoke/VarHandle" ∧ (parseMethodDescriptor yX1_costOfMending.desc).map (fun d => d.parameters.length) = some 1 := kv_X1_costOfMending.2
set_option maxHeartbeats 4000000 in
set_option maxRecDepth 100000 in
theorem c_X1_costOfMending_1 (l : Launch) (D : va_G) (cI cZ : ClassId) (ad : Nat → Nat) (th : Int32) (N : Nat) (pa pe : Int32) (g0 g1 g2 : Nat → Int32) (hN : N ≤ 24) (x1 : Int32) (h1 : m_in x1 0 (nI (m_n g0 N) - 2) = false) : m_I l yX1_costOfMending wsX1_costOfMending ({ frames := 3, cells := 0, slots := 0, locals := 64 } : Room) D ([(cI, .int), (cZ, .boolean)]) (mw cI cZ ad th (nI N) pa pe g0 g1 g2) [.ref (ad 0), .int x1] 0 (mw cI cZ ad 1 (nI N) pa pe g0 g1 g2) := by
  refine m_startI (cc := cX1_costOfMending) (maxL := 2) (rt := .int) (by decide) rfl (Nat.le_of_ble_eq_true rfl) ?_
  intro p e s m below meth c A hx hb hml hr hts hown hlocks hK hA H locs ls hP hD hS hl
  have hin : ∀ w ∈ wsX10, w ∈ wsX1_costOfMending := by decide +kernel
  have hl : lv_has ls 2 [(0, .ref (ad 0)), (1, .int x1)] := hl
  refine lv_aload_n hx hb dX1_costOfMending_0 rfl (lv_at hl 0 rfl) ?_
  refine lv_iload_n hx hb dX1_costOfMending_1 rfl (lv_at hl 1 rfl) ?_
  refine m_callVI (As := [.int x1]) (rest := []) (Wr := []) (W2 := (mw cI cZ ad 1 (nI N) pa pe g0 g1 g2)) ⟨hx, hb, hml, hown, hts⟩ (c_X1_gap_1 l D cI cZ ad th N pa pe g0 g1 g2 hN x1 h1) (cwV 1 hts gX1_costOfMending_X1_gap rfl rfl rfl kv_X1_gap ⟨Nat.le_of_ble_eq_true rfl, Nat.le_of_ble_eq_true rfl⟩) (va_recv hK hP (ci := 1) (q0 := 0) rfl rfl) hP hD hK hA [0, 1, 2, 3] [] [0, 1, 2, 3] rfl rfl rfl rfl rfl (by decide) rfl rfl rfl hl.1 rfl (Nat.le_of_ble_eq_true rfl) dX1_costOfMending_2 (Nat.zero_le _) (Nat.zero_le _) hS (fun H locs hP hS => ?_)
  have hD : va_D A (mw cI cZ ad 1 (nI N) pa pe g0 g1 g2) := q_Dc (L := [ad 0, ad 1, ad 2, ad 3]) hD rfl rfl
  refine lv_if_eq (tgt := 16) hx hb dX1_costOfMending_5 (by decide) (fun _ => ?_) (fun h9 => absurd (by decide) h9)
  refine lv_iconst (v := 0) hx hb dX1_costOfMending_16 (by decide) ?_
  exact m_retI hx hb hr hlocks hS hP rfl dX1_costOfMending_17

set_option maxHeartbeats 4000000 in
set_option maxRecDepth 100000 in
theorem c_X1_costOfMending_ok (l : Launch) (D : va_G) (cI cZ : ClassId) (ad : Nat → Nat) (th : Int32) (N : Nat) (pa pe : Int32) (g0 g1 g2 : Nat → Int32) (hN : N ≤ 24) (g : Nat) (hg : g + 1 < m_n g0 N) (h1 : m_in (nI g) 0 (nI (m_n g0 N) - 2) = true) : m_I l yX1_costOfMending wsX1_costOfMending ({ frames := 6, cells := 0, slots := 0, locals := 130 } : Room) D ([(cI, .int), (cZ, .boolean)]) (mw cI cZ ad th (nI N) pa pe g0 g1 g2) [.ref (ad 0), .int (nI g)] (m_md g0 g1 g2 N g) (mw cI cZ ad 0 (nI N) pa pe g0 g1 g2) := by
  refine m_startI (cc := cX1_costOfMending) (maxL := 2) (rt := .int) (by decide) rfl (Nat.le_of_ble_eq_true rfl) ?_
  intro p e s m below meth c A hx hb hml hr hts hown hlocks hK hA H locs ls hP hD hS hl
  have hin : ∀ w ∈ wsX10, w ∈ wsX1_costOfMending := by decide +kernel
  have hl : lv_has ls 2 [(0, .ref (ad 0)), (1, .int (nI g))] := hl
  refine lv_aload_n hx hb dX1_costOfMending_0 rfl (lv_at hl 0 rfl) ?_
  refine lv_iload_n hx hb dX1_costOfMending_1 rfl (lv_at hl 1 rfl) ?_
  refine m_callVI (As := [.int (nI g)]) (rest := []) (Wr := []) (W2 := (mw cI cZ ad 0 (nI N) pa pe g0 g1 g2)) ⟨hx, hb, hml, hown, hts⟩ (c_X1_gap_ok l D cI cZ ad th N pa pe g0 g1 g2 hN (nI g) h1) (cwV 1 hts gX1_costOfMending_X1_gap rfl rfl rfl kv_X1_gap ⟨Nat.le_of_ble_eq_true rfl, Nat.le_of_ble_eq_true rfl⟩) (va_recv hK hP (ci := 1) (q0 := 0) rfl rfl) hP hD hK hA [0, 1, 2, 3] [] [0, 1, 2, 3] rfl rfl rfl rfl rfl (by decide) rfl rfl rfl hl.1 rfl (Nat.le_of_ble_eq_true rfl) dX1_costOfMending_2 (Nat.zero_le _) (Nat.zero_le _) hS (fun H locs hP hS => ?_)
  have hD : va_D A (mw cI cZ ad 0 (nI N) pa pe g0 g1 g2) := q_Dc (L := [ad 0, ad 1, ad 2, ad 3]) hD rfl rfl
  refine lv_if_eq (tgt := 16) hx hb dX1_costOfMending_5 (by decide) (fun h9 => absurd h9 (by decide)) (fun _ => ?_)
  refine lv_aload_n hx hb dX1_costOfMending_8 rfl (lv_at hl 0 rfl) ?_
  refine lv_iload_n hx hb dX1_costOfMending_9 rfl (lv_at hl 1 rfl) ?_
  refine q_callV (As := [.int (nI g)]) (rest := []) ⟨hx, hb, hml, hown, hts⟩ (c_X1_mends l D cI cZ ad 0 N pa pe g0 g1 g2 hN g (by omega)) (cwV 1 hts gX1_costOfMending_X1_mends rfl rfl rfl kv_X1_mends ⟨Nat.le_of_ble_eq_true rfl, Nat.le_of_ble_eq_true rfl⟩) (va_recv hK hP (ci := 1) (q0 := 0) rfl rfl) hP hK rfl hl.1 rfl (Nat.le_of_ble_eq_true rfl) dX1_costOfMending_10 (Nat.zero_le _) (Nat.zero_le _) hS (fun H locs hsm hS => ?_)
  have hP := hsm.P hP
  refine lv_goto (tgt := 17) hx hb dX1_costOfMending_13 (by decide) ?_
  exact m_retI hx hb hr hlocks hS hP rfl dX1_costOfMending_17

theorem kv_X1_brokenAfterSplice : yX1_brokenAfterSplice.cls = RX1 ∧ yX1_brokenAfterSplice.cls ≠ "java/lang/invoke/MethodHandle" ∧ yX1_brokenAfterSplice.cls ≠ "java/lang/invoke/VarHandle" ∧ (parseMethodDescriptor yX1_brokenAfterSplice.desc).map (fun d => d.parameters.length) = some 1 := by decide +kernel
theorem ks_X1_brokenAfterSplice : yX1_brokenAfterSplice.cls ≠ "java/lang/invoke/MethodHandle" ∧ yX1_brokenAfterSplice.cls ≠ "java/lang/invoke/VarHandle" ∧ (parseMethodDescriptor yX1_brokenAfterSplice.desc).map (fun d => d.parameters.length) = some 1 := kv_X1_brokenAfterSplice.2
set_option maxHeartbeats 4000000 in
set_option maxRecDepth 100000 in
theorem c_X1_brokenAfterSplice_1 (l : Launch) (D : va_G) (cI cZ : ClassId) (ad : Nat → Nat) (th : Int32) (N : Nat) (pa pe : Int32) (g0 g1 g2 : Nat → Int32) (hN : N ≤ 24) (x1 : Int32) (h1 : m_in x1 0 (nI (m_n g0 N) - 2) = false) : m_I l yX1_brokenAfterSplice wsX1_brokenAfterSplice ({ frames := 3, cells := 0, slots := 0, locals := 64 } : Room) D ([(cI, .int), (cZ, .boolean)]) (mw cI cZ ad th (nI N) pa pe g0 g1 g2) [.ref (ad 0), .int x1] 0 (mw cI cZ ad 1 (nI N) pa pe g0 g1 g2) := by
  refine m_startI (cc := cX1_brokenAfterSplice) (maxL := 2) (rt := .int) (by decide) rfl (Nat.le_of_ble_eq_true rfl) ?_
  intro p e s m below meth c A hx hb hml hr hts hown hlocks hK hA H locs ls hP hD hS hl
  have hin : ∀ w ∈ wsX10, w ∈ wsX1_brokenAfterSplice := by decide +kernel
  have hl : lv_has ls 2 [(0, .ref (ad 0)), (1, .int x1)] := hl
  refine lv_aload_n hx hb dX1_brokenAfterSplice_0 rfl (lv_at hl 0 rfl) ?_
  refine lv_iload_n hx hb dX1_brokenAfterSplice_1 rfl (lv_at hl 1 rfl) ?_
  refine m_callVI (As := [.int x1]) (rest := []) (Wr := []) (W2 := (mw cI cZ ad 1 (nI N) pa pe g0 g1 g2)) ⟨hx, hb, hml, hown, hts⟩ (c_X1_gap_1 l D cI cZ ad th N pa pe g0 g1 g2 hN x1 h1) (cwV 1 hts gX1_brokenAfterSplice_X1_gap rfl rfl rfl kv_X1_gap ⟨Nat.le_of_ble_eq_true rfl, Nat.le_of_ble_eq_true rfl⟩) (va_recv hK hP (ci := 1) (q0 := 0) rfl rfl) hP hD hK hA [0, 1, 2, 3] [] [0, 1, 2, 3] rfl rfl rfl rfl rfl (by decide) rfl rfl rfl hl.1 rfl (Nat.le_of_ble_eq_true rfl) dX1_brokenAfterSplice_2 (Nat.zero_le _) (Nat.zero_le _) hS (fun H locs hP hS => ?_)
  have hD : va_D A (mw cI cZ ad 1 (nI N) pa pe g0 g1 g2) := q_Dc (L := [ad 0, ad 1, ad 2, ad 3]) hD rfl rfl
  refine lv_if_ne (tgt := 10) hx hb dX1_brokenAfterSplice_5 (by decide) (fun h9 => absurd (by decide) h9) (fun _ => ?_)
  refine lv_iconst (v := 0) hx hb dX1_brokenAfterSplice_8 (by decide) ?_
  exact m_retI hx hb hr hlocks hS hP rfl dX1_brokenAfterSplice_9

set_option maxHeartbeats 4000000 in
set_option maxRecDepth 100000 in
theorem c_X1_brokenAfterSplice_2 (l : Launch) (D : va_G) (cI cZ : ClassId) (ad : Nat → Nat) (th : Int32) (N : Nat) (pa pe : Int32) (g0 g1 g2 : Nat → Int32) (hN : N ≤ 24) (g : Nat) (hg : g + 1 < m_n g0 N) (h1 : m_in (nI g) 0 (nI (m_n g0 N) - 2) = true) (h2 : ¬ g2 (m_P g0 N g) = 0) : m_I l yX1_brokenAfterSplice wsX1_brokenAfterSplice ({ frames := 3, cells := 0, slots := 0, locals := 64 } : Room) D ([(cI, .int), (cZ, .boolean)]) (mw cI cZ ad th (nI N) pa pe g0 g1 g2) [.ref (ad 0), .int (nI g)] 0 (mw cI cZ ad 2 (nI N) pa pe g0 g1 g2) := by
  refine m_startI (cc := cX1_brokenAfterSplice) (maxL := 2) (rt := .int) (by decide) rfl (Nat.le_of_ble_eq_true rfl) ?_
  intro p e s m below meth c A hx hb hml hr hts hown hlocks hK hA H locs ls hP hD hS hl
  have hin : ∀ w ∈ wsX10, w ∈ wsX1_brokenAfterSplice := by decide +kernel
  have hl : lv_has ls 2 [(0, .ref (ad 0)), (1, .int (nI g))] := hl
  refine lv_aload_n hx hb dX1_brokenAfterSplice_0 rfl (lv_at hl 0 rfl) ?_
  refine lv_iload_n hx hb dX1_brokenAfterSplice_1 rfl (lv_at hl 1 rfl) ?_
  refine m_callVI (As := [.int (nI g)]) (rest := []) (Wr := []) (W2 := (mw cI cZ ad 0 (nI N) pa pe g0 g1 g2)) ⟨hx, hb, hml, hown, hts⟩ (c_X1_gap_ok l D cI cZ ad th N pa pe g0 g1 g2 hN (nI g) h1) (cwV 1 hts gX1_brokenAfterSplice_X1_gap rfl rfl rfl kv_X1_gap ⟨Nat.le_of_ble_eq_true rfl, Nat.le_of_ble_eq_true rfl⟩) (va_recv hK hP (ci := 1) (q0 := 0) rfl rfl) hP hD hK hA [0, 1, 2, 3] [] [0, 1, 2, 3] rfl rfl rfl rfl rfl (by decide) rfl rfl rfl hl.1 rfl (Nat.le_of_ble_eq_true rfl) dX1_brokenAfterSplice_2 (Nat.zero_le _) (Nat.zero_le _) hS (fun H locs hP hS => ?_)
  have hD : va_D A (mw cI cZ ad 0 (nI N) pa pe g0 g1 g2) := q_Dc (L := [ad 0, ad 1, ad 2, ad 3]) hD rfl rfl
  refine lv_if_ne (tgt := 10) hx hb dX1_brokenAfterSplice_5 (by decide) (fun _ => ?_) (fun h9 => absurd h9 (by decide))
  refine lv_aload_n hx hb dX1_brokenAfterSplice_10 rfl (lv_at hl 0 rfl) ?_
  refine va_get (D := D) (ci := 1) (v := .ref (ad 3)) (C := RX1) (T := TX1) (N := 7) hx hb hts hin hown hK hP 0 rfl rfl 6 (by decide) (hts (.fieldLink RX1 20 "SplicedTalkModel" "tied" "[Z") (by decide +kernel)) (fun _ h9 => h9) rfl dX1_brokenAfterSplice_11 ?_
  refine lv_aload_n hx hb dX1_brokenAfterSplice_14 rfl (lv_at hl 0 rfl) ?_
  refine lv_iload_n hx hb dX1_brokenAfterSplice_15 rfl (lv_at hl 1 rfl) ?_
  refine q_callV (As := [.int (nI g)]) (rest := [.ref (ad 3)]) ⟨hx, hb, hml, hown, hts⟩ (c_X1_from l D cI cZ ad 0 N pa pe g0 g1 g2 hN g (by omega)) (cwV 1 hts gX1_brokenAfterSplice_X1_from rfl rfl rfl kv_X1_from ⟨Nat.le_of_ble_eq_true rfl, Nat.le_of_ble_eq_true rfl⟩) (va_recv hK hP (ci := 1) (q0 := 0) rfl rfl) hP hK rfl hl.1 rfl (Nat.le_of_ble_eq_true rfl) dX1_brokenAfterSplice_16 (Nat.zero_le _) (Nat.zero_le _) hS (fun H locs hsm hS => ?_)
  have hP := hsm.P hP
  refine va_zald hx hb hK hP 3 1 rfl rfl (vp_in_nI (by have := hN; have := m_P_lt (g0 := g0) (N := N) (k := g) (by omega); omega) (by decide)) dX1_brokenAfterSplice_19 ?_
  rw [nI_clamp (by have := hN; have := m_P_lt (g0 := g0) (N := N) (k := g) (by omega); omega)]
  refine lv_if_eq (tgt := 31) hx hb dX1_brokenAfterSplice_20 (by decide) (fun h9 => absurd h9 h2) (fun c_20 => ?_)
  refine lv_aload_n hx hb dX1_brokenAfterSplice_23 rfl (lv_at hl 0 rfl) ?_
  refine lv_iconst (v := 2) hx hb dX1_brokenAfterSplice_24 (by decide) ?_
  refine m_callVI (As := [.int 2]) (rest := []) (Wr := []) (W2 := (mw cI cZ ad 2 (nI N) pa pe g0 g1 g2)) ⟨hx, hb, hml, hown, hts⟩ (c_X1_fail l D cI cZ ad 0 N pa pe g0 g1 g2 hN 2) (cwV 1 hts gX1_brokenAfterSplice_X1_fail rfl rfl rfl kv_X1_fail ⟨Nat.le_of_ble_eq_true rfl, Nat.le_of_ble_eq_true rfl⟩) (va_recv hK hP (ci := 1) (q0 := 0) rfl rfl) hP hD hK hA [0, 1, 2, 3] [] [0, 1, 2, 3] rfl rfl rfl rfl rfl (by decide) rfl rfl rfl hl.1 rfl (Nat.le_of_ble_eq_true rfl) dX1_brokenAfterSplice_25 (Nat.zero_le _) (Nat.zero_le _) hS (fun H locs hP hS => ?_)
  have hD : va_D A (mw cI cZ ad 2 (nI N) pa pe g0 g1 g2) := q_Dc (L := [ad 0, ad 1, ad 2, ad 3]) hD rfl rfl
  refine lv_goto (tgt := 36) hx hb dX1_brokenAfterSplice_28 (by decide) ?_
  exact m_retI hx hb hr hlocks hS hP rfl dX1_brokenAfterSplice_36

set_option maxHeartbeats 4000000 in
set_option maxRecDepth 100000 in
theorem c_X1_brokenAfterSplice_ok (l : Launch) (D : va_G) (cI cZ : ClassId) (ad : Nat → Nat) (th : Int32) (N : Nat) (pa pe : Int32) (g0 g1 g2 : Nat → Int32) (hN : N ≤ 24) (g : Nat) (hg : g + 1 < m_n g0 N) (h1 : m_in (nI g) 0 (nI (m_n g0 N) - 2) = true) (h2 : g2 (m_P g0 N g) = 0) : m_I l yX1_brokenAfterSplice wsX1_brokenAfterSplice ({ frames := 7, cells := 0, slots := 0, locals := 153 } : Room) D ([(cI, .int), (cZ, .boolean)]) (mw cI cZ ad th (nI N) pa pe g0 g1 g2) [.ref (ad 0), .int (nI g)] (m_sp g0 g1 g2 N g) (mw cI cZ ad 0 (nI N) pa pe g0 g1 g2) := by
  refine m_startI (cc := cX1_brokenAfterSplice) (maxL := 2) (rt := .int) (by decide) rfl (Nat.le_of_ble_eq_true rfl) ?_
  intro p e s m below meth c A hx hb hml hr hts hown hlocks hK hA H locs ls hP hD hS hl
  have hin : ∀ w ∈ wsX10, w ∈ wsX1_brokenAfterSplice := by decide +kernel
  have hl : lv_has ls 2 [(0, .ref (ad 0)), (1, .int (nI g))] := hl
  refine lv_aload_n hx hb dX1_brokenAfterSplice_0 rfl (lv_at hl 0 rfl) ?_
  refine lv_iload_n hx hb dX1_brokenAfterSplice_1 rfl (lv_at hl 1 rfl) ?_
  refine m_callVI (As := [.int (nI g)]) (rest := []) (Wr := []) (W2 := (mw cI cZ ad 0 (nI N) pa pe g0 g1 g2)) ⟨hx, hb, hml, hown, hts⟩ (c_X1_gap_ok l D cI cZ ad th N pa pe g0 g1 g2 hN (nI g) h1) (cwV 1 hts gX1_brokenAfterSplice_X1_gap rfl rfl rfl kv_X1_gap ⟨Nat.le_of_ble_eq_true rfl, Nat.le_of_ble_eq_true rfl⟩) (va_recv hK hP (ci := 1) (q0 := 0) rfl rfl) hP hD hK hA [0, 1, 2, 3] [] [0, 1, 2, 3] rfl rfl rfl rfl rfl (by decide) rfl rfl rfl hl.1 rfl (Nat.le_of_ble_eq_true rfl) dX1_brokenAfterSplice_2 (Nat.zero_le _) (Nat.zero_le _) hS (fun H locs hP hS => ?_)
  have hD : va_D A (mw cI cZ ad 0 (nI N) pa pe g0 g1 g2) := q_Dc (L := [ad 0, ad 1, ad 2, ad 3]) hD rfl rfl
  refine lv_if_ne (tgt := 10) hx hb dX1_brokenAfterSplice_5 (by decide) (fun _ => ?_) (fun h9 => absurd h9 (by decide))
  refine lv_aload_n hx hb dX1_brokenAfterSplice_10 rfl (lv_at hl 0 rfl) ?_
  refine va_get (D := D) (ci := 1) (v := .ref (ad 3)) (C := RX1) (T := TX1) (N := 7) hx hb hts hin hown hK hP 0 rfl rfl 6 (by decide) (hts (.fieldLink RX1 20 "SplicedTalkModel" "tied" "[Z") (by decide +kernel)) (fun _ h9 => h9) rfl dX1_brokenAfterSplice_11 ?_
  refine lv_aload_n hx hb dX1_brokenAfterSplice_14 rfl (lv_at hl 0 rfl) ?_
  refine lv_iload_n hx hb dX1_brokenAfterSplice_15 rfl (lv_at hl 1 rfl) ?_
  refine q_callV (As := [.int (nI g)]) (rest := [.ref (ad 3)]) ⟨hx, hb, hml, hown, hts⟩ (c_X1_from l D cI cZ ad 0 N pa pe g0 g1 g2 hN g (by omega)) (cwV 1 hts gX1_brokenAfterSplice_X1_from rfl rfl rfl kv_X1_from ⟨Nat.le_of_ble_eq_true rfl, Nat.le_of_ble_eq_true rfl⟩) (va_recv hK hP (ci := 1) (q0 := 0) rfl rfl) hP hK rfl hl.1 rfl (Nat.le_of_ble_eq_true rfl) dX1_brokenAfterSplice_16 (Nat.zero_le _) (Nat.zero_le _) hS (fun H locs hsm hS => ?_)
  have hP := hsm.P hP
  refine va_zald hx hb hK hP 3 1 rfl rfl (vp_in_nI (by have := hN; have := m_P_lt (g0 := g0) (N := N) (k := g) (by omega); omega) (by decide)) dX1_brokenAfterSplice_19 ?_
  rw [nI_clamp (by have := hN; have := m_P_lt (g0 := g0) (N := N) (k := g) (by omega); omega)]
  refine lv_if_eq (tgt := 31) hx hb dX1_brokenAfterSplice_20 (by decide) (fun c_20 => ?_) (fun h9 => absurd h2 h9)
  refine lv_aload_n hx hb dX1_brokenAfterSplice_31 rfl (lv_at hl 0 rfl) ?_
  refine lv_iload_n hx hb dX1_brokenAfterSplice_32 rfl (lv_at hl 1 rfl) ?_
  refine q_callV (As := [.int (nI g)]) (rest := []) ⟨hx, hb, hml, hown, hts⟩ (c_X1_spliced l D cI cZ ad 0 N pa pe g0 g1 g2 hN g (by omega)) (cwV 1 hts gX1_brokenAfterSplice_X1_spliced rfl rfl rfl kv_X1_spliced ⟨Nat.le_of_ble_eq_true rfl, Nat.le_of_ble_eq_true rfl⟩) (va_recv hK hP (ci := 1) (q0 := 0) rfl rfl) hP hK rfl hl.1 rfl (Nat.le_of_ble_eq_true rfl) dX1_brokenAfterSplice_33 (Nat.zero_le _) (Nat.zero_le _) hS (fun H locs hsm hS => ?_)
  have hP := hsm.P hP
  exact m_retI hx hb hr hlocks hS hP rfl dX1_brokenAfterSplice_36
