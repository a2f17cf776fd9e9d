/-! own rows, written by wip/whole/mdig.py: the reference's digest -/
def m_dr (g0 g1 : Nat → Int32) (d : Int64) : Nat → Int64 := fo (fun p d => x_mix (x_mix d (bI (!decide (0 ≤ g0 p)))) (g1 p)) d
def m_dw (g0 g1 g2 : Nat → Int32) (N : Nat) (d : Int64) : Nat → Int64 := fo (fun w d => x_mix (x_mix (x_mix d (nI (m_P g0 N w))) (g0 (m_P g0 N w))) (nI (m_th g0 g1 g2 N w))) d
def m_dg (g0 g1 g2 : Nat → Int32) (N : Nat) (d : Int64) : Nat → Int64 := fo (fun g d => x_mix (x_mix (x_mix (x_mix (x_mix d (m_cg g0 N g)) (m_st g0 N g)) (bI (m_ti g0 g2 N g))) (bI (m_br g0 g1 g2 N g))) (m_md g0 g1 g2 N g)) d
def m_d0 (pa pe : Int32) (g0 g1 g2 : Nat → Int32) (N : Nat) : Int64 :=
  x_mix (x_mix (x_mix (x_mix (x_mix (x_mix (x_mix (x_mix (x_mix (x_mix 1997 (nI N)) (nI (m_n g0 N))) pa) pe) (nI (m_ab g0 g1 g2 N))) (nI (m_ap g0 g1 g2 N))) (nI (m_tn g0 g1 g2 N))) (m_lg g0 g1 g2 N (m_tn g0 g1 g2 N))) (m_ma g0 g1 g2 N (m_n g0 N - 1))) (m_bs g0 g1 g2 N (m_n g0 N - 1)).1
def m_dgst (pa pe : Int32) (g0 g1 g2 : Nat → Int32) (N : Nat) : Int64 := m_dg g0 g1 g2 N (m_dw g0 g1 g2 N (m_dr g0 g1 (m_d0 pa pe g0 g1 g2 N) N) (m_n g0 N)) (m_n g0 N - 1)
theorem m_ti_b {g0 g2 : Nat → Int32} {N g : Nat} : bI (!decide (g2 (m_P g0 N g) = 0)) = bI (m_ti g0 g2 N g) := rfl
theorem kv_X1_digest : yX1_digest.cls = RX1 ∧ yX1_digest.cls ≠ "java/lang/invoke/MethodHandle" ∧ yX1_digest.cls ≠ "java/lang/invoke/VarHandle" ∧ (parseMethodDescriptor yX1_digest.desc).map (fun d => d.parameters.length) = some 0 := by decide +kernel
theorem ks_X1_digest : yX1_digest.cls ≠ "java/lang/invoke/MethodHandle" ∧ yX1_digest.cls ≠ "java/lang/invoke/VarHandle" ∧ (parseMethodDescriptor yX1_digest.desc).map (fun d => d.parameters.length) = some 0 := kv_X1_digest.2
set_option maxHeartbeats 4000000 in
set_option maxRecDepth 100000 in
theorem c_X1_digest_ok (l : Launch) (D : va_G) (cI cZ : ClassId) (ad : Nat → Nat) (th : Int32) (N : Nat) (pa pe : Int32) (g0 g1 g2 : Nat → Int32) (hN : N ≤ 24) : m_L l yX1_digest wsX1_digest ({ frames := 8, cells := 24, slots := 125, locals := 176 } : Room) D ([(cI, .int), (cZ, .boolean)]) (mw cI cZ ad th (nI N) pa pe g0 g1 g2) [.ref (ad 0)] (m_dgst pa pe g0 g1 g2 N) (mw cI cZ ad 0 (nI N) pa pe g0 g1 g2) 24 125 := by
  refine m_startL (cc := cX1_digest) (maxL := 11) (rt := .long) (by decide) rfl (Nat.le_of_ble_eq_true rfl) ?_
  intro p e s m below meth c A hx hb hml hr hts hown hlocks hK hA H locs ls hP hD hS hl
  have hin : ∀ w ∈ wsX10, w ∈ wsX1_digest := by decide +kernel
  have hl : lv_has ls 11 [(0, .ref (ad 0))] := hl
  have hm := m_n_le g0 N
  refine lv_aload_n hx hb dX1_digest_0 rfl (lv_at hl 0 rfl) ?_
  refine lv_iconst (v := 0) hx hb dX1_digest_1 (by decide) ?_
  refine va_put (D := D) (ci := 1) (v := .int 0) (ty := .int) (C := RX1) (T := TX1) (N := 7) hx hb hts hin tyX1 tyX1_ok nmX1 hown hK hP hD hS 0 rfl rfl 0 (by decide) (hts (.fieldLink RX1 24 "SplicedTalkModel" "thrown" "I") (by decide +kernel)) (fun _ h9 => h9) rfl (by decide +kernel) rfl rfl (Nat.le_of_ble_eq_true rfl) dX1_digest_2 (fun H locs hP hD hS => ?_)
  have hP : va_P D vwCl (mw cI cZ ad 0 (nI N) pa pe g0 g1 g2) H := hP
  have hD : va_D A (mw cI cZ ad 0 (nI N) pa pe g0 g1 g2) := q_Dc (L := [ad 0, ad 1, ad 2, ad 3]) hD rfl rfl
  refine lv_aload_n hx hb dX1_digest_5 rfl (lv_at hl 0 rfl) ?_
  refine q_callV (As := []) (rest := []) ⟨hx, hb, hml, hown, hts⟩ (c_X1_many l D cI cZ ad 0 N pa pe g0 g1 g2 hN) (cwV 0 hts gX1_digest_X1_many rfl rfl rfl kv_X1_many ⟨Nat.le_of_ble_eq_true rfl, Nat.le_of_ble_eq_true rfl⟩) (va_recv hK hP (ci := 1) (q0 := 0) rfl rfl) hP hK rfl hl.1 rfl (Nat.le_of_ble_eq_true rfl) dX1_digest_6 (show 0 ≤ 24 by omega) (show 0 ≤ 125 by omega) hS (fun H locs hsm hS => ?_)
  have hP := hsm.P hP
  refine lv_istore_n (lv' := [(1, .int (nI (m_n g0 N))), (0, .ref (ad 0))]) hx hb dX1_digest_9 rfl hl (by decide) rfl (fun ls hl => ?_)
  refine lv_bipush (v := 10) hx hb dX1_digest_10 (by decide) ?_
  refine va_newa (atype := .int) hx hb (hts (.arrayClass .int) (by decide +kernel)) (ty := .int) rfl hK hP hD hS hA (N' := 10) (a0 := (10, .inl (fun _ => 0))) (fun cA => rfl) (by decide) (by decide) (Nat.le_of_ble_eq_true rfl) (show 0 + 1 ≤ 24 by omega) (show 0 + 10 ≤ 125 by omega) dX1_digest_12 (fun q1 cA1 H hK hP hD hS => ?_)
  have hP : va_P D vwCl ((mw cI cZ ad 0 (nI N) pa pe g0 g1 g2) ++ [(q1, .inl (cA1, 10, .inl (fun _ => 0)))]) H := hP
  have hD : va_D A ((mw cI cZ ad 0 (nI N) pa pe g0 g1 g2) ++ [(q1, .inl (cA1, 10, .inl (fun _ => 0)))]) := hD
  refine lv_dup hx hb dX1_digest_14 rfl ?_
  refine lv_iconst (v := 0) hx hb dX1_digest_15 (by decide) ?_
  refine lv_aload_n hx hb dX1_digest_16 rfl (lv_at hl 1 rfl) ?_
  refine va_get (D := D) (ci := 1) (v := .int (nI N)) (C := RX1) (T := TX1) (N := 7) hx hb hts hin hown hK hP 0 rfl rfl 1 (by decide) (hts (.fieldLink RX1 31 "SplicedTalkModel" "remarks" "I") (by decide +kernel)) (fun _ h9 => h9) rfl dX1_digest_17 ?_
  refine va_iast hx hb hK hP hD hS 4 2 rfl rfl (vp_in_nI (n := 0) (by decide) (by decide)) dX1_digest_20 (fun H locs hP hD hS => ?_)
  have hP : va_P D vwCl ((mw cI cZ ad 0 (nI N) pa pe g0 g1 g2) ++ [(q1, .inl (cA1, 10, .inl (upd (fun _ => 0) 0 (nI N))))]) H := hP
  have hD : va_D A ((mw cI cZ ad 0 (nI N) pa pe g0 g1 g2) ++ [(q1, .inl (cA1, 10, .inl (upd (fun _ => 0) 0 (nI N))))]) := hD
  refine lv_dup hx hb dX1_digest_21 rfl ?_
  refine lv_iconst (v := 1) hx hb dX1_digest_22 (by decide) ?_
  refine lv_iload_n hx hb dX1_digest_23 rfl (lv_at hl 0 rfl) ?_
  refine va_iast hx hb hK hP hD hS 4 2 rfl rfl (vp_in_nI (n := 1) (by decide) (by decide)) dX1_digest_24 (fun H locs hP hD hS => ?_)
  have hP : va_P D vwCl ((mw cI cZ ad 0 (nI N) pa pe g0 g1 g2) ++ [(q1, .inl (cA1, 10, .inl (upd (upd (fun _ => 0) 0 (nI N)) 1 (nI (m_n g0 N)))))]) H := hP
  have hD : va_D A ((mw cI cZ ad 0 (nI N) pa pe g0 g1 g2) ++ [(q1, .inl (cA1, 10, .inl (upd (upd (fun _ => 0) 0 (nI N)) 1 (nI (m_n g0 N)))))]) := hD
  refine lv_dup hx hb dX1_digest_25 rfl ?_
  refine lv_iconst (v := 2) hx hb dX1_digest_26 (by decide) ?_
  refine lv_aload_n hx hb dX1_digest_27 rfl (lv_at hl 1 rfl) ?_
  refine va_get (D := D) (ci := 1) (v := .int pa) (C := RX1) (T := TX1) (N := 7) hx hb hts hin hown hK hP 0 rfl rfl 2 (by decide) (hts (.fieldLink RX1 7 "SplicedTalkModel" "patience" "I") (by decide +kernel)) (fun _ h9 => h9) rfl dX1_digest_28 ?_
  refine va_iast hx hb hK hP hD hS 4 2 rfl rfl (vp_in_nI (n := 2) (by decide) (by decide)) dX1_digest_31 (fun H locs hP hD hS => ?_)
  have hP : va_P D vwCl ((mw cI cZ ad 0 (nI N) pa pe g0 g1 g2) ++ [(q1, .inl (cA1, 10, .inl (upd (upd (upd (fun _ => 0) 0 (nI N)) 1 (nI (m_n g0 N))) 2 pa)))]) H := hP
  have hD : va_D A ((mw cI cZ ad 0 (nI N) pa pe g0 g1 g2) ++ [(q1, .inl (cA1, 10, .inl (upd (upd (upd (fun _ => 0) 0 (nI N)) 1 (nI (m_n g0 N))) 2 pa)))]) := hD
  refine lv_dup hx hb dX1_digest_32 rfl ?_
  refine lv_iconst (v := 3) hx hb dX1_digest_33 (by decide) ?_
  refine lv_aload_n hx hb dX1_digest_34 rfl (lv_at hl 1 rfl) ?_
  refine va_get (D := D) (ci := 1) (v := .int pe) (C := RX1) (T := TX1) (N := 7) hx hb hts hin hown hK hP 0 rfl rfl 3 (by decide) (hts (.fieldLink RX1 80 "SplicedTalkModel" "spent" "I") (by decide +kernel)) (fun _ h9 => h9) rfl dX1_digest_35 ?_
  refine va_iast hx hb hK hP hD hS 4 2 rfl rfl (vp_in_nI (n := 3) (by decide) (by decide)) dX1_digest_38 (fun H locs hP hD hS => ?_)
  have hP : va_P D vwCl ((mw cI cZ ad 0 (nI N) pa pe g0 g1 g2) ++ [(q1, .inl (cA1, 10, .inl (upd (upd (upd (upd (fun _ => 0) 0 (nI N)) 1 (nI (m_n g0 N))) 2 pa) 3 pe)))]) H := hP
  have hD : va_D A ((mw cI cZ ad 0 (nI N) pa pe g0 g1 g2) ++ [(q1, .inl (cA1, 10, .inl (upd (upd (upd (upd (fun _ => 0) 0 (nI N)) 1 (nI (m_n g0 N))) 2 pa) 3 pe)))]) := hD
  refine lv_dup hx hb dX1_digest_39 rfl ?_
  refine lv_iconst (v := 4) hx hb dX1_digest_40 (by decide) ?_
  refine lv_aload_n hx hb dX1_digest_41 rfl (lv_at hl 1 rfl) ?_
  refine q_callV (As := []) (rest := [.int 4, .ref q1, .ref q1]) ⟨hx, hb, hml, hown, hts⟩ (c_X1_allBroken l D cI cZ ad 0 N pa pe g0 g1 g2 hN) (cwV 0 hts gX1_digest_X1_allBroken rfl rfl rfl kv_X1_allBroken ⟨Nat.le_of_ble_eq_true rfl, Nat.le_of_ble_eq_true rfl⟩) (va_recv hK hP (ci := 1) (q0 := 0) rfl rfl) (hP.sub [0, 1, 2, 3] rfl) (hK.sub [0, 1] rfl) rfl hl.1 rfl (Nat.le_of_ble_eq_true rfl) dX1_digest_42 (show 1 ≤ 24 by omega) (show 10 ≤ 125 by omega) hS (fun H locs hsm hS => ?_)
  have hP := hsm.P hP
  refine va_iast hx hb hK hP hD hS 4 2 rfl rfl (vp_in_nI (n := 4) (by decide) (by decide)) dX1_digest_45 (fun H locs hP hD hS => ?_)
  have hP : va_P D vwCl ((mw cI cZ ad 0 (nI N) pa pe g0 g1 g2) ++ [(q1, .inl (cA1, 10, .inl (upd (upd (upd (upd (upd (fun _ => 0) 0 (nI N)) 1 (nI (m_n g0 N))) 2 pa) 3 pe) 4 (nI (m_ab g0 g1 g2 N)))))]) H := hP
  have hD : va_D A ((mw cI cZ ad 0 (nI N) pa pe g0 g1 g2) ++ [(q1, .inl (cA1, 10, .inl (upd (upd (upd (upd (upd (fun _ => 0) 0 (nI N)) 1 (nI (m_n g0 N))) 2 pa) 3 pe) 4 (nI (m_ab g0 g1 g2 N)))))]) := hD
  refine lv_dup hx hb dX1_digest_46 rfl ?_
  refine lv_iconst (v := 5) hx hb dX1_digest_47 (by decide) ?_
  refine lv_aload_n hx hb dX1_digest_48 rfl (lv_at hl 1 rfl) ?_
  refine q_callV (As := []) (rest := [.int 5, .ref q1, .ref q1]) ⟨hx, hb, hml, hown, hts⟩ (c_X1_allPolite l D cI cZ ad 0 N pa pe g0 g1 g2 hN) (cwV 0 hts gX1_digest_X1_allPolite rfl rfl rfl kv_X1_allPolite ⟨Nat.le_of_ble_eq_true rfl, Nat.le_of_ble_eq_true rfl⟩) (va_recv hK hP (ci := 1) (q0 := 0) rfl rfl) (hP.sub [0, 1, 2, 3] rfl) (hK.sub [0, 1] rfl) rfl hl.1 rfl (Nat.le_of_ble_eq_true rfl) dX1_digest_49 (show 1 ≤ 24 by omega) (show 10 ≤ 125 by omega) hS (fun H locs hsm hS => ?_)
  have hP := hsm.P hP
  refine va_iast hx hb hK hP hD hS 4 2 rfl rfl (vp_in_nI (n := 5) (by decide) (by decide)) dX1_digest_52 (fun H locs hP hD hS => ?_)
  have hP : va_P D vwCl ((mw cI cZ ad 0 (nI N) pa pe g0 g1 g2) ++ [(q1, .inl (cA1, 10, .inl (upd (upd (upd (upd (upd (upd (fun _ => 0) 0 (nI N)) 1 (nI (m_n g0 N))) 2 pa) 3 pe) 4 (nI (m_ab g0 g1 g2 N))) 5 (nI (m_ap g0 g1 g2 N)))))]) H := hP
  have hD : va_D A ((mw cI cZ ad 0 (nI N) pa pe g0 g1 g2) ++ [(q1, .inl (cA1, 10, .inl (upd (upd (upd (upd (upd (upd (fun _ => 0) 0 (nI N)) 1 (nI (m_n g0 N))) 2 pa) 3 pe) 4 (nI (m_ab g0 g1 g2 N))) 5 (nI (m_ap g0 g1 g2 N)))))]) := hD
  refine lv_dup hx hb dX1_digest_53 rfl ?_
  refine lv_bipush (v := 6) hx hb dX1_digest_54 (by decide) ?_
  refine lv_aload_n hx hb dX1_digest_56 rfl (lv_at hl 1 rfl) ?_
  refine q_callV (As := []) (rest := [.int 6, .ref q1, .ref q1]) ⟨hx, hb, hml, hown, hts⟩ (c_X1_threadsNow l D cI cZ ad 0 N pa pe g0 g1 g2 hN) (cwV 0 hts gX1_digest_X1_threadsNow rfl rfl rfl kv_X1_threadsNow ⟨Nat.le_of_ble_eq_true rfl, Nat.le_of_ble_eq_true rfl⟩) (va_recv hK hP (ci := 1) (q0 := 0) rfl rfl) (hP.sub [0, 1, 2, 3] rfl) (hK.sub [0, 1] rfl) rfl hl.1 rfl (Nat.le_of_ble_eq_true rfl) dX1_digest_57 (show 1 ≤ 24 by omega) (show 10 ≤ 125 by omega) hS (fun H locs hsm hS => ?_)
  have hP := hsm.P hP
  refine va_iast hx hb hK hP hD hS 4 2 rfl rfl (vp_in_nI (n := 6) (by decide) (by decide)) dX1_digest_60 (fun H locs hP hD hS => ?_)
  have hP : va_P D vwCl ((mw cI cZ ad 0 (nI N) pa pe g0 g1 g2) ++ [(q1, .inl (cA1, 10, .inl (upd (upd (upd (upd (upd (upd (upd (fun _ => 0) 0 (nI N)) 1 (nI (m_n g0 N))) 2 pa) 3 pe) 4 (nI (m_ab g0 g1 g2 N))) 5 (nI (m_ap g0 g1 g2 N))) 6 (nI (m_tn g0 g1 g2 N)))))]) H := hP
  have hD : va_D A ((mw cI cZ ad 0 (nI N) pa pe g0 g1 g2) ++ [(q1, .inl (cA1, 10, .inl (upd (upd (upd (upd (upd (upd (upd (fun _ => 0) 0 (nI N)) 1 (nI (m_n g0 N))) 2 pa) 3 pe) 4 (nI (m_ab g0 g1 g2 N))) 5 (nI (m_ap g0 g1 g2 N))) 6 (nI (m_tn g0 g1 g2 N)))))]) := hD
  refine lv_dup hx hb dX1_digest_61 rfl ?_
  refine lv_bipush (v := 7) hx hb dX1_digest_62 (by decide) ?_
  refine lv_aload_n hx hb dX1_digest_64 rfl (lv_at hl 1 rfl) ?_
  refine q_callV (As := []) (rest := [.int 7, .ref q1, .ref q1]) ⟨hx, hb, hml, hown, hts⟩ (c_X1_longest l D cI cZ ad 0 N pa pe g0 g1 g2 hN) (cwV 0 hts gX1_digest_X1_longest rfl rfl rfl kv_X1_longest ⟨Nat.le_of_ble_eq_true rfl, Nat.le_of_ble_eq_true rfl⟩) (va_recv hK hP (ci := 1) (q0 := 0) rfl rfl) (hP.sub [0, 1, 2, 3] rfl) (hK.sub [0, 1] rfl) rfl hl.1 rfl (Nat.le_of_ble_eq_true rfl) dX1_digest_65 (show 1 ≤ 24 by omega) (show 10 ≤ 125 by omega) hS (fun H locs hsm hS => ?_)
  have hP := hsm.P hP
  refine va_iast hx hb hK hP hD hS 4 2 rfl rfl (vp_in_nI (n := 7) (by decide) (by decide)) dX1_digest_68 (fun H locs hP hD hS => ?_)
  have hP : va_P D vwCl ((mw cI cZ ad 0 (nI N) pa pe g0 g1 g2) ++ [(q1, .inl (cA1, 10, .inl (upd (upd (upd (upd (upd (upd (upd (upd (fun _ => 0) 0 (nI N)) 1 (nI (m_n g0 N))) 2 pa) 3 pe) 4 (nI (m_ab g0 g1 g2 N))) 5 (nI (m_ap g0 g1 g2 N))) 6 (nI (m_tn g0 g1 g2 N))) 7 (m_lg g0 g1 g2 N (m_tn g0 g1 g2 N)))))]) H := hP
  have hD : va_D A ((mw cI cZ ad 0 (nI N) pa pe g0 g1 g2) ++ [(q1, .inl (cA1, 10, .inl (upd (upd (upd (upd (upd (upd (upd (upd (fun _ => 0) 0 (nI N)) 1 (nI (m_n g0 N))) 2 pa) 3 pe) 4 (nI (m_ab g0 g1 g2 N))) 5 (nI (m_ap g0 g1 g2 N))) 6 (nI (m_tn g0 g1 g2 N))) 7 (m_lg g0 g1 g2 N (m_tn g0 g1 g2 N)))))]) := hD
  refine lv_dup hx hb dX1_digest_69 rfl ?_
  refine lv_bipush (v := 8) hx hb dX1_digest_70 (by decide) ?_
  refine lv_aload_n hx hb dX1_digest_72 rfl (lv_at hl 1 rfl) ?_
  refine q_callV (As := []) (rest := [.int 8, .ref q1, .ref q1]) ⟨hx, hb, hml, hown, hts⟩ (c_X1_mendsAll l D cI cZ ad 0 N pa pe g0 g1 g2 hN) (cwV 0 hts gX1_digest_X1_mendsAll rfl rfl rfl kv_X1_mendsAll ⟨Nat.le_of_ble_eq_true rfl, Nat.le_of_ble_eq_true rfl⟩) (va_recv hK hP (ci := 1) (q0 := 0) rfl rfl) (hP.sub [0, 1, 2, 3] rfl) (hK.sub [0, 1] rfl) rfl hl.1 rfl (Nat.le_of_ble_eq_true rfl) dX1_digest_73 (show 1 ≤ 24 by omega) (show 10 ≤ 125 by omega) hS (fun H locs hsm hS => ?_)
  have hP := hsm.P hP
  refine va_iast hx hb hK hP hD hS 4 2 rfl rfl (vp_in_nI (n := 8) (by decide) (by decide)) dX1_digest_76 (fun H locs hP hD hS => ?_)
  have hP : va_P D vwCl ((mw cI cZ ad 0 (nI N) pa pe g0 g1 g2) ++ [(q1, .inl (cA1, 10, .inl (upd (upd (upd (upd (upd (upd (upd (upd (upd (fun _ => 0) 0 (nI N)) 1 (nI (m_n g0 N))) 2 pa) 3 pe) 4 (nI (m_ab g0 g1 g2 N))) 5 (nI (m_ap g0 g1 g2 N))) 6 (nI (m_tn g0 g1 g2 N))) 7 (m_lg g0 g1 g2 N (m_tn g0 g1 g2 N))) 8 (m_ma g0 g1 g2 N (m_n g0 N - 1)))))]) H := hP
  have hD : va_D A ((mw cI cZ ad 0 (nI N) pa pe g0 g1 g2) ++ [(q1, .inl (cA1, 10, .inl (upd (upd (upd (upd (upd (upd (upd (upd (upd (fun _ => 0) 0 (nI N)) 1 (nI (m_n g0 N))) 2 pa) 3 pe) 4 (nI (m_ab g0 g1 g2 N))) 5 (nI (m_ap g0 g1 g2 N))) 6 (nI (m_tn g0 g1 g2 N))) 7 (m_lg g0 g1 g2 N (m_tn g0 g1 g2 N))) 8 (m_ma g0 g1 g2 N (m_n g0 N - 1)))))]) := hD
  refine lv_dup hx hb dX1_digest_77 rfl ?_
  refine lv_bipush (v := 9) hx hb dX1_digest_78 (by decide) ?_
  refine lv_aload_n hx hb dX1_digest_80 rfl (lv_at hl 1 rfl) ?_
  refine q_callV (As := []) (rest := [.int 9, .ref q1, .ref q1]) ⟨hx, hb, hml, hown, hts⟩ (c_X1_best l D cI cZ ad 0 N pa pe g0 g1 g2 hN) (cwV 0 hts gX1_digest_X1_best rfl rfl rfl kv_X1_best ⟨Nat.le_of_ble_eq_true rfl, Nat.le_of_ble_eq_true rfl⟩) (va_recv hK hP (ci := 1) (q0 := 0) rfl rfl) (hP.sub [0, 1, 2, 3] rfl) (hK.sub [0, 1] rfl) rfl hl.1 rfl (Nat.le_of_ble_eq_true rfl) dX1_digest_81 (show 1 ≤ 24 by omega) (show 10 ≤ 125 by omega) hS (fun H locs hsm hS => ?_)
  have hP := hsm.P hP
  refine va_iast hx hb hK hP hD hS 4 2 rfl rfl (vp_in_nI (n := 9) (by decide) (by decide)) dX1_digest_84 (fun H locs hP hD hS => ?_)
  have hP : va_P D vwCl ((mw cI cZ ad 0 (nI N) pa pe g0 g1 g2) ++ [(q1, .inl (cA1, 10, .inl (upd (upd (upd (upd (upd (upd (upd (upd (upd (upd (fun _ => 0) 0 (nI N)) 1 (nI (m_n g0 N))) 2 pa) 3 pe) 4 (nI (m_ab g0 g1 g2 N))) 5 (nI (m_ap g0 g1 g2 N))) 6 (nI (m_tn g0 g1 g2 N))) 7 (m_lg g0 g1 g2 N (m_tn g0 g1 g2 N))) 8 (m_ma g0 g1 g2 N (m_n g0 N - 1))) 9 ((m_bs g0 g1 g2 N (m_n g0 N - 1)).1))))]) H := hP
  have hD : va_D A ((mw cI cZ ad 0 (nI N) pa pe g0 g1 g2) ++ [(q1, .inl (cA1, 10, .inl (upd (upd (upd (upd (upd (upd (upd (upd (upd (upd (fun _ => 0) 0 (nI N)) 1 (nI (m_n g0 N))) 2 pa) 3 pe) 4 (nI (m_ab g0 g1 g2 N))) 5 (nI (m_ap g0 g1 g2 N))) 6 (nI (m_tn g0 g1 g2 N))) 7 (m_lg g0 g1 g2 N (m_tn g0 g1 g2 N))) 8 (m_ma g0 g1 g2 N (m_n g0 N - 1))) 9 ((m_bs g0 g1 g2 N (m_n g0 N - 1)).1))))]) := hD
  refine lv_astore_n (lv' := [(2, .ref q1), (1, .int (nI (m_n g0 N))), (0, .ref (ad 0))]) hx hb dX1_digest_85 rfl hl (by decide) rfl (fun ls hl => ?_)
  refine lv_ldc2 hx hb hown (hts (.constantLong RX1 159 (1997)) (by decide +kernel)) dX1_digest_86 ?_
  refine lv_lstore_n (lv' := [(3, .long 1997), (2, .ref q1), (1, .int (nI (m_n g0 N))), (0, .ref (ad 0))]) hx hb dX1_digest_89 rfl hl (by decide) rfl (fun ls hl => ?_)
  refine lv_aload_n hx hb dX1_digest_90 rfl (lv_at hl 1 rfl) ?_
  refine lv_astore (lv' := [(5, .ref q1), (3, .long 1997), (2, .ref q1), (1, .int (nI (m_n g0 N))), (0, .ref (ad 0))]) hx hb dX1_digest_91 hl (by decide) rfl (fun ls hl => ?_)
  refine lv_aload hx hb dX1_digest_93 (lv_at hl 0 rfl) ?_
  refine va_alen hx hb hK hP 4 2 rfl rfl (v := 10) rfl dX1_digest_95 ?_
  refine lv_istore (lv' := [(6, .int 10), (5, .ref q1), (3, .long 1997), (2, .ref q1), (1, .int (nI (m_n g0 N))), (0, .ref (ad 0))]) hx hb dX1_digest_96 hl (by decide) rfl (fun ls hl => ?_)
  refine lv_iconst (v := 0) hx hb dX1_digest_98 (by decide) ?_
  refine lv_istore (lv' := [(7, .int 0), (6, .int 10), (5, .ref q1), (3, .long 1997), (2, .ref q1), (1, .int (nI (m_n g0 N))), (0, .ref (ad 0))]) hx hb dX1_digest_99 hl (by decide) rfl (fun ls hl => ?_)
  refine lv_iload hx hb dX1_digest_101 (lv_at hl 0 rfl) ?_
  refine lv_iload hx hb dX1_digest_103 (lv_at hl 1 rfl) ?_
  refine lv_icmp_ge (tgt := 131) hx hb dX1_digest_105 (by decide) (fun h9 => absurd h9 (by decide)) (fun _ => ?_)
  refine lv_aload hx hb dX1_digest_108 (lv_at hl 2 rfl) ?_
  refine lv_iload hx hb dX1_digest_110 (lv_at hl 0 rfl) ?_
  refine va_iald hx hb hK hP 4 2 rfl rfl (vp_in_nI (n := 0) (by decide) (by decide)) dX1_digest_112 ?_
  refine lv_istore (lv' := [(8, .int (nI N)), (7, .int 0), (6, .int 10), (5, .ref q1), (3, .long 1997), (2, .ref q1), (1, .int (nI (m_n g0 N))), (0, .ref (ad 0))]) hx hb dX1_digest_113 hl (by decide) rfl (fun ls hl => ?_)
  refine lv_lload_n hx hb dX1_digest_115 rfl (lv_at hl 4 rfl) ?_
  refine lv_ldc2 hx hb hown (hts (.constantLong RX1 161 (31)) (by decide +kernel)) dX1_digest_116 ?_
  refine lv_lmul hx hb dX1_digest_119 ?_
  refine lv_iload hx hb dX1_digest_120 (lv_at hl 0 rfl) ?_
  refine lv_i2l (v := ((nI N)).toInt64) hx hb dX1_digest_122 rfl ?_
  refine lv_ladd hx hb dX1_digest_123 ?_
  refine lv_lstore_n (lv' := [(3, .long (x_mix 1997 (nI N))), (8, .int (nI N)), (7, .int 0), (6, .int 10), (5, .ref q1), (2, .ref q1), (1, .int (nI (m_n g0 N))), (0, .ref (ad 0))]) hx hb dX1_digest_124 rfl hl (by decide) rfl (fun ls hl => ?_)
  refine lv_iinc (v := 1) (lv' := [(7, .int 1), (3, .long (x_mix 1997 (nI N))), (8, .int (nI N)), (6, .int 10), (5, .ref q1), (2, .ref q1), (1, .int (nI (m_n g0 N))), (0, .ref (ad 0))]) hx hb dX1_digest_125 hl (k := 2) rfl (by rfl) (by decide) rfl (fun ls hl => ?_)
  refine lv_goto (tgt := 101) hx hb dX1_digest_128 (by decide) ?_
  refine lv_iload hx hb dX1_digest_101 (lv_at hl 0 rfl) ?_
  refine lv_iload hx hb dX1_digest_103 (lv_at hl 3 rfl) ?_
  refine lv_icmp_ge (tgt := 131) hx hb dX1_digest_105 (by decide) (fun h9 => absurd h9 (by decide)) (fun _ => ?_)
  refine lv_aload hx hb dX1_digest_108 (lv_at hl 4 rfl) ?_
  refine lv_iload hx hb dX1_digest_110 (lv_at hl 0 rfl) ?_
  refine va_iald hx hb hK hP 4 2 rfl rfl (vp_in_nI (n := 1) (by decide) (by decide)) dX1_digest_112 ?_
  refine lv_istore (lv' := [(8, .int (nI (m_n g0 N))), (7, .int 1), (3, .long (x_mix 1997 (nI N))), (6, .int 10), (5, .ref q1), (2, .ref q1), (1, .int (nI (m_n g0 N))), (0, .ref (ad 0))]) hx hb dX1_digest_113 hl (by decide) rfl (fun ls hl => ?_)
  refine lv_lload_n hx hb dX1_digest_115 rfl (lv_at hl 2 rfl) ?_
  refine lv_ldc2 hx hb hown (hts (.constantLong RX1 161 (31)) (by decide +kernel)) dX1_digest_116 ?_
  refine lv_lmul hx hb dX1_digest_119 ?_
  refine lv_iload hx hb dX1_digest_120 (lv_at hl 0 rfl) ?_
  refine lv_i2l (v := ((nI (m_n g0 N))).toInt64) hx hb dX1_digest_122 rfl ?_
  refine lv_ladd hx hb dX1_digest_123 ?_
  refine lv_lstore_n (lv' := [(3, .long (x_mix (x_mix 1997 (nI N)) (nI (m_n g0 N)))), (8, .int (nI (m_n g0 N))), (7, .int 1), (6, .int 10), (5, .ref q1), (2, .ref q1), (1, .int (nI (m_n g0 N))), (0, .ref (ad 0))]) hx hb dX1_digest_124 rfl hl (by decide) rfl (fun ls hl => ?_)
  refine lv_iinc (v := 2) (lv' := [(7, .int 2), (3, .long (x_mix (x_mix 1997 (nI N)) (nI (m_n g0 N)))), (8, .int (nI (m_n g0 N))), (6, .int 10), (5, .ref q1), (2, .ref q1), (1, .int (nI (m_n g0 N))), (0, .ref (ad 0))]) hx hb dX1_digest_125 hl (k := 2) rfl (by rfl) (by decide) rfl (fun ls hl => ?_)
  refine lv_goto (tgt := 101) hx hb dX1_digest_128 (by decide) ?_
  refine lv_iload hx hb dX1_digest_101 (lv_at hl 0 rfl) ?_
  refine lv_iload hx hb dX1_digest_103 (lv_at hl 3 rfl) ?_
  refine lv_icmp_ge (tgt := 131) hx hb dX1_digest_105 (by decide) (fun h9 => absurd h9 (by decide)) (fun _ => ?_)
  refine lv_aload hx hb dX1_digest_108 (lv_at hl 4 rfl) ?_
  refine lv_iload hx hb dX1_digest_110 (lv_at hl 0 rfl) ?_
  refine va_iald hx hb hK hP 4 2 rfl rfl (vp_in_nI (n := 2) (by decide) (by decide)) dX1_digest_112 ?_
  refine lv_istore (lv' := [(8, .int pa), (7, .int 2), (3, .long (x_mix (x_mix 1997 (nI N)) (nI (m_n g0 N)))), (6, .int 10), (5, .ref q1), (2, .ref q1), (1, .int (nI (m_n g0 N))), (0, .ref (ad 0))]) hx hb dX1_digest_113 hl (by decide) rfl (fun ls hl => ?_)
  refine lv_lload_n hx hb dX1_digest_115 rfl (lv_at hl 2 rfl) ?_
  refine lv_ldc2 hx hb hown (hts (.constantLong RX1 161 (31)) (by decide +kernel)) dX1_digest_116 ?_
  refine lv_lmul hx hb dX1_digest_119 ?_
  refine lv_iload hx hb dX1_digest_120 (lv_at hl 0 rfl) ?_
  refine lv_i2l (v := (pa).toInt64) hx hb dX1_digest_122 rfl ?_
  refine lv_ladd hx hb dX1_digest_123 ?_
  refine lv_lstore_n (lv' := [(3, .long (x_mix (x_mix (x_mix 1997 (nI N)) (nI (m_n g0 N))) pa)), (8, .int pa), (7, .int 2), (6, .int 10), (5, .ref q1), (2, .ref q1), (1, .int (nI (m_n g0 N))), (0, .ref (ad 0))]) hx hb dX1_digest_124 rfl hl (by decide) rfl (fun ls hl => ?_)
  refine lv_iinc (v := 3) (lv' := [(7, .int 3), (3, .long (x_mix (x_mix (x_mix 1997 (nI N)) (nI (m_n g0 N))) pa)), (8, .int pa), (6, .int 10), (5, .ref q1), (2, .ref q1), (1, .int (nI (m_n g0 N))), (0, .ref (ad 0))]) hx hb dX1_digest_125 hl (k := 2) rfl (by rfl) (by decide) rfl (fun ls hl => ?_)
  refine lv_goto (tgt := 101) hx hb dX1_digest_128 (by decide) ?_
  refine lv_iload hx hb dX1_digest_101 (lv_at hl 0 rfl) ?_
  refine lv_iload hx hb dX1_digest_103 (lv_at hl 3 rfl) ?_
  refine lv_icmp_ge (tgt := 131) hx hb dX1_digest_105 (by decide) (fun h9 => absurd h9 (by decide)) (fun _ => ?_)
  refine lv_aload hx hb dX1_digest_108 (lv_at hl 4 rfl) ?_
  refine lv_iload hx hb dX1_digest_110 (lv_at hl 0 rfl) ?_
  refine va_iald hx hb hK hP 4 2 rfl rfl (vp_in_nI (n := 3) (by decide) (by decide)) dX1_digest_112 ?_
  refine lv_istore (lv' := [(8, .int pe), (7, .int 3), (3, .long (x_mix (x_mix (x_mix 1997 (nI N)) (nI (m_n g0 N))) pa)), (6, .int 10), (5, .ref q1), (2, .ref q1), (1, .int (nI (m_n g0 N))), (0, .ref (ad 0))]) hx hb dX1_digest_113 hl (by decide) rfl (fun ls hl => ?_)
  refine lv_lload_n hx hb dX1_digest_115 rfl (lv_at hl 2 rfl) ?_
  refine lv_ldc2 hx hb hown (hts (.constantLong RX1 161 (31)) (by decide +kernel)) dX1_digest_116 ?_
  refine lv_lmul hx hb dX1_digest_119 ?_
  refine lv_iload hx hb dX1_digest_120 (lv_at hl 0 rfl) ?_
  refine lv_i2l (v := (pe).toInt64) hx hb dX1_digest_122 rfl ?_
  refine lv_ladd hx hb dX1_digest_123 ?_
  refine lv_lstore_n (lv' := [(3, .long (x_mix (x_mix (x_mix (x_mix 1997 (nI N)) (nI (m_n g0 N))) pa) pe)), (8, .int pe), (7, .int 3), (6, .int 10), (5, .ref q1), (2, .ref q1), (1, .int (nI (m_n g0 N))), (0, .ref (ad 0))]) hx hb dX1_digest_124 rfl hl (by decide) rfl (fun ls hl => ?_)
  refine lv_iinc (v := 4) (lv' := [(7, .int 4), (3, .long (x_mix (x_mix (x_mix (x_mix 1997 (nI N)) (nI (m_n g0 N))) pa) pe)), (8, .int pe), (6, .int 10), (5, .ref q1), (2, .ref q1), (1, .int (nI (m_n g0 N))), (0, .ref (ad 0))]) hx hb dX1_digest_125 hl (k := 2) rfl (by rfl) (by decide) rfl (fun ls hl => ?_)
  refine lv_goto (tgt := 101) hx hb dX1_digest_128 (by decide) ?_
  refine lv_iload hx hb dX1_digest_101 (lv_at hl 0 rfl) ?_
  refine lv_iload hx hb dX1_digest_103 (lv_at hl 3 rfl) ?_
  refine lv_icmp_ge (tgt := 131) hx hb dX1_digest_105 (by decide) (fun h9 => absurd h9 (by decide)) (fun _ => ?_)
  refine lv_aload hx hb dX1_digest_108 (lv_at hl 4 rfl) ?_
  refine lv_iload hx hb dX1_digest_110 (lv_at hl 0 rfl) ?_
  refine va_iald hx hb hK hP 4 2 rfl rfl (vp_in_nI (n := 4) (by decide) (by decide)) dX1_digest_112 ?_
  refine lv_istore (lv' := [(8, .int (nI (m_ab g0 g1 g2 N))), (7, .int 4), (3, .long (x_mix (x_mix (x_mix (x_mix 1997 (nI N)) (nI (m_n g0 N))) pa) pe)), (6, .int 10), (5, .ref q1), (2, .ref q1), (1, .int (nI (m_n g0 N))), (0, .ref (ad 0))]) hx hb dX1_digest_113 hl (by decide) rfl (fun ls hl => ?_)
  refine lv_lload_n hx hb dX1_digest_115 rfl (lv_at hl 2 rfl) ?_
  refine lv_ldc2 hx hb hown (hts (.constantLong RX1 161 (31)) (by decide +kernel)) dX1_digest_116 ?_
  refine lv_lmul hx hb dX1_digest_119 ?_
  refine lv_iload hx hb dX1_digest_120 (lv_at hl 0 rfl) ?_
  refine lv_i2l (v := ((nI (m_ab g0 g1 g2 N))).toInt64) hx hb dX1_digest_122 rfl ?_
  refine lv_ladd hx hb dX1_digest_123 ?_
  refine lv_lstore_n (lv' := [(3, .long (x_mix (x_mix (x_mix (x_mix (x_mix 1997 (nI N)) (nI (m_n g0 N))) pa) pe) (nI (m_ab g0 g1 g2 N)))), (8, .int (nI (m_ab g0 g1 g2 N))), (7, .int 4), (6, .int 10), (5, .ref q1), (2, .ref q1), (1, .int (nI (m_n g0 N))), (0, .ref (ad 0))]) hx hb dX1_digest_124 rfl hl (by decide) rfl (fun ls hl => ?_)
  refine lv_iinc (v := 5) (lv' := [(7, .int 5), (3, .long (x_mix (x_mix (x_mix (x_mix (x_mix 1997 (nI N)) (nI (m_n g0 N))) pa) pe) (nI (m_ab g0 g1 g2 N)))), (8, .int (nI (m_ab g0 g1 g2 N))), (6, .int 10), (5, .ref q1), (2, .ref q1), (1, .int (nI (m_n g0 N))), (0, .ref (ad 0))]) hx hb dX1_digest_125 hl (k := 2) rfl (by rfl) (by decide) rfl (fun ls hl => ?_)
  refine lv_goto (tgt := 101) hx hb dX1_digest_128 (by decide) ?_
  refine lv_iload hx hb dX1_digest_101 (lv_at hl 0 rfl) ?_
  refine lv_iload hx hb dX1_digest_103 (lv_at hl 3 rfl) ?_
  refine lv_icmp_ge (tgt := 131) hx hb dX1_digest_105 (by decide) (fun h9 => absurd h9 (by decide)) (fun _ => ?_)
  refine lv_aload hx hb dX1_digest_108 (lv_at hl 4 rfl) ?_
  refine lv_iload hx hb dX1_digest_110 (lv_at hl 0 rfl) ?_
  refine va_iald hx hb hK hP 4 2 rfl rfl (vp_in_nI (n := 5) (by decide) (by decide)) dX1_digest_112 ?_
  refine lv_istore (lv' := [(8, .int (nI (m_ap g0 g1 g2 N))), (7, .int 5), (3, .long (x_mix (x_mix (x_mix (x_mix (x_mix 1997 (nI N)) (nI (m_n g0 N))) pa) pe) (nI (m_ab g0 g1 g2 N)))), (6, .int 10), (5, .ref q1), (2, .ref q1), (1, .int (nI (m_n g0 N))), (0, .ref (ad 0))]) hx hb dX1_digest_113 hl (by decide) rfl (fun ls hl => ?_)
  refine lv_lload_n hx hb dX1_digest_115 rfl (lv_at hl 2 rfl) ?_
  refine lv_ldc2 hx hb hown (hts (.constantLong RX1 161 (31)) (by decide +kernel)) dX1_digest_116 ?_
  refine lv_lmul hx hb dX1_digest_119 ?_
  refine lv_iload hx hb dX1_digest_120 (lv_at hl 0 rfl) ?_
  refine lv_i2l (v := ((nI (m_ap g0 g1 g2 N))).toInt64) hx hb dX1_digest_122 rfl ?_
  refine lv_ladd hx hb dX1_digest_123 ?_
  refine lv_lstore_n (lv' := [(3, .long (x_mix (x_mix (x_mix (x_mix (x_mix (x_mix 1997 (nI N)) (nI (m_n g0 N))) pa) pe) (nI (m_ab g0 g1 g2 N))) (nI (m_ap g0 g1 g2 N)))), (8, .int (nI (m_ap g0 g1 g2 N))), (7, .int 5), (6, .int 10), (5, .ref q1), (2, .ref q1), (1, .int (nI (m_n g0 N))), (0, .ref (ad 0))]) hx hb dX1_digest_124 rfl hl (by decide) rfl (fun ls hl => ?_)
  refine lv_iinc (v := 6) (lv' := [(7, .int 6), (3, .long (x_mix (x_mix (x_mix (x_mix (x_mix (x_mix 1997 (nI N)) (nI (m_n g0 N))) pa) pe) (nI (m_ab g0 g1 g2 N))) (nI (m_ap g0 g1 g2 N)))), (8, .int (nI (m_ap g0 g1 g2 N))), (6, .int 10), (5, .ref q1), (2, .ref q1), (1, .int (nI (m_n g0 N))), (0, .ref (ad 0))]) hx hb dX1_digest_125 hl (k := 2) rfl (by rfl) (by decide) rfl (fun ls hl => ?_)
  refine lv_goto (tgt := 101) hx hb dX1_digest_128 (by decide) ?_
  refine lv_iload hx hb dX1_digest_101 (lv_at hl 0 rfl) ?_
  refine lv_iload hx hb dX1_digest_103 (lv_at hl 3 rfl) ?_
  refine lv_icmp_ge (tgt := 131) hx hb dX1_digest_105 (by decide) (fun h9 => absurd h9 (by decide)) (fun _ => ?_)
  refine lv_aload hx hb dX1_digest_108 (lv_at hl 4 rfl) ?_
  refine lv_iload hx hb dX1_digest_110 (lv_at hl 0 rfl) ?_
  refine va_iald hx hb hK hP 4 2 rfl rfl (vp_in_nI (n := 6) (by decide) (by decide)) dX1_digest_112 ?_
  refine lv_istore (lv' := [(8, .int (nI (m_tn g0 g1 g2 N))), (7, .int 6), (3, .long (x_mix (x_mix (x_mix (x_mix (x_mix (x_mix 1997 (nI N)) (nI (m_n g0 N))) pa) pe) (nI (m_ab g0 g1 g2 N))) (nI (m_ap g0 g1 g2 N)))), (6, .int 10), (5, .ref q1), (2, .ref q1), (1, .int (nI (m_n g0 N))), (0, .ref (ad 0))]) hx hb dX1_digest_113 hl (by decide) rfl (fun ls hl => ?_)
  refine lv_lload_n hx hb dX1_digest_115 rfl (lv_at hl 2 rfl) ?_
  refine lv_ldc2 hx hb hown (hts (.constantLong RX1 161 (31)) (by decide +kernel)) dX1_digest_116 ?_
  refine lv_lmul hx hb dX1_digest_119 ?_
  refine lv_iload hx hb dX1_digest_120 (lv_at hl 0 rfl) ?_
  refine lv_i2l (v := ((nI (m_tn g0 g1 g2 N))).toInt64) hx hb dX1_digest_122 rfl ?_
  refine lv_ladd hx hb dX1_digest_123 ?_
  refine lv_lstore_n (lv' := [(3, .long (x_mix (x_mix (x_mix (x_mix (x_mix (x_mix (x_mix 1997 (nI N)) (nI (m_n g0 N))) pa) pe) (nI (m_ab g0 g1 g2 N))) (nI (m_ap g0 g1 g2 N))) (nI (m_tn g0 g1 g2 N)))), (8, .int (nI (m_tn g0 g1 g2 N))), (7, .int 6), (6, .int 10), (5, .ref q1), (2, .ref q1), (1, .int (nI (m_n g0 N))), (0, .ref (ad 0))]) hx hb dX1_digest_124 rfl hl (by decide) rfl (fun ls hl => ?_)
  refine lv_iinc (v := 7) (lv' := [(7, .int 7), (3, .long (x_mix (x_mix (x_mix (x_mix (x_mix (x_mix (x_mix 1997 (nI N)) (nI (m_n g0 N))) pa) pe) (nI (m_ab g0 g1 g2 N))) (nI (m_ap g0 g1 g2 N))) (nI (m_tn g0 g1 g2 N)))), (8, .int (nI (m_tn g0 g1 g2 N))), (6, .int 10), (5, .ref q1), (2, .ref q1), (1, .int (nI (m_n g0 N))), (0, .ref (ad 0))]) hx hb dX1_digest_125 hl (k := 2) rfl (by rfl) (by decide) rfl (fun ls hl => ?_)
  refine lv_goto (tgt := 101) hx hb dX1_digest_128 (by decide) ?_
  refine lv_iload hx hb dX1_digest_101 (lv_at hl 0 rfl) ?_
  refine lv_iload hx hb dX1_digest_103 (lv_at hl 3 rfl) ?_
  refine lv_icmp_ge (tgt := 131) hx hb dX1_digest_105 (by decide) (fun h9 => absurd h9 (by decide)) (fun _ => ?_)
  refine lv_aload hx hb dX1_digest_108 (lv_at hl 4 rfl) ?_
  refine lv_iload hx hb dX1_digest_110 (lv_at hl 0 rfl) ?_
  refine va_iald hx hb hK hP 4 2 rfl rfl (vp_in_nI (n := 7) (by decide) (by decide)) dX1_digest_112 ?_
  refine lv_istore (lv' := [(8, .int (m_lg g0 g1 g2 N (m_tn g0 g1 g2 N))), (7, .int 7), (3, .long (x_mix (x_mix (x_mix (x_mix (x_mix (x_mix (x_mix 1997 (nI N)) (nI (m_n g0 N))) pa) pe) (nI (m_ab g0 g1 g2 N))) (nI (m_ap g0 g1 g2 N))) (nI (m_tn g0 g1 g2 N)))), (6, .int 10), (5, .ref q1), (2, .ref q1), (1, .int (nI (m_n g0 N))), (0, .ref (ad 0))]) hx hb dX1_digest_113 hl (by decide) rfl (fun ls hl => ?_)
  refine lv_lload_n hx hb dX1_digest_115 rfl (lv_at hl 2 rfl) ?_
  refine lv_ldc2 hx hb hown (hts (.constantLong RX1 161 (31)) (by decide +kernel)) dX1_digest_116 ?_
  refine lv_lmul hx hb dX1_digest_119 ?_
  refine lv_iload hx hb dX1_digest_120 (lv_at hl 0 rfl) ?_
  refine lv_i2l (v := ((m_lg g0 g1 g2 N (m_tn g0 g1 g2 N))).toInt64) hx hb dX1_digest_122 rfl ?_
  refine lv_ladd hx hb dX1_digest_123 ?_
  refine lv_lstore_n (lv' := [(3, .long (x_mix (x_mix (x_mix (x_mix (x_mix (x_mix (x_mix (x_mix 1997 (nI N)) (nI (m_n g0 N))) pa) pe) (nI (m_ab g0 g1 g2 N))) (nI (m_ap g0 g1 g2 N))) (nI (m_tn g0 g1 g2 N))) (m_lg g0 g1 g2 N (m_tn g0 g1 g2 N)))), (8, .int (m_lg g0 g1 g2 N (m_tn g0 g1 g2 N))), (7, .int 7), (6, .int 10), (5, .ref q1), (2, .ref q1), (1, .int (nI (m_n g0 N))), (0, .ref (ad 0))]) hx hb dX1_digest_124 rfl hl (by decide) rfl (fun ls hl => ?_)
  refine lv_iinc (v := 8) (lv' := [(7, .int 8), (3, .long (x_mix (x_mix (x_mix (x_mix (x_mix (x_mix (x_mix (x_mix 1997 (nI N)) (nI (m_n g0 N))) pa) pe) (nI (m_ab g0 g1 g2 N))) (nI (m_ap g0 g1 g2 N))) (nI (m_tn g0 g1 g2 N))) (m_lg g0 g1 g2 N (m_tn g0 g1 g2 N)))), (8, .int (m_lg g0 g1 g2 N (m_tn g0 g1 g2 N))), (6, .int 10), (5, .ref q1), (2, .ref q1), (1, .int (nI (m_n g0 N))), (0, .ref (ad 0))]) hx hb dX1_digest_125 hl (k := 2) rfl (by rfl) (by decide) rfl (fun ls hl => ?_)
  refine lv_goto (tgt := 101) hx hb dX1_digest_128 (by decide) ?_
  refine lv_iload hx hb dX1_digest_101 (lv_at hl 0 rfl) ?_
  refine lv_iload hx hb dX1_digest_103 (lv_at hl 3 rfl) ?_
  refine lv_icmp_ge (tgt := 131) hx hb dX1_digest_105 (by decide) (fun h9 => absurd h9 (by decide)) (fun _ => ?_)
  refine lv_aload hx hb dX1_digest_108 (lv_at hl 4 rfl) ?_
  refine lv_iload hx hb dX1_digest_110 (lv_at hl 0 rfl) ?_
  refine va_iald hx hb hK hP 4 2 rfl rfl (vp_in_nI (n := 8) (by decide) (by decide)) dX1_digest_112 ?_
  refine lv_istore (lv' := [(8, .int (m_ma g0 g1 g2 N (m_n g0 N - 1))), (7, .int 8), (3, .long (x_mix (x_mix (x_mix (x_mix (x_mix (x_mix (x_mix (x_mix 1997 (nI N)) (nI (m_n g0 N))) pa) pe) (nI (m_ab g0 g1 g2 N))) (nI (m_ap g0 g1 g2 N))) (nI (m_tn g0 g1 g2 N))) (m_lg g0 g1 g2 N (m_tn g0 g1 g2 N)))), (6, .int 10), (5, .ref q1), (2, .ref q1), (1, .int (nI (m_n g0 N))), (0, .ref (ad 0))]) hx hb dX1_digest_113 hl (by decide) rfl (fun ls hl => ?_)
  refine lv_lload_n hx hb dX1_digest_115 rfl (lv_at hl 2 rfl) ?_
  refine lv_ldc2 hx hb hown (hts (.constantLong RX1 161 (31)) (by decide +kernel)) dX1_digest_116 ?_
  refine lv_lmul hx hb dX1_digest_119 ?_
  refine lv_iload hx hb dX1_digest_120 (lv_at hl 0 rfl) ?_
  refine lv_i2l (v := ((m_ma g0 g1 g2 N (m_n g0 N - 1))).toInt64) hx hb dX1_digest_122 rfl ?_
  refine lv_ladd hx hb dX1_digest_123 ?_
  refine lv_lstore_n (lv' := [(3, .long (x_mix (x_mix (x_mix (x_mix (x_mix (x_mix (x_mix (x_mix (x_mix 1997 (nI N)) (nI (m_n g0 N))) pa) pe) (nI (m_ab g0 g1 g2 N))) (nI (m_ap g0 g1 g2 N))) (nI (m_tn g0 g1 g2 N))) (m_lg g0 g1 g2 N (m_tn g0 g1 g2 N))) (m_ma g0 g1 g2 N (m_n g0 N - 1)))), (8, .int (m_ma g0 g1 g2 N (m_n g0 N - 1))), (7, .int 8), (6, .int 10), (5, .ref q1), (2, .ref q1), (1, .int (nI (m_n g0 N))), (0, .ref (ad 0))]) hx hb dX1_digest_124 rfl hl (by decide) rfl (fun ls hl => ?_)
  refine lv_iinc (v := 9) (lv' := [(7, .int 9), (3, .long (x_mix (x_mix (x_mix (x_mix (x_mix (x_mix (x_mix (x_mix (x_mix 1997 (nI N)) (nI (m_n g0 N))) pa) pe) (nI (m_ab g0 g1 g2 N))) (nI (m_ap g0 g1 g2 N))) (nI (m_tn g0 g1 g2 N))) (m_lg g0 g1 g2 N (m_tn g0 g1 g2 N))) (m_ma g0 g1 g2 N (m_n g0 N - 1)))), (8, .int (m_ma g0 g1 g2 N (m_n g0 N - 1))), (6, .int 10), (5, .ref q1), (2, .ref q1), (1, .int (nI (m_n g0 N))), (0, .ref (ad 0))]) hx hb dX1_digest_125 hl (k := 2) rfl (by rfl) (by decide) rfl (fun ls hl => ?_)
  refine lv_goto (tgt := 101) hx hb dX1_digest_128 (by decide) ?_
  refine lv_iload hx hb dX1_digest_101 (lv_at hl 0 rfl) ?_
  refine lv_iload hx hb dX1_digest_103 (lv_at hl 3 rfl) ?_
  refine lv_icmp_ge (tgt := 131) hx hb dX1_digest_105 (by decide) (fun h9 => absurd h9 (by decide)) (fun _ => ?_)
  refine lv_aload hx hb dX1_digest_108 (lv_at hl 4 rfl) ?_
  refine lv_iload hx hb dX1_digest_110 (lv_at hl 0 rfl) ?_
  refine va_iald hx hb hK hP 4 2 rfl rfl (vp_in_nI (n := 9) (by decide) (by decide)) dX1_digest_112 ?_
  refine lv_istore (lv' := [(8, .int ((m_bs g0 g1 g2 N (m_n g0 N - 1)).1)), (7, .int 9), (3, .long (x_mix (x_mix (x_mix (x_mix (x_mix (x_mix (x_mix (x_mix (x_mix 1997 (nI N)) (nI (m_n g0 N))) pa) pe) (nI (m_ab g0 g1 g2 N))) (nI (m_ap g0 g1 g2 N))) (nI (m_tn g0 g1 g2 N))) (m_lg g0 g1 g2 N (m_tn g0 g1 g2 N))) (m_ma g0 g1 g2 N (m_n g0 N - 1)))), (6, .int 10), (5, .ref q1), (2, .ref q1), (1, .int (nI (m_n g0 N))), (0, .ref (ad 0))]) hx hb dX1_digest_113 hl (by decide) rfl (fun ls hl => ?_)
  refine lv_lload_n hx hb dX1_digest_115 rfl (lv_at hl 2 rfl) ?_
  refine lv_ldc2 hx hb hown (hts (.constantLong RX1 161 (31)) (by decide +kernel)) dX1_digest_116 ?_
  refine lv_lmul hx hb dX1_digest_119 ?_
  refine lv_iload hx hb dX1_digest_120 (lv_at hl 0 rfl) ?_
  refine lv_i2l (v := ((m_bs g0 g1 g2 N (m_n g0 N - 1)).1).toInt64) hx hb dX1_digest_122 rfl ?_
  refine lv_ladd hx hb dX1_digest_123 ?_
  refine lv_lstore_n (lv' := [(3, .long (x_mix (x_mix (x_mix (x_mix (x_mix (x_mix (x_mix (x_mix (x_mix (x_mix 1997 (nI N)) (nI (m_n g0 N))) pa) pe) (nI (m_ab g0 g1 g2 N))) (nI (m_ap g0 g1 g2 N))) (nI (m_tn g0 g1 g2 N))) (m_lg g0 g1 g2 N (m_tn g0 g1 g2 N))) (m_ma g0 g1 g2 N (m_n g0 N - 1))) ((m_bs g0 g1 g2 N (m_n g0 N - 1)).1))), (8, .int ((m_bs g0 g1 g2 N (m_n g0 N - 1)).1)), (7, .int 9), (6, .int 10), (5, .ref q1), (2, .ref q1), (1, .int (nI (m_n g0 N))), (0, .ref (ad 0))]) hx hb dX1_digest_124 rfl hl (by decide) rfl (fun ls hl => ?_)
  refine lv_iinc (v := 10) (lv' := [(7, .int 10), (3, .long (x_mix (x_mix (x_mix (x_mix (x_mix (x_mix (x_mix (x_mix (x_mix (x_mix 1997 (nI N)) (nI (m_n g0 N))) pa) pe) (nI (m_ab g0 g1 g2 N))) (nI (m_ap g0 g1 g2 N))) (nI (m_tn g0 g1 g2 N))) (m_lg g0 g1 g2 N (m_tn g0 g1 g2 N))) (m_ma g0 g1 g2 N (m_n g0 N - 1))) ((m_bs g0 g1 g2 N (m_n g0 N - 1)).1))), (8, .int ((m_bs g0 g1 g2 N (m_n g0 N - 1)).1)), (6, .int 10), (5, .ref q1), (2, .ref q1), (1, .int (nI (m_n g0 N))), (0, .ref (ad 0))]) hx hb dX1_digest_125 hl (k := 2) rfl (by rfl) (by decide) rfl (fun ls hl => ?_)
  refine lv_goto (tgt := 101) hx hb dX1_digest_128 (by decide) ?_
  refine lv_iload hx hb dX1_digest_101 (lv_at hl 0 rfl) ?_
  refine lv_iload hx hb dX1_digest_103 (lv_at hl 3 rfl) ?_
  refine lv_icmp_ge (tgt := 131) hx hb dX1_digest_105 (by decide) (fun _ => ?_) (fun h9 => absurd (by decide) h9)
  refine lv_iconst (v := 0) hx hb dX1_digest_131 (by decide) ?_
  refine lv_istore (lv' := [(5, .int 0), (7, .int 10), (3, .long (x_mix (x_mix (x_mix (x_mix (x_mix (x_mix (x_mix (x_mix (x_mix (x_mix 1997 (nI N)) (nI (m_n g0 N))) pa) pe) (nI (m_ab g0 g1 g2 N))) (nI (m_ap g0 g1 g2 N))) (nI (m_tn g0 g1 g2 N))) (m_lg g0 g1 g2 N (m_tn g0 g1 g2 N))) (m_ma g0 g1 g2 N (m_n g0 N - 1))) ((m_bs g0 g1 g2 N (m_n g0 N - 1)).1))), (8, .int ((m_bs g0 g1 g2 N (m_n g0 N - 1)).1)), (6, .int 10), (2, .ref q1), (1, .int (nI (m_n g0 N))), (0, .ref (ad 0))]) hx hb dX1_digest_132 hl (by decide) rfl (fun ls hl => ?_)
  have hP : va_P D vwCl (mw cI cZ ad 0 (nI N) pa pe g0 g1 g2) H := hP.sub [0, 1, 2, 3] rfl
  have hD : va_D A (mw cI cZ ad 0 (nI N) pa pe g0 g1 g2) := hD.sub [0, 1, 2, 3] rfl rfl
  have hK := hK.sub (tys' := [(cI, .int), (cZ, .boolean)]) [0, 1] rfl
  have lo_134 : ∀ (fu i : Nat), N - i < fu → i ≤ N → ∀ (H : Heap) (locs : List Loc) (ls : Array Slot), va_P D vwCl (mw cI cZ ad 0 (nI N) pa pe g0 g1 g2) H → va_S A s.heap H locs → lv_has ls 11 [(3, .long (m_dr g0 g1 (m_d0 pa pe g0 g1 g2 N) i)), (5, .int (nI i)), (0, .ref (ad 0)), (1, .int (nI (m_n g0 N)))] → W p l e ({ frames := 8, cells := 24, slots := 125, locals := 176 } : Room) s m [.ref (ad 0)].toArray below meth c H locs (1) (10) (m_EL D below [.ref (ad 0)].toArray s (m_dgst pa pe g0 g1 g2 N) (mw cI cZ ad 0 (nI N) pa pe g0 g1 g2) A 24 125) (F0 m 134 ls []) := by
    intro fu
    induction fu with
    | zero => intro i hi; exact absurd hi (Nat.not_lt_zero _)
    | succ fu ih =>
      intro i hi hiN H locs ls hP hS hl
      have hD : va_D A (mw cI cZ ad 0 (nI N) pa pe g0 g1 g2) := q_Dc (L := [ad 0, ad 1, ad 2, ad 3]) hD rfl rfl
      refine lv_iload hx hb dX1_digest_134 (lv_at hl 1 rfl) ?_
      refine lv_aload_n hx hb dX1_digest_136 rfl (lv_at hl 2 rfl) ?_
      refine va_get (D := D) (ci := 1) (v := .int (nI N)) (C := RX1) (T := TX1) (N := 7) hx hb hts hin hown hK hP 0 rfl rfl 1 (by decide) (hts (.fieldLink RX1 31 "SplicedTalkModel" "remarks" "I") (by decide +kernel)) (fun _ h9 => h9) rfl dX1_digest_137 ?_
      refine lv_icmp_ge (tgt := 187) hx hb dX1_digest_140 (by decide) (fun c_140 => ?_) (fun c_140 => ?_)
      · have hi9 := nI_ge' hiN (by omega) c_140
        rw [hi9] at hl
        refine lv_iconst (v := 0) hx hb dX1_digest_187 (by decide) ?_
        refine lv_istore (lv' := [(5, .int 0), (3, .long (m_dr g0 g1 (m_d0 pa pe g0 g1 g2 N) N)), (0, .ref (ad 0)), (1, .int (nI (m_n g0 N)))]) hx hb dX1_digest_188 hl (by decide) rfl (fun ls hl => ?_)
        have lo_190 : ∀ (fu i : Nat), (m_n g0 N) - i < fu → i ≤ (m_n g0 N) → ∀ (H : Heap) (locs : List Loc) (ls : Array Slot), va_P D vwCl (mw cI cZ ad 0 (nI N) pa pe g0 g1 g2) H → va_S A s.heap H locs → lv_has ls 11 [(3, .long (m_dw g0 g1 g2 N (m_dr g0 g1 (m_d0 pa pe g0 g1 g2 N) N) i)), (5, .int (nI i)), (0, .ref (ad 0)), (1, .int (nI (m_n g0 N)))] → W p l e ({ frames := 8, cells := 24, slots := 125, locals := 176 } : Room) s m [.ref (ad 0)].toArray below meth c H locs (1) (10) (m_EL D below [.ref (ad 0)].toArray s (m_dgst pa pe g0 g1 g2 N) (mw cI cZ ad 0 (nI N) pa pe g0 g1 g2) A 24 125) (F0 m 190 ls []) := by
          intro fu
          induction fu with
          | zero => intro i hi; exact absurd hi (Nat.not_lt_zero _)
          | succ fu ih =>
            intro i hi hiN H locs ls hP hS hl
            have hD : va_D A (mw cI cZ ad 0 (nI N) pa pe g0 g1 g2) := q_Dc (L := [ad 0, ad 1, ad 2, ad 3]) hD rfl rfl
            refine lv_iload hx hb dX1_digest_190 (lv_at hl 1 rfl) ?_
            refine lv_iload_n hx hb dX1_digest_192 rfl (lv_at hl 3 rfl) ?_
            refine lv_icmp_ge (tgt := 249) hx hb dX1_digest_193 (by decide) (fun c_193 => ?_) (fun c_193 => ?_)
            · have hi9 := nI_ge' hiN (by omega) c_193
              rw [hi9] at hl
              refine lv_iconst (v := 0) hx hb dX1_digest_249 (by decide) ?_
              refine lv_istore (lv' := [(5, .int 0), (3, .long (m_dw g0 g1 g2 N (m_dr g0 g1 (m_d0 pa pe g0 g1 g2 N) N) (m_n g0 N))), (0, .ref (ad 0)), (1, .int (nI (m_n g0 N)))]) hx hb dX1_digest_250 hl (by decide) rfl (fun ls hl => ?_)
              have lo_252 : ∀ (fu i : Nat), (m_n g0 N - 1) - i < fu → i ≤ (m_n g0 N - 1) → ∀ (H : Heap) (locs : List Loc) (ls : Array Slot), va_P D vwCl (mw cI cZ ad 0 (nI N) pa pe g0 g1 g2) H → va_S A s.heap H locs → lv_has ls 11 [(3, .long (m_dg g0 g1 g2 N (m_dw g0 g1 g2 N (m_dr g0 g1 (m_d0 pa pe g0 g1 g2 N) N) (m_n g0 N)) i)), (5, .int (nI i)), (0, .ref (ad 0)), (1, .int (nI (m_n g0 N)))] → W p l e ({ frames := 8, cells := 24, slots := 125, locals := 176 } : Room) s m [.ref (ad 0)].toArray below meth c H locs (1 + i) (10 + 5 * i) (m_EL D below [.ref (ad 0)].toArray s (m_dgst pa pe g0 g1 g2 N) (mw cI cZ ad 0 (nI N) pa pe g0 g1 g2) A 24 125) (F0 m 252 ls []) := by
                intro fu
                induction fu with
                | zero => intro i hi; exact absurd hi (Nat.not_lt_zero _)
                | succ fu ih =>
                  intro i hi hiN H locs ls hP hS hl
                  have hD : va_D A (mw cI cZ ad 0 (nI N) pa pe g0 g1 g2) := q_Dc (L := [ad 0, ad 1, ad 2, ad 3]) hD rfl rfl
                  refine lv_iload hx hb dX1_digest_252 (lv_at hl 1 rfl) ?_
                  refine lv_iload_n hx hb dX1_digest_254 rfl (lv_at hl 3 rfl) ?_
                  refine lv_iconst (v := 1) hx hb dX1_digest_255 (by decide) ?_
                  refine lv_isub hx hb dX1_digest_256 ?_
                  refine lv_icmp_ge (tgt := 379) hx hb dX1_digest_257 (by decide) (fun c_257 => ?_) (fun c_257 => ?_)
                  · have hi9 := m_gt (by omega) hiN c_257
                    refine lv_lload_n hx hb dX1_digest_379 rfl (lv_at hl 0 rfl) ?_
                    refine W.widen (k := 24) (n := 125) (by omega) (by omega) ?_
                    exact m_retL hx hb hr hlocks hS hP (by rw [hi9]; rfl) dX1_digest_380
                  · have hi9 := m_gf (by omega) hiN c_257
                    refine lv_iconst (v := 5) hx hb dX1_digest_260 (by decide) ?_
                    refine va_newa (atype := .int) hx hb (hts (.arrayClass .int) (by decide +kernel)) (ty := .int) rfl hK hP hD hS hA (N' := 5) (a0 := (5, .inl (fun _ => 0))) (fun cA => rfl) (by decide) (by decide) (Nat.le_of_ble_eq_true rfl) (show 1 + i + 1 ≤ 24 by omega) (show 10 + 5 * i + 5 ≤ 125 by omega) dX1_digest_261 (fun q2 cA2 H hK hP hD hS => ?_)
                    have hP : va_P D vwCl ((mw cI cZ ad 0 (nI N) pa pe g0 g1 g2) ++ [(q2, .inl (cA2, 5, .inl (fun _ => 0)))]) H := hP
                    have hD : va_D A ((mw cI cZ ad 0 (nI N) pa pe g0 g1 g2) ++ [(q2, .inl (cA2, 5, .inl (fun _ => 0)))]) := hD
                    refine lv_dup hx hb dX1_digest_263 rfl ?_
                    refine lv_iconst (v := 0) hx hb dX1_digest_264 (by decide) ?_
                    refine lv_aload_n hx hb dX1_digest_265 rfl (lv_at hl 2 rfl) ?_
                    refine lv_iload hx hb dX1_digest_266 (lv_at hl 1 rfl) ?_
                    refine q_callV (As := [.int (nI i)]) (rest := [.int 0, .ref q2, .ref q2]) ⟨hx, hb, hml, hown, hts⟩ (c_X1_coughsOf l D cI cZ ad 0 N pa pe g0 g1 g2 hN i (by omega)) (cwV 1 hts gX1_digest_X1_coughsOf rfl rfl rfl kv_X1_coughsOf ⟨Nat.le_of_ble_eq_true rfl, Nat.le_of_ble_eq_true rfl⟩) (va_recv hK hP (ci := 1) (q0 := 0) rfl rfl) (hP.sub [0, 1, 2, 3] rfl) (hK.sub [0, 1] rfl) rfl hl.1 rfl (Nat.le_of_ble_eq_true rfl) dX1_digest_268 (show 1 + i + 1 ≤ 24 by omega) (show 10 + 5 * i + 5 ≤ 125 by omega) hS (fun H locs hsm hS => ?_)
                    have hP := hsm.P hP
                    refine va_iast hx hb hK hP hD hS 4 2 rfl rfl (vp_in_nI (n := 0) (by decide) (by decide)) dX1_digest_271 (fun H locs hP hD hS => ?_)
                    have hP : va_P D vwCl ((mw cI cZ ad 0 (nI N) pa pe g0 g1 g2) ++ [(q2, .inl (cA2, 5, .inl (upd (fun _ => 0) 0 (m_cg g0 N i))))]) H := hP
                    have hD : va_D A ((mw cI cZ ad 0 (nI N) pa pe g0 g1 g2) ++ [(q2, .inl (cA2, 5, .inl (upd (fun _ => 0) 0 (m_cg g0 N i))))]) := hD
                    refine lv_dup hx hb dX1_digest_272 rfl ?_
                    refine lv_iconst (v := 1) hx hb dX1_digest_273 (by decide) ?_
                    refine lv_aload_n hx hb dX1_digest_274 rfl (lv_at hl 2 rfl) ?_
                    refine lv_iload hx hb dX1_digest_275 (lv_at hl 1 rfl) ?_
                    refine q_callV (As := [.int (nI i)]) (rest := [.int 1, .ref q2, .ref q2]) ⟨hx, hb, hml, hown, hts⟩ (c_X1_strain l D cI cZ ad 0 N pa pe g0 g1 g2 hN i (by omega)) (cwV 1 hts gX1_digest_X1_strain rfl rfl rfl kv_X1_strain ⟨Nat.le_of_ble_eq_true rfl, Nat.le_of_ble_eq_true rfl⟩) (va_recv hK hP (ci := 1) (q0 := 0) rfl rfl) (hP.sub [0, 1, 2, 3] rfl) (hK.sub [0, 1] rfl) rfl hl.1 rfl (Nat.le_of_ble_eq_true rfl) dX1_digest_277 (show 1 + i + 1 ≤ 24 by omega) (show 10 + 5 * i + 5 ≤ 125 by omega) hS (fun H locs hsm hS => ?_)
                    have hP := hsm.P hP
                    refine va_iast hx hb hK hP hD hS 4 2 rfl rfl (vp_in_nI (n := 1) (by decide) (by decide)) dX1_digest_280 (fun H locs hP hD hS => ?_)
                    have hP : va_P D vwCl ((mw cI cZ ad 0 (nI N) pa pe g0 g1 g2) ++ [(q2, .inl (cA2, 5, .inl (upd (upd (fun _ => 0) 0 (m_cg g0 N i)) 1 (m_st g0 N i))))]) H := hP
                    have hD : va_D A ((mw cI cZ ad 0 (nI N) pa pe g0 g1 g2) ++ [(q2, .inl (cA2, 5, .inl (upd (upd (fun _ => 0) 0 (m_cg g0 N i)) 1 (m_st g0 N i))))]) := hD
                    refine lv_dup hx hb dX1_digest_281 rfl ?_
                    refine lv_iconst (v := 2) hx hb dX1_digest_282 (by decide) ?_
                    refine lv_aload_n hx hb dX1_digest_283 rfl (lv_at hl 2 rfl) ?_
                    refine va_get (D := D) (ci := 1) (v := .ref (ad 3)) (C := RX1) (T := TX1) (N := 7) hx hb hts hin hown hK hP 0 rfl rfl 6 (by decide) (hts (.fieldLink RX1 20 "SplicedTalkModel" "tied" "[Z") (by decide +kernel)) (fun _ h9 => h9) rfl dX1_digest_284 ?_
                    refine lv_aload_n hx hb dX1_digest_287 rfl (lv_at hl 2 rfl) ?_
                    refine lv_iload hx hb dX1_digest_288 (lv_at hl 1 rfl) ?_
                    refine q_callV (As := [.int (nI i)]) (rest := [.ref (ad 3), .int 2, .ref q2, .ref q2]) ⟨hx, hb, hml, hown, hts⟩ (c_X1_from l D cI cZ ad 0 N pa pe g0 g1 g2 hN i (by omega)) (cwV 1 hts gX1_digest_X1_from rfl rfl rfl kv_X1_from ⟨Nat.le_of_ble_eq_true rfl, Nat.le_of_ble_eq_true rfl⟩) (va_recv hK hP (ci := 1) (q0 := 0) rfl rfl) (hP.sub [0, 1, 2, 3] rfl) (hK.sub [0, 1] rfl) rfl hl.1 rfl (Nat.le_of_ble_eq_true rfl) dX1_digest_290 (show 1 + i + 1 ≤ 24 by omega) (show 10 + 5 * i + 5 ≤ 125 by omega) hS (fun H locs hsm hS => ?_)
                    have hP := hsm.P hP
                    refine va_zald hx hb hK hP 3 1 rfl rfl (vp_in_nI (by have := hN; have := m_P_lt (g0 := g0) (N := N) (k := i) (by omega); omega) (by decide)) dX1_digest_293 ?_
                    rw [nI_clamp (by have := hN; have := m_P_lt (g0 := g0) (N := N) (k := i) (by omega); omega)]
                    suffices K_294 : ∀ v9 : Int32, v9 = (bI (!decide ((g2 (m_P g0 N i)) = 0))) → W p l e ({ frames := 8, cells := 24, slots := 125, locals := 176 } : Room) s m [.ref (ad 0)].toArray below meth c H locs (1 + i + 1) (10 + 5 * i + 5) (m_EL D below [.ref (ad 0)].toArray s (m_dgst pa pe g0 g1 g2 N) (mw cI cZ ad 0 (nI N) pa pe g0 g1 g2) A 24 125) (F0 m 302 ls [.int v9, .int 2, .ref q2, .ref q2]) from by
                      refine lv_if_eq (tgt := 301) hx hb dX1_digest_294 (by decide) (fun c_294 => ?_) (fun c_294 => ?_)
                      · refine lv_iconst (v := 0) hx hb dX1_digest_301 (by decide) ?_
                        exact K_294 _ (bI_nt c_294)
                      · refine lv_iconst (v := 1) hx hb dX1_digest_297 (by decide) ?_
                        refine lv_goto (tgt := 302) hx hb dX1_digest_298 (by decide) ?_
                        exact K_294 _ (bI_nf c_294)
                    intro v9 hv9
                    rw [hv9]; clear hv9
                    refine va_iast hx hb hK hP hD hS 4 2 rfl rfl (vp_in_nI (n := 2) (by decide) (by decide)) dX1_digest_302 (fun H locs hP hD hS => ?_)
                    have hP : va_P D vwCl ((mw cI cZ ad 0 (nI N) pa pe g0 g1 g2) ++ [(q2, .inl (cA2, 5, .inl (upd (upd (upd (fun _ => 0) 0 (m_cg g0 N i)) 1 (m_st g0 N i)) 2 (bI (!decide ((g2 (m_P g0 N i)) = 0))))))]) H := hP
                    have hD : va_D A ((mw cI cZ ad 0 (nI N) pa pe g0 g1 g2) ++ [(q2, .inl (cA2, 5, .inl (upd (upd (upd (fun _ => 0) 0 (m_cg g0 N i)) 1 (m_st g0 N i)) 2 (bI (!decide ((g2 (m_P g0 N i)) = 0))))))]) := hD
                    refine lv_dup hx hb dX1_digest_303 rfl ?_
                    refine lv_iconst (v := 3) hx hb dX1_digest_304 (by decide) ?_
                    refine lv_aload_n hx hb dX1_digest_305 rfl (lv_at hl 2 rfl) ?_
                    refine lv_iload hx hb dX1_digest_306 (lv_at hl 1 rfl) ?_
                    refine q_callV (As := [.int (nI i)]) (rest := [.int 3, .ref q2, .ref q2]) ⟨hx, hb, hml, hown, hts⟩ (c_X1_broken l D cI cZ ad 0 N pa pe g0 g1 g2 hN i (by omega)) (cwV 1 hts gX1_digest_X1_broken rfl rfl rfl kv_X1_broken ⟨Nat.le_of_ble_eq_true rfl, Nat.le_of_ble_eq_true rfl⟩) (va_recv hK hP (ci := 1) (q0 := 0) rfl rfl) (hP.sub [0, 1, 2, 3] rfl) (hK.sub [0, 1] rfl) rfl hl.1 rfl (Nat.le_of_ble_eq_true rfl) dX1_digest_308 (show 1 + i + 1 ≤ 24 by omega) (show 10 + 5 * i + 5 ≤ 125 by omega) hS (fun H locs hsm hS => ?_)
                    have hP := hsm.P hP
                    suffices K_311 : ∀ v9 : Int32, v9 = (bI (m_br g0 g1 g2 N i)) → W p l e ({ frames := 8, cells := 24, slots := 125, locals := 176 } : Room) s m [.ref (ad 0)].toArray below meth c H locs (1 + i + 1) (10 + 5 * i + 5) (m_EL D below [.ref (ad 0)].toArray s (m_dgst pa pe g0 g1 g2 N) (mw cI cZ ad 0 (nI N) pa pe g0 g1 g2) A 24 125) (F0 m 319 ls [.int v9, .int 3, .ref q2, .ref q2]) from by
                      refine lv_if_eq (tgt := 318) hx hb dX1_digest_311 (by decide) (fun c_311 => ?_) (fun c_311 => ?_)
                      · refine lv_iconst (v := 0) hx hb dX1_digest_318 (by decide) ?_
                        exact K_311 _ (by rw [bI_0.mp c_311]; rfl)
                      · refine lv_iconst (v := 1) hx hb dX1_digest_314 (by decide) ?_
                        refine lv_goto (tgt := 319) hx hb dX1_digest_315 (by decide) ?_
                        exact K_311 _ (by rw [bI_n0.mp c_311]; rfl)
                    intro v9 hv9
                    rw [hv9]; clear hv9
                    refine va_iast hx hb hK hP hD hS 4 2 rfl rfl (vp_in_nI (n := 3) (by decide) (by decide)) dX1_digest_319 (fun H locs hP hD hS => ?_)
                    have hP : va_P D vwCl ((mw cI cZ ad 0 (nI N) pa pe g0 g1 g2) ++ [(q2, .inl (cA2, 5, .inl (upd (upd (upd (upd (fun _ => 0) 0 (m_cg g0 N i)) 1 (m_st g0 N i)) 2 (bI (!decide ((g2 (m_P g0 N i)) = 0)))) 3 (bI (m_br g0 g1 g2 N i)))))]) H := hP
                    have hD : va_D A ((mw cI cZ ad 0 (nI N) pa pe g0 g1 g2) ++ [(q2, .inl (cA2, 5, .inl (upd (upd (upd (upd (fun _ => 0) 0 (m_cg g0 N i)) 1 (m_st g0 N i)) 2 (bI (!decide ((g2 (m_P g0 N i)) = 0)))) 3 (bI (m_br g0 g1 g2 N i)))))]) := hD
                    refine lv_dup hx hb dX1_digest_320 rfl ?_
                    refine lv_iconst (v := 4) hx hb dX1_digest_321 (by decide) ?_
                    refine lv_aload_n hx hb dX1_digest_322 rfl (lv_at hl 2 rfl) ?_
                    refine lv_iload hx hb dX1_digest_323 (lv_at hl 1 rfl) ?_
                    refine q_callV (As := [.int (nI i)]) (rest := [.int 4, .ref q2, .ref q2]) ⟨hx, hb, hml, hown, hts⟩ (c_X1_mends l D cI cZ ad 0 N pa pe g0 g1 g2 hN i (by omega)) (cwV 1 hts gX1_digest_X1_mends rfl rfl rfl kv_X1_mends ⟨Nat.le_of_ble_eq_true rfl, Nat.le_of_ble_eq_true rfl⟩) (va_recv hK hP (ci := 1) (q0 := 0) rfl rfl) (hP.sub [0, 1, 2, 3] rfl) (hK.sub [0, 1] rfl) rfl hl.1 rfl (Nat.le_of_ble_eq_true rfl) dX1_digest_325 (show 1 + i + 1 ≤ 24 by omega) (show 10 + 5 * i + 5 ≤ 125 by omega) hS (fun H locs hsm hS => ?_)
                    have hP := hsm.P hP
                    refine va_iast hx hb hK hP hD hS 4 2 rfl rfl (vp_in_nI (n := 4) (by decide) (by decide)) dX1_digest_328 (fun H locs hP hD hS => ?_)
                    have hP : va_P D vwCl ((mw cI cZ ad 0 (nI N) pa pe g0 g1 g2) ++ [(q2, .inl (cA2, 5, .inl (upd (upd (upd (upd (upd (fun _ => 0) 0 (m_cg g0 N i)) 1 (m_st g0 N i)) 2 (bI (!decide ((g2 (m_P g0 N i)) = 0)))) 3 (bI (m_br g0 g1 g2 N i))) 4 (m_md g0 g1 g2 N i))))]) H := hP
                    have hD : va_D A ((mw cI cZ ad 0 (nI N) pa pe g0 g1 g2) ++ [(q2, .inl (cA2, 5, .inl (upd (upd (upd (upd (upd (fun _ => 0) 0 (m_cg g0 N i)) 1 (m_st g0 N i)) 2 (bI (!decide ((g2 (m_P g0 N i)) = 0)))) 3 (bI (m_br g0 g1 g2 N i))) 4 (m_md g0 g1 g2 N i))))]) := hD
                    refine lv_astore (lv' := [(6, .ref q2), (3, .long (m_dg g0 g1 g2 N (m_dw g0 g1 g2 N (m_dr g0 g1 (m_d0 pa pe g0 g1 g2 N) N) (m_n g0 N)) i)), (5, .int (nI i)), (0, .ref (ad 0)), (1, .int (nI (m_n g0 N)))]) hx hb dX1_digest_329 hl (by decide) rfl (fun ls hl => ?_)
                    refine lv_aload hx hb dX1_digest_331 (lv_at hl 0 rfl) ?_
                    refine lv_astore (lv' := [(7, .ref q2), (6, .ref q2), (3, .long (m_dg g0 g1 g2 N (m_dw g0 g1 g2 N (m_dr g0 g1 (m_d0 pa pe g0 g1 g2 N) N) (m_n g0 N)) i)), (5, .int (nI i)), (0, .ref (ad 0)), (1, .int (nI (m_n g0 N)))]) hx hb dX1_digest_333 hl (by decide) rfl (fun ls hl => ?_)
                    refine lv_aload hx hb dX1_digest_335 (lv_at hl 0 rfl) ?_
                    refine va_alen hx hb hK hP 4 2 rfl rfl (v := 5) rfl dX1_digest_337 ?_
                    refine lv_istore (lv' := [(8, .int 5), (7, .ref q2), (6, .ref q2), (3, .long (m_dg g0 g1 g2 N (m_dw g0 g1 g2 N (m_dr g0 g1 (m_d0 pa pe g0 g1 g2 N) N) (m_n g0 N)) i)), (5, .int (nI i)), (0, .ref (ad 0)), (1, .int (nI (m_n g0 N)))]) hx hb dX1_digest_338 hl (by decide) rfl (fun ls hl => ?_)
                    refine lv_iconst (v := 0) hx hb dX1_digest_340 (by decide) ?_
                    refine lv_istore (lv' := [(9, .int 0), (8, .int 5), (7, .ref q2), (6, .ref q2), (3, .long (m_dg g0 g1 g2 N (m_dw g0 g1 g2 N (m_dr g0 g1 (m_d0 pa pe g0 g1 g2 N) N) (m_n g0 N)) i)), (5, .int (nI i)), (0, .ref (ad 0)), (1, .int (nI (m_n g0 N)))]) hx hb dX1_digest_341 hl (by decide) rfl (fun ls hl => ?_)
                    refine lv_iload hx hb dX1_digest_343 (lv_at hl 0 rfl) ?_
                    refine lv_iload hx hb dX1_digest_345 (lv_at hl 1 rfl) ?_
                    refine lv_icmp_ge (tgt := 373) hx hb dX1_digest_347 (by decide) (fun h9 => absurd h9 (by decide)) (fun _ => ?_)
                    refine lv_aload hx hb dX1_digest_350 (lv_at hl 2 rfl) ?_
                    refine lv_iload hx hb dX1_digest_352 (lv_at hl 0 rfl) ?_
                    refine va_iald hx hb hK hP 4 2 rfl rfl (vp_in_nI (n := 0) (by decide) (by decide)) dX1_digest_354 ?_
                    refine lv_istore (lv' := [(10, .int (m_cg g0 N i)), (9, .int 0), (8, .int 5), (7, .ref q2), (6, .ref q2), (3, .long (m_dg g0 g1 g2 N (m_dw g0 g1 g2 N (m_dr g0 g1 (m_d0 pa pe g0 g1 g2 N) N) (m_n g0 N)) i)), (5, .int (nI i)), (0, .ref (ad 0)), (1, .int (nI (m_n g0 N)))]) hx hb dX1_digest_355 hl (by decide) rfl (fun ls hl => ?_)
                    refine lv_lload_n hx hb dX1_digest_357 rfl (lv_at hl 5 rfl) ?_
                    refine lv_ldc2 hx hb hown (hts (.constantLong RX1 161 (31)) (by decide +kernel)) dX1_digest_358 ?_
                    refine lv_lmul hx hb dX1_digest_361 ?_
                    refine lv_iload hx hb dX1_digest_362 (lv_at hl 0 rfl) ?_
                    refine lv_i2l (v := ((m_cg g0 N i)).toInt64) hx hb dX1_digest_364 rfl ?_
                    refine lv_ladd hx hb dX1_digest_365 ?_
                    refine lv_lstore_n (lv' := [(3, .long (x_mix (m_dg g0 g1 g2 N (m_dw g0 g1 g2 N (m_dr g0 g1 (m_d0 pa pe g0 g1 g2 N) N) (m_n g0 N)) i) (m_cg g0 N i))), (10, .int (m_cg g0 N i)), (9, .int 0), (8, .int 5), (7, .ref q2), (6, .ref q2), (5, .int (nI i)), (0, .ref (ad 0)), (1, .int (nI (m_n g0 N)))]) hx hb dX1_digest_366 rfl hl (by decide) rfl (fun ls hl => ?_)
                    refine lv_iinc (v := 1) (lv' := [(9, .int 1), (3, .long (x_mix (m_dg g0 g1 g2 N (m_dw g0 g1 g2 N (m_dr g0 g1 (m_d0 pa pe g0 g1 g2 N) N) (m_n g0 N)) i) (m_cg g0 N i))), (10, .int (m_cg g0 N i)), (8, .int 5), (7, .ref q2), (6, .ref q2), (5, .int (nI i)), (0, .ref (ad 0)), (1, .int (nI (m_n g0 N)))]) hx hb dX1_digest_367 hl (k := 2) rfl (by rfl) (by decide) rfl (fun ls hl => ?_)
                    refine lv_goto (tgt := 343) hx hb dX1_digest_370 (by decide) ?_
                    refine lv_iload hx hb dX1_digest_343 (lv_at hl 0 rfl) ?_
                    refine lv_iload hx hb dX1_digest_345 (lv_at hl 3 rfl) ?_
                    refine lv_icmp_ge (tgt := 373) hx hb dX1_digest_347 (by decide) (fun h9 => absurd h9 (by decide)) (fun _ => ?_)
                    refine lv_aload hx hb dX1_digest_350 (lv_at hl 4 rfl) ?_
                    refine lv_iload hx hb dX1_digest_352 (lv_at hl 0 rfl) ?_
                    refine va_iald hx hb hK hP 4 2 rfl rfl (vp_in_nI (n := 1) (by decide) (by decide)) dX1_digest_354 ?_
                    refine lv_istore (lv' := [(10, .int (m_st g0 N i)), (9, .int 1), (3, .long (x_mix (m_dg g0 g1 g2 N (m_dw g0 g1 g2 N (m_dr g0 g1 (m_d0 pa pe g0 g1 g2 N) N) (m_n g0 N)) i) (m_cg g0 N i))), (8, .int 5), (7, .ref q2), (6, .ref q2), (5, .int (nI i)), (0, .ref (ad 0)), (1, .int (nI (m_n g0 N)))]) hx hb dX1_digest_355 hl (by decide) rfl (fun ls hl => ?_)
                    refine lv_lload_n hx hb dX1_digest_357 rfl (lv_at hl 2 rfl) ?_
                    refine lv_ldc2 hx hb hown (hts (.constantLong RX1 161 (31)) (by decide +kernel)) dX1_digest_358 ?_
                    refine lv_lmul hx hb dX1_digest_361 ?_
                    refine lv_iload hx hb dX1_digest_362 (lv_at hl 0 rfl) ?_
                    refine lv_i2l (v := ((m_st g0 N i)).toInt64) hx hb dX1_digest_364 rfl ?_
                    refine lv_ladd hx hb dX1_digest_365 ?_
                    refine lv_lstore_n (lv' := [(3, .long (x_mix (x_mix (m_dg g0 g1 g2 N (m_dw g0 g1 g2 N (m_dr g0 g1 (m_d0 pa pe g0 g1 g2 N) N) (m_n g0 N)) i) (m_cg g0 N i)) (m_st g0 N i))), (10, .int (m_st g0 N i)), (9, .int 1), (8, .int 5), (7, .ref q2), (6, .ref q2), (5, .int (nI i)), (0, .ref (ad 0)), (1, .int (nI (m_n g0 N)))]) hx hb dX1_digest_366 rfl hl (by decide) rfl (fun ls hl => ?_)
                    refine lv_iinc (v := 2) (lv' := [(9, .int 2), (3, .long (x_mix (x_mix (m_dg g0 g1 g2 N (m_dw g0 g1 g2 N (m_dr g0 g1 (m_d0 pa pe g0 g1 g2 N) N) (m_n g0 N)) i) (m_cg g0 N i)) (m_st g0 N i))), (10, .int (m_st g0 N i)), (8, .int 5), (7, .ref q2), (6, .ref q2), (5, .int (nI i)), (0, .ref (ad 0)), (1, .int (nI (m_n g0 N)))]) hx hb dX1_digest_367 hl (k := 2) rfl (by rfl) (by decide) rfl (fun ls hl => ?_)
                    refine lv_goto (tgt := 343) hx hb dX1_digest_370 (by decide) ?_
                    refine lv_iload hx hb dX1_digest_343 (lv_at hl 0 rfl) ?_
                    refine lv_iload hx hb dX1_digest_345 (lv_at hl 3 rfl) ?_
                    refine lv_icmp_ge (tgt := 373) hx hb dX1_digest_347 (by decide) (fun h9 => absurd h9 (by decide)) (fun _ => ?_)
                    refine lv_aload hx hb dX1_digest_350 (lv_at hl 4 rfl) ?_
                    refine lv_iload hx hb dX1_digest_352 (lv_at hl 0 rfl) ?_
                    refine va_iald hx hb hK hP 4 2 rfl rfl (vp_in_nI (n := 2) (by decide) (by decide)) dX1_digest_354 ?_
                    refine lv_istore (lv' := [(10, .int (bI (!decide ((g2 (m_P g0 N i)) = 0)))), (9, .int 2), (3, .long (x_mix (x_mix (m_dg g0 g1 g2 N (m_dw g0 g1 g2 N (m_dr g0 g1 (m_d0 pa pe g0 g1 g2 N) N) (m_n g0 N)) i) (m_cg g0 N i)) (m_st g0 N i))), (8, .int 5), (7, .ref q2), (6, .ref q2), (5, .int (nI i)), (0, .ref (ad 0)), (1, .int (nI (m_n g0 N)))]) hx hb dX1_digest_355 hl (by decide) rfl (fun ls hl => ?_)
                    refine lv_lload_n hx hb dX1_digest_357 rfl (lv_at hl 2 rfl) ?_
                    refine lv_ldc2 hx hb hown (hts (.constantLong RX1 161 (31)) (by decide +kernel)) dX1_digest_358 ?_
                    refine lv_lmul hx hb dX1_digest_361 ?_
                    refine lv_iload hx hb dX1_digest_362 (lv_at hl 0 rfl) ?_
                    refine lv_i2l (v := ((bI (!decide ((g2 (m_P g0 N i)) = 0)))).toInt64) hx hb dX1_digest_364 rfl ?_
                    refine lv_ladd hx hb dX1_digest_365 ?_
                    refine lv_lstore_n (lv' := [(3, .long (x_mix (x_mix (x_mix (m_dg g0 g1 g2 N (m_dw g0 g1 g2 N (m_dr g0 g1 (m_d0 pa pe g0 g1 g2 N) N) (m_n g0 N)) i) (m_cg g0 N i)) (m_st g0 N i)) (bI (!decide ((g2 (m_P g0 N i)) = 0))))), (10, .int (bI (!decide ((g2 (m_P g0 N i)) = 0)))), (9, .int 2), (8, .int 5), (7, .ref q2), (6, .ref q2), (5, .int (nI i)), (0, .ref (ad 0)), (1, .int (nI (m_n g0 N)))]) hx hb dX1_digest_366 rfl hl (by decide) rfl (fun ls hl => ?_)
                    refine lv_iinc (v := 3) (lv' := [(9, .int 3), (3, .long (x_mix (x_mix (x_mix (m_dg g0 g1 g2 N (m_dw g0 g1 g2 N (m_dr g0 g1 (m_d0 pa pe g0 g1 g2 N) N) (m_n g0 N)) i) (m_cg g0 N i)) (m_st g0 N i)) (bI (!decide ((g2 (m_P g0 N i)) = 0))))), (10, .int (bI (!decide ((g2 (m_P g0 N i)) = 0)))), (8, .int 5), (7, .ref q2), (6, .ref q2), (5, .int (nI i)), (0, .ref (ad 0)), (1, .int (nI (m_n g0 N)))]) hx hb dX1_digest_367 hl (k := 2) rfl (by rfl) (by decide) rfl (fun ls hl => ?_)
                    refine lv_goto (tgt := 343) hx hb dX1_digest_370 (by decide) ?_
                    refine lv_iload hx hb dX1_digest_343 (lv_at hl 0 rfl) ?_
                    refine lv_iload hx hb dX1_digest_345 (lv_at hl 3 rfl) ?_
                    refine lv_icmp_ge (tgt := 373) hx hb dX1_digest_347 (by decide) (fun h9 => absurd h9 (by decide)) (fun _ => ?_)
                    refine lv_aload hx hb dX1_digest_350 (lv_at hl 4 rfl) ?_
                    refine lv_iload hx hb dX1_digest_352 (lv_at hl 0 rfl) ?_
                    refine va_iald hx hb hK hP 4 2 rfl rfl (vp_in_nI (n := 3) (by decide) (by decide)) dX1_digest_354 ?_
                    refine lv_istore (lv' := [(10, .int (bI (m_br g0 g1 g2 N i))), (9, .int 3), (3, .long (x_mix (x_mix (x_mix (m_dg g0 g1 g2 N (m_dw g0 g1 g2 N (m_dr g0 g1 (m_d0 pa pe g0 g1 g2 N) N) (m_n g0 N)) i) (m_cg g0 N i)) (m_st g0 N i)) (bI (!decide ((g2 (m_P g0 N i)) = 0))))), (8, .int 5), (7, .ref q2), (6, .ref q2), (5, .int (nI i)), (0, .ref (ad 0)), (1, .int (nI (m_n g0 N)))]) hx hb dX1_digest_355 hl (by decide) rfl (fun ls hl => ?_)
                    refine lv_lload_n hx hb dX1_digest_357 rfl (lv_at hl 2 rfl) ?_
                    refine lv_ldc2 hx hb hown (hts (.constantLong RX1 161 (31)) (by decide +kernel)) dX1_digest_358 ?_
                    refine lv_lmul hx hb dX1_digest_361 ?_
                    refine lv_iload hx hb dX1_digest_362 (lv_at hl 0 rfl) ?_
                    refine lv_i2l (v := ((bI (m_br g0 g1 g2 N i))).toInt64) hx hb dX1_digest_364 rfl ?_
                    refine lv_ladd hx hb dX1_digest_365 ?_
                    refine lv_lstore_n (lv' := [(3, .long (x_mix (x_mix (x_mix (x_mix (m_dg g0 g1 g2 N (m_dw g0 g1 g2 N (m_dr g0 g1 (m_d0 pa pe g0 g1 g2 N) N) (m_n g0 N)) i) (m_cg g0 N i)) (m_st g0 N i)) (bI (!decide ((g2 (m_P g0 N i)) = 0)))) (bI (m_br g0 g1 g2 N i)))), (10, .int (bI (m_br g0 g1 g2 N i))), (9, .int 3), (8, .int 5), (7, .ref q2), (6, .ref q2), (5, .int (nI i)), (0, .ref (ad 0)), (1, .int (nI (m_n g0 N)))]) hx hb dX1_digest_366 rfl hl (by decide) rfl (fun ls hl => ?_)
                    refine lv_iinc (v := 4) (lv' := [(9, .int 4), (3, .long (x_mix (x_mix (x_mix (x_mix (m_dg g0 g1 g2 N (m_dw g0 g1 g2 N (m_dr g0 g1 (m_d0 pa pe g0 g1 g2 N) N) (m_n g0 N)) i) (m_cg g0 N i)) (m_st g0 N i)) (bI (!decide ((g2 (m_P g0 N i)) = 0)))) (bI (m_br g0 g1 g2 N i)))), (10, .int (bI (m_br g0 g1 g2 N i))), (8, .int 5), (7, .ref q2), (6, .ref q2), (5, .int (nI i)), (0, .ref (ad 0)), (1, .int (nI (m_n g0 N)))]) hx hb dX1_digest_367 hl (k := 2) rfl (by rfl) (by decide) rfl (fun ls hl => ?_)
                    refine lv_goto (tgt := 343) hx hb dX1_digest_370 (by decide) ?_
                    refine lv_iload hx hb dX1_digest_343 (lv_at hl 0 rfl) ?_
                    refine lv_iload hx hb dX1_digest_345 (lv_at hl 3 rfl) ?_
                    refine lv_icmp_ge (tgt := 373) hx hb dX1_digest_347 (by decide) (fun h9 => absurd h9 (by decide)) (fun _ => ?_)
                    refine lv_aload hx hb dX1_digest_350 (lv_at hl 4 rfl) ?_
                    refine lv_iload hx hb dX1_digest_352 (lv_at hl 0 rfl) ?_
                    refine va_iald hx hb hK hP 4 2 rfl rfl (vp_in_nI (n := 4) (by decide) (by decide)) dX1_digest_354 ?_
                    refine lv_istore (lv' := [(10, .int (m_md g0 g1 g2 N i)), (9, .int 4), (3, .long (x_mix (x_mix (x_mix (x_mix (m_dg g0 g1 g2 N (m_dw g0 g1 g2 N (m_dr g0 g1 (m_d0 pa pe g0 g1 g2 N) N) (m_n g0 N)) i) (m_cg g0 N i)) (m_st g0 N i)) (bI (!decide ((g2 (m_P g0 N i)) = 0)))) (bI (m_br g0 g1 g2 N i)))), (8, .int 5), (7, .ref q2), (6, .ref q2), (5, .int (nI i)), (0, .ref (ad 0)), (1, .int (nI (m_n g0 N)))]) hx hb dX1_digest_355 hl (by decide) rfl (fun ls hl => ?_)
                    refine lv_lload_n hx hb dX1_digest_357 rfl (lv_at hl 2 rfl) ?_
                    refine lv_ldc2 hx hb hown (hts (.constantLong RX1 161 (31)) (by decide +kernel)) dX1_digest_358 ?_
                    refine lv_lmul hx hb dX1_digest_361 ?_
                    refine lv_iload hx hb dX1_digest_362 (lv_at hl 0 rfl) ?_
                    refine lv_i2l (v := ((m_md g0 g1 g2 N i)).toInt64) hx hb dX1_digest_364 rfl ?_
                    refine lv_ladd hx hb dX1_digest_365 ?_
                    refine lv_lstore_n (lv' := [(3, .long (x_mix (x_mix (x_mix (x_mix (x_mix (m_dg g0 g1 g2 N (m_dw g0 g1 g2 N (m_dr g0 g1 (m_d0 pa pe g0 g1 g2 N) N) (m_n g0 N)) i) (m_cg g0 N i)) (m_st g0 N i)) (bI (!decide ((g2 (m_P g0 N i)) = 0)))) (bI (m_br g0 g1 g2 N i))) (m_md g0 g1 g2 N i))), (10, .int (m_md g0 g1 g2 N i)), (9, .int 4), (8, .int 5), (7, .ref q2), (6, .ref q2), (5, .int (nI i)), (0, .ref (ad 0)), (1, .int (nI (m_n g0 N)))]) hx hb dX1_digest_366 rfl hl (by decide) rfl (fun ls hl => ?_)
                    refine lv_iinc (v := 5) (lv' := [(9, .int 5), (3, .long (x_mix (x_mix (x_mix (x_mix (x_mix (m_dg g0 g1 g2 N (m_dw g0 g1 g2 N (m_dr g0 g1 (m_d0 pa pe g0 g1 g2 N) N) (m_n g0 N)) i) (m_cg g0 N i)) (m_st g0 N i)) (bI (!decide ((g2 (m_P g0 N i)) = 0)))) (bI (m_br g0 g1 g2 N i))) (m_md g0 g1 g2 N i))), (10, .int (m_md g0 g1 g2 N i)), (8, .int 5), (7, .ref q2), (6, .ref q2), (5, .int (nI i)), (0, .ref (ad 0)), (1, .int (nI (m_n g0 N)))]) hx hb dX1_digest_367 hl (k := 2) rfl (by rfl) (by decide) rfl (fun ls hl => ?_)
                    refine lv_goto (tgt := 343) hx hb dX1_digest_370 (by decide) ?_
                    refine lv_iload hx hb dX1_digest_343 (lv_at hl 0 rfl) ?_
                    refine lv_iload hx hb dX1_digest_345 (lv_at hl 3 rfl) ?_
                    refine lv_icmp_ge (tgt := 373) hx hb dX1_digest_347 (by decide) (fun _ => ?_) (fun h9 => absurd (by decide) h9)
                    refine lv_iinc (v := ((nI i) + 1)) (lv' := [(5, .int ((nI i) + 1)), (9, .int 5), (3, .long (x_mix (x_mix (x_mix (x_mix (x_mix (m_dg g0 g1 g2 N (m_dw g0 g1 g2 N (m_dr g0 g1 (m_d0 pa pe g0 g1 g2 N) N) (m_n g0 N)) i) (m_cg g0 N i)) (m_st g0 N i)) (bI (!decide ((g2 (m_P g0 N i)) = 0)))) (bI (m_br g0 g1 g2 N i))) (m_md g0 g1 g2 N i))), (10, .int (m_md g0 g1 g2 N i)), (8, .int 5), (7, .ref q2), (6, .ref q2), (0, .ref (ad 0)), (1, .int (nI (m_n g0 N)))]) hx hb dX1_digest_373 hl (k := 6) rfl (by rfl) (by decide) rfl (fun ls hl => ?_)
                    refine lv_goto (tgt := 252) hx hb dX1_digest_376 (by decide) ?_
                    have hP : va_P D vwCl (mw cI cZ ad 0 (nI N) pa pe g0 g1 g2) H := hP.sub [0, 1, 2, 3] rfl
                    have hD : va_D A (mw cI cZ ad 0 (nI N) pa pe g0 g1 g2) := hD.sub [0, 1, 2, 3] rfl rfl
                    have hK := hK.sub (tys' := [(cI, .int), (cZ, .boolean)]) [0, 1] rfl
                    refine W.widen (k := 1 + (i + 1)) (n := 10 + 5 * (i + 1)) (by omega) (by omega) ?_
                    have e_5 : (((nI i) + 1) : Int32) = (nI (i + 1)) := nI_1 i
                    exact ih (i + 1) (by omega) (by omega) H locs ls hP hS (lv_eq (lv_sub (l' := [(3, .long (m_dg g0 g1 g2 N (m_dw g0 g1 g2 N (m_dr g0 g1 (m_d0 pa pe g0 g1 g2 N) N) (m_n g0 N)) (i + 1))), (5, .int ((nI i) + 1)), (0, .ref (ad 0)), (1, .int (nI (m_n g0 N)))]) hl [2, 0, 7, 8] rfl) (by rw [e_5]))
              exact lo_252 ((m_n g0 N - 1) + 1) 0 (by omega) (by omega) H locs ls hP hS (lv_sub hl [1, 0, 2, 3] rfl)
            · have hi9 := nI_lt' hiN (by omega) c_193
              refine lv_lload_n hx hb dX1_digest_196 rfl (lv_at hl 0 rfl) ?_
              refine lv_ldc2 hx hb hown (hts (.constantLong RX1 161 (31)) (by decide +kernel)) dX1_digest_197 ?_
              refine lv_lmul hx hb dX1_digest_200 ?_
              refine lv_aload_n hx hb dX1_digest_201 rfl (lv_at hl 2 rfl) ?_
              refine lv_iload hx hb dX1_digest_202 (lv_at hl 1 rfl) ?_
              refine q_callV (As := [.int (nI i)]) (rest := [.long ((m_dw g0 g1 g2 N (m_dr g0 g1 (m_d0 pa pe g0 g1 g2 N) N) i) * 31)]) ⟨hx, hb, hml, hown, hts⟩ (c_X1_place l D cI cZ ad 0 N pa pe g0 g1 g2 hN i (by omega)) (cwV 1 hts gX1_digest_X1_place rfl rfl rfl kv_X1_place ⟨Nat.le_of_ble_eq_true rfl, Nat.le_of_ble_eq_true rfl⟩) (va_recv hK hP (ci := 1) (q0 := 0) rfl rfl) hP hK rfl hl.1 rfl (Nat.le_of_ble_eq_true rfl) dX1_digest_204 (show 1 ≤ 24 by omega) (show 10 ≤ 125 by omega) hS (fun H locs hsm hS => ?_)
              have hP := hsm.P hP
              refine lv_i2l (v := ((nI (m_P g0 N i))).toInt64) hx hb dX1_digest_207 rfl ?_
              refine lv_ladd hx hb dX1_digest_208 ?_
              refine lv_lstore_n (lv' := [(3, .long (x_mix (m_dw g0 g1 g2 N (m_dr g0 g1 (m_d0 pa pe g0 g1 g2 N) N) i) (nI (m_P g0 N i)))), (5, .int (nI i)), (0, .ref (ad 0)), (1, .int (nI (m_n g0 N)))]) hx hb dX1_digest_209 rfl hl (by decide) rfl (fun ls hl => ?_)
              refine lv_lload_n hx hb dX1_digest_210 rfl (lv_at hl 0 rfl) ?_
              refine lv_ldc2 hx hb hown (hts (.constantLong RX1 161 (31)) (by decide +kernel)) dX1_digest_211 ?_
              refine lv_lmul hx hb dX1_digest_214 ?_
              refine lv_aload_n hx hb dX1_digest_215 rfl (lv_at hl 2 rfl) ?_
              refine va_get (D := D) (ci := 1) (v := .ref (ad 1)) (C := RX1) (T := TX1) (N := 7) hx hb hts hin hown hK hP 0 rfl rfl 4 (by decide) (hts (.fieldLink RX1 13 "SplicedTalkModel" "topic" "[I") (by decide +kernel)) (fun _ h9 => h9) rfl dX1_digest_216 ?_
              refine lv_aload_n hx hb dX1_digest_219 rfl (lv_at hl 2 rfl) ?_
              refine lv_iload hx hb dX1_digest_220 (lv_at hl 1 rfl) ?_
              refine q_callV (As := [.int (nI i)]) (rest := [.ref (ad 1), .long ((x_mix (m_dw g0 g1 g2 N (m_dr g0 g1 (m_d0 pa pe g0 g1 g2 N) N) i) (nI (m_P g0 N i))) * 31)]) ⟨hx, hb, hml, hown, hts⟩ (c_X1_place l D cI cZ ad 0 N pa pe g0 g1 g2 hN i (by omega)) (cwV 1 hts gX1_digest_X1_place rfl rfl rfl kv_X1_place ⟨Nat.le_of_ble_eq_true rfl, Nat.le_of_ble_eq_true rfl⟩) (va_recv hK hP (ci := 1) (q0 := 0) rfl rfl) hP hK rfl hl.1 rfl (Nat.le_of_ble_eq_true rfl) dX1_digest_222 (show 1 ≤ 24 by omega) (show 10 ≤ 125 by omega) hS (fun H locs hsm hS => ?_)
              have hP := hsm.P hP
              refine va_iald hx hb hK hP 1 0 rfl rfl (vp_in_nI (by have := hN; have := m_P_lt (g0 := g0) (N := N) (k := i) (by omega); omega) (by decide)) dX1_digest_225 ?_
              rw [nI_clamp (by have := hN; have := m_P_lt (g0 := g0) (N := N) (k := i) (by omega); omega)]
              refine lv_i2l (v := ((g0 (m_P g0 N i))).toInt64) hx hb dX1_digest_226 rfl ?_
              refine lv_ladd hx hb dX1_digest_227 ?_
              refine lv_lstore_n (lv' := [(3, .long (x_mix (x_mix (m_dw g0 g1 g2 N (m_dr g0 g1 (m_d0 pa pe g0 g1 g2 N) N) i) (nI (m_P g0 N i))) (g0 (m_P g0 N i)))), (5, .int (nI i)), (0, .ref (ad 0)), (1, .int (nI (m_n g0 N)))]) hx hb dX1_digest_228 rfl hl (by decide) rfl (fun ls hl => ?_)
              refine lv_lload_n hx hb dX1_digest_229 rfl (lv_at hl 0 rfl) ?_
              refine lv_ldc2 hx hb hown (hts (.constantLong RX1 161 (31)) (by decide +kernel)) dX1_digest_230 ?_
              refine lv_lmul hx hb dX1_digest_233 ?_
              refine lv_aload_n hx hb dX1_digest_234 rfl (lv_at hl 2 rfl) ?_
              refine lv_iload hx hb dX1_digest_235 (lv_at hl 1 rfl) ?_
              refine q_callV (As := [.int (nI i)]) (rest := [.long ((x_mix (x_mix (m_dw g0 g1 g2 N (m_dr g0 g1 (m_d0 pa pe g0 g1 g2 N) N) i) (nI (m_P g0 N i))) (g0 (m_P g0 N i))) * 31)]) ⟨hx, hb, hml, hown, hts⟩ (c_X1_thread l D cI cZ ad 0 N pa pe g0 g1 g2 hN i (by omega)) (cwV 1 hts gX1_digest_X1_thread rfl rfl rfl kv_X1_thread ⟨Nat.le_of_ble_eq_true rfl, Nat.le_of_ble_eq_true rfl⟩) (va_recv hK hP (ci := 1) (q0 := 0) rfl rfl) hP hK rfl hl.1 rfl (Nat.le_of_ble_eq_true rfl) dX1_digest_237 (show 1 ≤ 24 by omega) (show 10 ≤ 125 by omega) hS (fun H locs hsm hS => ?_)
              have hP := hsm.P hP
              refine lv_i2l (v := ((nI (m_th g0 g1 g2 N i))).toInt64) hx hb dX1_digest_240 rfl ?_
              refine lv_ladd hx hb dX1_digest_241 ?_
              refine lv_lstore_n (lv' := [(3, .long (x_mix (x_mix (x_mix (m_dw g0 g1 g2 N (m_dr g0 g1 (m_d0 pa pe g0 g1 g2 N) N) i) (nI (m_P g0 N i))) (g0 (m_P g0 N i))) (nI (m_th g0 g1 g2 N i)))), (5, .int (nI i)), (0, .ref (ad 0)), (1, .int (nI (m_n g0 N)))]) hx hb dX1_digest_242 rfl hl (by decide) rfl (fun ls hl => ?_)
              refine lv_iinc (v := ((nI i) + 1)) (lv' := [(5, .int ((nI i) + 1)), (3, .long (x_mix (x_mix (x_mix (m_dw g0 g1 g2 N (m_dr g0 g1 (m_d0 pa pe g0 g1 g2 N) N) i) (nI (m_P g0 N i))) (g0 (m_P g0 N i))) (nI (m_th g0 g1 g2 N i)))), (0, .ref (ad 0)), (1, .int (nI (m_n g0 N)))]) hx hb dX1_digest_243 hl (k := 1) rfl (by rfl) (by decide) rfl (fun ls hl => ?_)
              refine lv_goto (tgt := 190) hx hb dX1_digest_246 (by decide) ?_
              have e_5 : (((nI i) + 1) : Int32) = (nI (i + 1)) := nI_1 i
              exact ih (i + 1) (by omega) (by omega) H locs ls hP hS (lv_eq (lv_sub (l' := [(3, .long (m_dw g0 g1 g2 N (m_dr g0 g1 (m_d0 pa pe g0 g1 g2 N) N) (i + 1))), (5, .int ((nI i) + 1)), (0, .ref (ad 0)), (1, .int (nI (m_n g0 N)))]) hl [1, 0, 2, 3] rfl) (by rw [e_5]))
        exact lo_190 ((m_n g0 N) + 1) 0 (by omega) (by omega) H locs ls hP hS (lv_sub hl [1, 0, 2, 3] rfl)
      · have hi9 := nI_lt' hiN (by omega) c_140
        refine lv_lload_n hx hb dX1_digest_143 rfl (lv_at hl 0 rfl) ?_
        refine lv_ldc2 hx hb hown (hts (.constantLong RX1 161 (31)) (by decide +kernel)) dX1_digest_144 ?_
        refine lv_lmul hx hb dX1_digest_147 ?_
        refine lv_aload_n hx hb dX1_digest_148 rfl (lv_at hl 2 rfl) ?_
        refine va_get (D := D) (ci := 1) (v := .ref (ad 1)) (C := RX1) (T := TX1) (N := 7) hx hb hts hin hown hK hP 0 rfl rfl 4 (by decide) (hts (.fieldLink RX1 13 "SplicedTalkModel" "topic" "[I") (by decide +kernel)) (fun _ h9 => h9) rfl dX1_digest_149 ?_
        refine lv_iload hx hb dX1_digest_152 (lv_at hl 1 rfl) ?_
        refine va_iald hx hb hK hP 1 0 rfl rfl (vp_in_nI (by have := hN; skip; omega) (by decide)) dX1_digest_154 ?_
        rw [nI_clamp (by have := hN; skip; omega)]
        suffices K_155 : ∀ v9 : Int32, v9 = (bI (!decide (0 ≤ (g0 i)))) → W p l e ({ frames := 8, cells := 24, slots := 125, locals := 176 } : Room) s m [.ref (ad 0)].toArray below meth c H locs (1) (10) (m_EL D below [.ref (ad 0)].toArray s (m_dgst pa pe g0 g1 g2 N) (mw cI cZ ad 0 (nI N) pa pe g0 g1 g2) A 24 125) (F0 m 163 ls [.int v9, .long ((m_dr g0 g1 (m_d0 pa pe g0 g1 g2 N) i) * 31)]) from by
          refine lv_if_ge (tgt := 162) hx hb dX1_digest_155 (by decide) (fun c_155 => ?_) (fun c_155 => ?_)
          · refine lv_iconst (v := 0) hx hb dX1_digest_162 (by decide) ?_
            exact K_155 _ (bI_nt c_155)
          · refine lv_iconst (v := 1) hx hb dX1_digest_158 (by decide) ?_
            refine lv_goto (tgt := 163) hx hb dX1_digest_159 (by decide) ?_
            exact K_155 _ (bI_nf c_155)
        intro v9 hv9
        rw [hv9]; clear hv9
        refine lv_i2l (v := ((bI (!decide (0 ≤ (g0 i))))).toInt64) hx hb dX1_digest_163 rfl ?_
        refine lv_ladd hx hb dX1_digest_164 ?_
        refine lv_lstore_n (lv' := [(3, .long (x_mix (m_dr g0 g1 (m_d0 pa pe g0 g1 g2 N) i) (bI (!decide (0 ≤ (g0 i)))))), (5, .int (nI i)), (0, .ref (ad 0)), (1, .int (nI (m_n g0 N)))]) hx hb dX1_digest_165 rfl hl (by decide) rfl (fun ls hl => ?_)
        refine lv_lload_n hx hb dX1_digest_166 rfl (lv_at hl 0 rfl) ?_
        refine lv_ldc2 hx hb hown (hts (.constantLong RX1 161 (31)) (by decide +kernel)) dX1_digest_167 ?_
        refine lv_lmul hx hb dX1_digest_170 ?_
        refine lv_aload_n hx hb dX1_digest_171 rfl (lv_at hl 2 rfl) ?_
        refine va_get (D := D) (ci := 1) (v := .ref (ad 2)) (C := RX1) (T := TX1) (N := 7) hx hb hts hin hown hK hP 0 rfl rfl 5 (by decide) (hts (.fieldLink RX1 17 "SplicedTalkModel" "speaker" "[I") (by decide +kernel)) (fun _ h9 => h9) rfl dX1_digest_172 ?_
        refine lv_iload hx hb dX1_digest_175 (lv_at hl 1 rfl) ?_
        refine va_iald hx hb hK hP 2 0 rfl rfl (vp_in_nI (by have := hN; skip; omega) (by decide)) dX1_digest_177 ?_
        rw [nI_clamp (by have := hN; skip; omega)]
        refine lv_i2l (v := ((g1 i)).toInt64) hx hb dX1_digest_178 rfl ?_
        refine lv_ladd hx hb dX1_digest_179 ?_
        refine lv_lstore_n (lv' := [(3, .long (x_mix (x_mix (m_dr g0 g1 (m_d0 pa pe g0 g1 g2 N) i) (bI (!decide (0 ≤ (g0 i))))) (g1 i))), (5, .int (nI i)), (0, .ref (ad 0)), (1, .int (nI (m_n g0 N)))]) hx hb dX1_digest_180 rfl hl (by decide) rfl (fun ls hl => ?_)
        refine lv_iinc (v := ((nI i) + 1)) (lv' := [(5, .int ((nI i) + 1)), (3, .long (x_mix (x_mix (m_dr g0 g1 (m_d0 pa pe g0 g1 g2 N) i) (bI (!decide (0 ≤ (g0 i))))) (g1 i))), (0, .ref (ad 0)), (1, .int (nI (m_n g0 N)))]) hx hb dX1_digest_181 hl (k := 1) rfl (by rfl) (by decide) rfl (fun ls hl => ?_)
        refine lv_goto (tgt := 134) hx hb dX1_digest_184 (by decide) ?_
        have e_5 : (((nI i) + 1) : Int32) = (nI (i + 1)) := nI_1 i
        exact ih (i + 1) (by omega) (by omega) H locs ls hP hS (lv_eq (lv_sub (l' := [(3, .long (m_dr g0 g1 (m_d0 pa pe g0 g1 g2 N) (i + 1))), (5, .int ((nI i) + 1)), (0, .ref (ad 0)), (1, .int (nI (m_n g0 N)))]) hl [1, 0, 2, 3] rfl) (by rw [e_5]))
  exact lo_134 (N + 1) 0 (by omega) (by omega) H locs ls hP hS (lv_sub hl [2, 0, 7, 6] rfl)
