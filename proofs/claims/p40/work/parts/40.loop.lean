/-! own rows: the law's turn and its loop -/
set_option maxHeartbeats 4000000 in
set_option maxRecDepth 100000 in
theorem law_loop {p : Program} {l : Launch} {e : Env} {s : State} {m : MethodId} {args : Array Value} {below : List Frame} {meth : Method} {c : Code} {Q : State → Prop} {b L : Nat} {xs : Nat → Int32} {D : va_G} {cI cA cZ : ClassId} {ad : Nat → Nat} {S q0 : Nat} (hC : lC p s m c args b L xs D cI cA cZ ad q0) (kend : ∀ (H : Heap) (locs : List Loc) (ls : Array Slot), va_S (lA s) s.heap H locs → W p l e room_1 s m args below meth c H locs 600172 7300668 Q (F0 m 1058 ls [.int 1])) : ∀ (H : Heap) (locs : List Loc) (ls : Array Slot), zST D cI cA ad S q0 H → va_S (lA s) s.heap H locs → lv_has ls 26 [(3, .int (nI 0)), (0, .ref b), (1, .ref (ad 0)), (2, .ref S)] → W p l e room_1 s m args below meth c H locs (2000 + 70 * 0) (12000 + 600 * 0) Q (F0 m 22 ls []) := by
  intro H locs ls HZ hS hl
  obtain ⟨hx, hb, hml, hts, hown, hK, hO, htX, hta, hq0, hXs, hbl, hL⟩ := id hC
  have hin : ∀ w ∈ wsX10, w ∈ wsL_law := inlX1
  have hA9 : ∀ q : Nat, s.heap.size ≤ q → lA s q := fun q h => h
  have HX : ∀ {H : Heap} {locs : List Loc}, va_S (lA s) s.heap H locs → va_X b L xs s H := fun hS => va_X.kept hXs (hS.2.1 b hbl (Nat.not_le.mpr hbl))
  have lo_22 : ∀ (fu22 T : Nat), 30 - T < fu22 → T ≤ 30 → ∀ (H : Heap) (locs : List Loc) (ls : Array Slot), zST D cI cA ad S q0 H → va_S (lA s) s.heap H locs → lv_has ls 26 [(3, .int (nI T)), (0, .ref b), (1, .ref (ad 0)), (2, .ref S)] → W p l e room_1 s m args below meth c H locs (2000 + 70 * T) (12000 + 600 * T) Q (F0 m 22 ls []) := by
    intro fu22
    induction fu22 with
    | zero => intro T hi; exact absurd hi (Nat.not_lt_zero _)
    | succ fu22 ih22 =>
      intro T hi22 hTN H locs ls HZ hS hl
      refine lv_iload_n hx hb dL_law_22 rfl (lv_at hl 0 rfl) ?_
      refine lv_bipush (v := 30) hx hb dL_law_23 (by decide) ?_
      refine lv_icmp_ge (tgt := 1053) hx hb dL_law_25 (by decide) (fun c_25 => ?_) (fun c_25 => ?_)
      · have hi9 : T = 30 := nI_ge' hTN (by decide) c_25
        have HZ0 := HZ
        obtain ⟨N, w, t, pa, pe, f0, f1, f2, f3, f4, g0, g1, g2, O, r, -, -, -, -, -, HP, -⟩ := HZ0
        have HP : sG D cI cA S O N r g0 g1 g2 (nI pa) pe H := HP
        refine lv_aload_n hx hb dL_law_1053 rfl (lv_at hl 3 rfl) ?_
        refine lv_aload_n hx hb dL_law_1054 rfl (lv_at hl 2 rfl) ?_
        refine e_callVI (As := [.ref (ad 0)]) (rest := []) ⟨hx, hb, hml, hown, hts⟩ (c_X1_isSame l D cI cA ad S q0) (cwV 1 hts gL_law_X1_isSame rfl rfl rfl kv_X1_isSame ⟨Nat.le_of_ble_eq_true rfl, Nat.le_of_ble_eq_true rfl⟩) pH.mv (va_recv hK (z_one HP.cell) (ci := 1) (q0 := 0) rfl rfl) (p_at (Z := zST D cI cA ad S q0) HZ) (hK.sub [0, 1] rfl) hO (fun q h => h.elim) hA9 rfl hl.1 rfl (Nat.le_of_ble_eq_true rfl) dL_law_1055 (by show 2000 + 70 * T + 70 ≤ 600172; omega) (by show 12000 + 600 * T + 700 ≤ 7300668; omega) hS (fun _ H locs _ hz hk hS => ?_)
        refine W.widen (k := 600172) (n := 7300668) (by omega) (by omega) ?_
        exact kend H locs ls hS
      · have hi9 : T < 30 := nI_lt' hTN (by decide) c_25
        refine lv_aload_n hx hb dL_law_28 rfl (lv_at hl 1 rfl) ?_
        refine lv_iload_n hx hb dL_law_29 rfl (lv_at hl 0 rfl) ?_
        refine lv_bipush (v := 16) hx hb dL_law_30 (by decide) ?_
        refine lv_irem hx hb dL_law_32 (by decide) ?_
        rw [show nI T - nI T / 16 * 16 = nI (T % 16) from pk_rem (d := 16) (by omega) (by decide) (by decide)]
        refine p_callS (As := [.ref b, .int (nI (T % 16))]) (rest := []) ⟨hx, hb, hml, hown, hts⟩ (c_L_cell l D b L xs (T % 16) hL (by omega)) (va_cwS 2 hts gL_law_L_cell rfl rfl rfl ks_L_cell ⟨Nat.le_of_ble_eq_true rfl, Nat.le_of_ble_eq_true rfl⟩) pX.mv ((pX_at (HX hS))) (hK.sub [] rfl) rfl hl.1 rfl (Nat.le_of_ble_eq_true rfl) dL_law_33 (by show 2000 + 70 * T ≤ 600172; omega) (by show 12000 + 600 * T ≤ 7300668; omega) hS (fun H locs hsm hS => ?_)
        have HZ := zST.kept HZ hsm
        refine lv_iload_n hx hb dL_law_36 rfl (lv_at hl 0 rfl) ?_
        refine lv_bipush (v := 16) hx hb dL_law_37 (by decide) ?_
        refine lv_idiv hx hb dL_law_39 (by decide) ?_
        refine lv_iconst (v := 3) hx hb dL_law_40 (by decide) ?_
        refine lv_imul hx hb dL_law_41 ?_
        refine lv_ishr hx hb dL_law_42 ?_
        refine lv_sipush (v := 599) hx hb dL_law_43 (by decide) ?_
        refine lv_iload_n hx hb dL_law_46 rfl (lv_at hl 0 rfl) ?_
        refine lv_imul hx hb dL_law_47 ?_
        refine lv_iadd hx hb dL_law_48 ?_
        refine lv_istore (lv' := [(4, .int ((z_cl L xs (T % 16) >>> (((nI T / 16) * 3) &&& 31)) + (599 * nI T))), (3, .int (nI T)), (0, .ref b), (1, .ref (ad 0)), (2, .ref S)]) hx hb dL_law_49 hl (by decide) rfl (fun ls hl => ?_)
        refine lv_aload_n hx hb dL_law_51 rfl (lv_at hl 3 rfl) ?_
        refine lv_aload_n hx hb dL_law_52 rfl (lv_at hl 4 rfl) ?_
        refine lv_iload hx hb dL_law_53 (lv_at hl 0 rfl) ?_
        have hqz : q0 ≤ H.size := by obtain ⟨_, _, _, _, _, _, _, _, _, _, _, _, _, _, _, -, -, -, -, -, HP, hX⟩ := HZ; exact Nat.le_trans hX.1 (Nat.le_of_lt HP.1.lt)
        refine e_callSI (As := [.ref (ad 0), .ref S, .int ((z_cl L xs (T % 16) >>> (((nI T / 16) * 3) &&& 31)) + (599 * nI T))]) (rest := []) ⟨hx, hb, hml, hown, hts⟩ (c_L_act l D cI cA ad S q0 ((z_cl L xs (T % 16) >>> (((nI T / 16) * 3) &&& 31)) + (599 * nI T)) htX) (va_cwS 3 hts gL_law_L_act rfl rfl rfl ks_L_act ⟨Nat.le_of_ble_eq_true rfl, Nat.le_of_ble_eq_true rfl⟩) pH.mv (p_at (Z := zA D cI cA ad S q0) ⟨HZ, hqz⟩) (hK.sub [0, 1] rfl) hO (fun q h => h.elim (fun ⟨k, h1, h2⟩ => by show s.heap.size ≤ q; rw [h2]; exact hta k h1) (fun h => Nat.le_trans hq0 h)) hA9 rfl hl.1 rfl (Nat.le_of_ble_eq_true rfl) dL_law_55 (by show 2000 + 70 * T + 60 ≤ 600172; omega) (by show 12000 + 600 * T + 400 ≤ 7300668; omega) hS (fun _ H locs HZ hz hk hS => ?_)
        have HZ : zST D cI cA ad S q0 H := HZ
        refine lv_if_ne (tgt := 63) hx hb dL_law_58 (by decide) (fun _ => ?_) (fun h9 => absurd h9 (by decide))
        obtain ⟨N, w, t, pa, pe, f0, f1, f2, f3, f4, g0, g1, g2, O, r, hRa, hW, hg1, hpa, HT, HP, hX⟩ := HZ
        have hR : tR N f0 f1 f2 f3 f4 g0 g1 g2 := ⟨hRa, by rw [← hW.ww, ← hW.tt]; exact hW, hg1⟩
        have HT : va_P D vwCl (tW cI ad N pa pe f0 f1 f2 f3 f4 g0 g1 g2) H := by
          have e1 := hW.ww
          have e2 := hW.tt
          rw [e1, e2] at HT
          exact HT
        have HP : sG D cI cA S O N r g0 g1 g2 (nI pa) pe H := HP
        have hI : lS D cI cA ad S q0 N pa pe f0 f1 f2 f3 f4 g0 g1 g2 O r H := ⟨hR, HT, HP, hX, hpa⟩
        have hq : q_same H H := q_same.rf
        have hb0 : s.heap.size ≤ H.size := hS.1
        have hN24 := hR.1.n
        have hm9 := m_n_le g0 N
        refine lv_aload_n hx hb dL_law_63 rfl (lv_at hl 3 rfl) ?_
        refine q_callV (As := []) (rest := []) ⟨hx, hb, hml, hown, hts⟩ (d_words l D cI ad N pa pe f0 f1 f2 f3 f4 g0 g1 g2 hR) (cwV 0 hts gL_law_X0_words rfl rfl rfl kv_X0_words ⟨Nat.le_of_ble_eq_true rfl, Nat.le_of_ble_eq_true rfl⟩) (va_recv hK HT (ci := 0) (q0 := 0) rfl rfl) HT (hK.sub [0] rfl) rfl hl.1 rfl (Nat.le_of_ble_eq_true rfl) dL_law_64 (by show 2000 + 70 * T + 60 ≤ 600172; omega) (by show 12000 + 600 * T + 400 ≤ 7300668; omega) hS (fun H locs hsm hS => ?_)
        have hq := hq.tr hsm
        obtain ⟨-, HT, HP, -⟩ := hI.kept hq
        refine lv_istore (lv' := [(5, .int (nI (m_n g0 N))), (4, .int ((z_cl L xs (T % 16) >>> (((nI T / 16) * 3) &&& 31)) + (599 * nI T))), (3, .int (nI T)), (0, .ref b), (1, .ref (ad 0)), (2, .ref S)]) hx hb dL_law_67 hl (by decide) rfl (fun ls hl => ?_)
        refine lv_aload_n hx hb dL_law_69 rfl (lv_at hl 4 rfl) ?_
        refine q_callV (As := []) (rest := []) ⟨hx, hb, hml, hown, hts⟩ (d_remarks l D cI ad N pa pe f0 f1 f2 f3 f4 g0 g1 g2 hR) (cwV 0 hts gL_law_X0_remarks rfl rfl rfl kv_X0_remarks ⟨Nat.le_of_ble_eq_true rfl, Nat.le_of_ble_eq_true rfl⟩) (va_recv hK HT (ci := 0) (q0 := 0) rfl rfl) HT (hK.sub [0] rfl) rfl hl.1 rfl (Nat.le_of_ble_eq_true rfl) dL_law_70 (by show 2000 + 70 * T + 60 ≤ 600172; omega) (by show 12000 + 600 * T + 400 ≤ 7300668; omega) hS (fun H locs hsm hS => ?_)
        have hq := hq.tr hsm
        obtain ⟨-, HT, HP, -⟩ := hI.kept hq
        refine lv_istore (lv' := [(6, .int (nI N)), (5, .int (nI (m_n g0 N))), (4, .int ((z_cl L xs (T % 16) >>> (((nI T / 16) * 3) &&& 31)) + (599 * nI T))), (3, .int (nI T)), (0, .ref b), (1, .ref (ad 0)), (2, .ref S)]) hx hb dL_law_73 hl (by decide) rfl (fun ls hl => ?_)
        refine lv_iconst (v := 0) hx hb dL_law_75 (by decide) ?_
        refine lv_iload hx hb dL_law_76 (lv_at hl 1 rfl) ?_
        refine lv_iconst (v := 1) hx hb dL_law_78 (by decide) ?_
        refine lv_isub hx hb dL_law_79 ?_
        refine va_mmax hx hb (hml.trans hl.1.symm) hown (hts (.methodLink RL 91 Lib.Math.max.name) (by decide +kernel)) (hts (.static Lib.Math.max.name) (by decide +kernel)) (hts (.initialized "java/lang/Math") (by decide +kernel)) (hts (.code Lib.Math.max.name Lib.Math.max.code 2 (some .int)) (by decide +kernel)) (Nat.le_of_ble_eq_true rfl) (Nat.le_of_ble_eq_true rfl) (by show 2000 + 70 * T + 60 ≤ 600172; omega) (by show 12000 + 600 * T + 400 ≤ 7300668; omega) dL_law_80 ?_
        rw [mx_gap (by omega)]
        refine lv_istore (lv' := [(7, .int (nI (m_n g0 N - 1))), (6, .int (nI N)), (5, .int (nI (m_n g0 N))), (4, .int ((z_cl L xs (T % 16) >>> (((nI T / 16) * 3) &&& 31)) + (599 * nI T))), (3, .int (nI T)), (0, .ref b), (1, .ref (ad 0)), (2, .ref S)]) hx hb dL_law_83 hl (by decide) rfl (fun ls hl => ?_)
        refine law_85 hC hI hb0 (by omega) (by omega) ?_ H locs ls hq hS (lv_sub hl [0, 1, 2, 3, 4, 5, 6, 7] rfl)
        intro H locs ls HZ hS hl
        have hl : lv_has ls 26 [(3, .int (nI T)), (0, .ref b), (1, .ref (ad 0)), (2, .ref S)] := hl
        refine lv_iinc (v := (nI T + 1)) (lv' := [(3, .int (nI T + 1)), (0, .ref b), (1, .ref (ad 0)), (2, .ref S)]) hx hb dL_law_1047 hl (k := 0) rfl (by rfl) (by decide) rfl (fun ls hl => ?_)
        refine lv_goto (tgt := 22) hx hb dL_law_1050 (by decide) ?_
        refine W.widen (k := 2000 + 70 * (T + 1)) (n := 12000 + 600 * (T + 1)) (by omega) (by omega) ?_
        have e_3 : ((nI T + 1) : Int32) = nI (T + 1) := nI_1 T
        exact ih22 (T + 1) (by omega) (by omega) _ locs ls HZ hS (lv_eq (lv_sub (l' := [(3, .int (nI T + 1)), (0, .ref b), (1, .ref (ad 0)), (2, .ref S)]) hl [0, 1, 2, 3] rfl) (by rw [e_3]))
  refine W.widen (k := 2000 + 70 * 0) (n := 12000 + 600 * 0) (by omega) (by omega) ?_
  exact lo_22 (30 + 1) 0 (by omega) (by omega) _ locs ls HZ hS (lv_sub hl [0, 1, 2, 3] rfl)
