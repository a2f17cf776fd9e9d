/-! own rows: the law's act and build -/
theorem g_2 {m : Nat} (hm : m ≤ 24) : 1 ≤ nI m - 1 ↔ 2 ≤ m := by
  rw [Int32.le_iff_toInt_le, nI_m1T (by omega), iT1]
  omega
def zA (D : va_G) (cI cA : ClassId) (ad : Nat → Nat) (S q0 : Nat) (H : Heap) : Prop := zST D cI cA ad S q0 H ∧ q0 ≤ H.size
theorem zST.kept {D : va_G} {cI cA : ClassId} {ad : Nat → Nat} {S q0 : Nat} {H H1 : Heap} (h : zST D cI cA ad S q0 H) (hq : q_same H H1) : zST D cI cA ad S q0 H1 := by
  obtain ⟨N, w, t, pa, pe, f0, f1, f2, f3, f4, g0, g1, g2, O, r, hR, hW, hg, hpa, hT, hP, hX⟩ := h
  exact ⟨N, w, t, pa, pe, f0, f1, f2, f3, f4, g0, g1, g2, O, r, hR, hW, hg, hpa, hq.P hT, hP.kept hq, hX⟩
section EIV
variable {p : Program} {l : Launch} {e : Env} {R : Room} {s : State} {m : MethodId} {args : Array Value} {below : List Frame} {meth : Method} {c : Code} {H : Heap} {locs : List Loc} {cells slots : Nat} {Q : State → Prop}
variable {cc : ByteArray} {pc : Nat} {ls : Array Slot} {D : va_G} {F : Nat → Prop} {mc ms : Nat}
variable {y : MethodName} {bytes : ByteArray} {maxL nL n index : Nat} {ws : List Cond} {rm : Room} {Ts : List Cond} {own : String} {b : Addr} {As rest st0 : List Value} {tys : List (ClassId × FieldType)} {Pr : State → Prop} {A0 : Nat → Prop} {H0 : Heap}
theorem e_callIV {Z : Type} {Po : Nat → Z → Heap → Prop} (S : CallFix p m c cc nL s args Ts own) (hM : e_V l y ws rm D tys Pr (.ref b :: As) F mc ms Po) {host : String} (cw : va_CN R s args own index y host bytes maxL none ws rm mc ms n ∧ y.name = "<init>" ∧ (Cond.instanceMethod y).before args s = true) (hmv : p_mv Pr)
    (hP : ∀ U : State, U.heap = H → s.WarmedH U.vm → Pr U) (hK : va_K D vwCl tys s) (hO : n_O s) (hF : ∀ q, F q → A0 q) (hA : ∀ q : Nat, H0.size ≤ q → A0 q)
    (hn : As.length = n) (hsize : ls.size = nL) (hst : st0 = As.reverse ++ .ref b :: rest) (hW : (rest.map fun v => v.category).sum ≤ 8) (hdg : decode cc pc = .ok (.invokespecial index, 3)) (hc : cells + mc ≤ R.cells) (hs : slots + ms ≤ R.slots) (hS : va_S A0 H0 H locs)
    (kk : ∀ (u : Z) (H1 : Heap) (locs1 : List Loc), Po H.size u H1 → H.size ≤ H1.size → (∀ q : Nat, q < H.size → ¬ F q → H1[q]? = H[q]?) → va_S A0 H0 H1 locs1 → W p l e R s m args below meth c H1 locs1 (cells + mc) (slots + ms) Q (F0 m (pc + 3) ls rest)) : W p l e R s m args below meth c H locs cells slots Q (F0 m pc ls st0) := by
  subst hst
  have hFA : ∀ q, e_F F H.size q → A0 q := fun q h => h.elim (hF q) (fun h => hA q (Nat.le_trans hS.1 h))
  refine va_callv (va_runIN S (hM H.size) cw ⟨e_blind hmv, fun U hU hW => ⟨rfl, by rw [hU], hP U hU hW, va_K.moved hW.alike hK, n_O.moved hW.alike hO⟩⟩ rfl hn hsize rfl (lv_room hW) hdg ⟨hc, hs⟩) hS (fun q _ h => hFA q h) hFA (fun u t H1 locs1 ht hvm hw hB hz hk hS1 => ?_)
  exact kk u H1 locs1 (by rw [← ht]; exact hB) hz (fun q h1 h2 => hk q h1 (fun h => h.elim h2 (by omega))) hS1
end EIV
/-- the simulation's constructor can be reached from the law -/
def z_N (U : State) : Prop := va_Nw (.methodLinkNest RL 71 yX1_init RL) U
theorem z_N.warm {s U : State} (hW : s.WarmedH U.vm) (h : z_N s) : z_N U := va_Nw.warmM hW h
/-- what build is given: the script, the fresh conversation -/
def pB (D : va_G) (cI : ClassId) (ad : Nat → Nat) (b L : Nat) (xs : Nat → Int32) : State → Prop := fun U => va_X b L xs U U.heap ∧ va_P D vwCl (xw cI ad 0 0 0 30 0 x_z x_z x_z x_z x_z) U.heap ∧ z_N U
theorem pB.mv {D : va_G} {cI : ClassId} {ad : Nat → Nat} {b L : Nat} {xs : Nat → Int32} : p_mv (pB D cI ad b L xs) := fun u U h hvm hz => by
  show va_X b L xs U U.heap ∧ _
  rw [h]
  exact ⟨va_X.moved (by rw [hvm]; exact Vm.Alike.refl _) hz.1, hz.2.1, va_Nw.same rfl hvm.symm hz.2.2⟩
theorem pX_at {b L : Nat} {xs : Nat → Int32} {H : Heap} {s : State} (h : va_X b L xs s H) : ∀ U : State, U.heap = H → s.WarmedH U.vm → pX b L xs U := fun U hU hW => by
  show va_X b L xs U U.heap
  rw [hU]
  exact va_X.moved hW.alike h
theorem st_0 {D : va_G} {cI cA : ClassId} {ad : Nat → Nat} {S O q0 : Nat} {H : Heap} (hT : va_P D vwCl (xw cI ad 0 0 0 30 0 x_z x_z x_z x_z x_z) H) (hs : sS D 30 0 (.ref O) S H) (hu : aR cA 0 (fun _ => some 0) O H) (h1 : q0 ≤ S) (h2 : q0 ≤ O) (h3 : S ≠ O) : zST D cI cA ad S q0 H := by
  have z : ∀ k : Nat, ¬ k < 0 := Nat.not_lt_zero
  refine ⟨0, 0, 0, 30, 0, x_z, x_z, x_z, x_z, x_z, x_z, x_z, x_z, O, fun _ => 0, ?_, ?_, fun k hk => absurd hk (z k), by decide, hT, ⟨hs, hu, fun k hk => absurd hk (z k)⟩, h1, h2, h3, fun k hk => absurd hk (z k), fun k _ hk => absurd hk (z k)⟩
  · exact ⟨by omega, fun k hk => absurd hk (z k), fun k hk => absurd hk (z k), fun k hk => absurd hk (z k), fun k hk => absurd hk (z k), fun k hk => absurd hk (z k)⟩
  · exact ⟨nI_0.symm, fun k hk => absurd hk (z k), fun k hk => absurd hk (z k), nI_0.symm⟩

theorem kv_L_act : yL_act.cls = RL ∧ yL_act.cls ≠ "java/lang/invoke/MethodHandle" ∧ yL_act.cls ≠ "java/lang/invoke/VarHandle" ∧ (parseMethodDescriptor yL_act.desc).map (fun d => d.parameters.length) = some 3 := by decide +kernel
theorem ks_L_act : yL_act.cls ≠ "java/lang/invoke/MethodHandle" ∧ yL_act.cls ≠ "java/lang/invoke/VarHandle" ∧ (parseMethodDescriptor yL_act.desc).map (fun d => d.parameters.length) = some 3 := kv_L_act.2
set_option maxHeartbeats 4000000 in
set_option maxRecDepth 100000 in
theorem c_L_act (l : Launch) (D : va_G) (cI cA : ClassId) (ad : Nat → Nat) (S q0 : Nat) (x : Int32) (htX : tX ad q0) : e_I l yL_act wsL_act aRm D (zt cI cA) (pH (zA D cI cA ad S q0)) [.ref (ad 0), .ref S, .int x] 1 (aF ad q0) 60 400 (fun _ (_ : Unit) h => zST D cI cA ad S q0 h) := by
  refine e_startI (cc := cL_act) (maxL := 12) (rt := .boolean) (by decide) rfl (Nat.le_of_ble_eq_true rfl) ?_
  intro p e s m below meth c hx hb hml hr hts hown hlocks hK hO hPr locs ls hS hl
  obtain ⟨⟨N, w, t, pa, pe, f0, f1, f2, f3, f4, g0, g1, g2, O, r, hA⟩, hq0⟩ := hPr
  have hC : aC p s m meth c ([.ref (ad 0), .ref S, .int x]).toArray D cI cA ad q0 := ⟨hx, hb, hml, hr, hts, hown, hlocks, hK, hO, htX, hq0⟩
  obtain ⟨hR, hW, hg1, hpa, HT, HP, hX⟩ := hA
  have hin : ∀ w ∈ wsX10, w ∈ wsL_act := by decide +kernel
  have hA9 : ∀ q : Nat, s.heap.size ≤ q → e_F (aF ad q0) s.heap.size q := fun q h => Or.inr h
  have hN24 := hR.n
  have hm9 := m_n_le g0 N
  have HP : sG D cI cA S O N r g0 g1 g2 (nI pa) pe s.heap := HP
  have hl : lv_has ls 12 [(0, .ref (ad 0)), (1, .ref S), (2, .int x)] := hl
  refine lv_aload_n hx hb dL_act_0 rfl (lv_at hl 1 rfl) ?_
  refine z_get hx hb hts hin hown hK HP.cell 2 (by decide) (hts (.fieldLink RL 9 "SplicedTalkLaw$Sim" "rows" "[[I") (by decide +kernel)) (v := .ref O) rfl dL_act_1 ?_
  refine z_gln hx hb hK 1 rfl HP.2 dL_act_4 ?_
  refine lv_istore_n (lv' := [(3, .int (nI N)), (0, .ref (ad 0)), (1, .ref S), (2, .int x)]) hx hb dL_act_5 rfl hl (by decide) rfl (fun ls hl => ?_)
  refine lv_aload_n hx hb dL_act_6 rfl (lv_at hl 2 rfl) ?_
  refine e_callVR (As := []) (rest := []) ⟨hx, hb, hml, hown, hts⟩ (c_X1_words l D cI cA S O N r g0 g1 g2 (nI pa) pe hN24) (cwV 0 hts gL_act_X1_words rfl rfl rfl kv_X1_words ⟨Nat.le_of_ble_eq_true rfl, Nat.le_of_ble_eq_true rfl⟩) pH.mv (va_recv hK (z_one HP.cell) (ci := 1) (q0 := 0) rfl rfl) (p_at (Z := sG D cI cA S O N r g0 g1 g2 (nI pa) pe) HP) hK hO (fun _ h => h.elim) hA9 rfl hl.1 rfl (Nat.le_of_ble_eq_true rfl) dL_act_7 (by show 0 + 25 ≤ 60; omega) (by show 0 + 144 ≤ 400; omega) hS (fun rw O2 H locs HG hz hk hS => ?_)
  have HG : gG cI cA (m_n g0 N) 5 rw (w_row g0 g1 g2 N N) O2 H := HG
  have hsm : q_same _ H := ⟨hz, fun q hq => hk q hq (fun h => h)⟩
  have HT := hsm.P HT
  have HP := HP.kept hsm
  refine lv_astore (lv' := [(4, .ref O2), (3, .int (nI N)), (0, .ref (ad 0)), (1, .ref S), (2, .int x)]) hx hb dL_act_10 hl (by decide) rfl (fun ls hl => ?_)
  refine lv_aload hx hb dL_act_12 (lv_at hl 0 rfl) ?_
  refine z_gln hx hb hK 1 rfl HG dL_act_14 ?_
  refine lv_iconst (v := 1) hx hb dL_act_15 (by decide) ?_
  refine lv_isub hx hb dL_act_16 ?_
  refine lv_istore (lv' := [(5, .int (nI (m_n g0 N) - 1)), (4, .ref O2), (3, .int (nI N)), (0, .ref (ad 0)), (1, .ref S), (2, .int x)]) hx hb dL_act_17 hl (by decide) rfl (fun ls hl => ?_)
  refine lv_iload_n hx hb dL_act_19 rfl (lv_at hl 5 rfl) ?_
  refine lv_bipush (v := 9) hx hb dL_act_20 (by decide) ?_
  refine lv_ishr hx hb dL_act_22 ?_
  refine lv_bipush (v := 16) hx hb dL_act_23 (by decide) ?_
  refine p_callS (As := [.int (x >>> (9 &&& 31)), .int 16]) (rest := []) ⟨hx, hb, hml, hown, hts⟩ (c_L_below l D (x >>> (9 &&& 31)) 16 (by decide) (by decide)) (va_cwS 2 hts gL_act_L_below rfl rfl rfl ks_L_below ⟨Nat.le_of_ble_eq_true rfl, Nat.le_of_ble_eq_true rfl⟩) pH.mv (p_at (Z := zTr) trivial) (hK.sub [] rfl) rfl hl.1 rfl (Nat.le_of_ble_eq_true rfl) dL_act_25 (by show 0 + 25 ≤ 60; omega) (by show 0 + 144 ≤ 400; omega) hS (fun H locs hsm hS => ?_)
  have HT := hsm.P HT
  have HP := HP.kept hsm
  have HG := HG.kept hsm
  refine lv_istore (lv' := [(6, .int (nI (z_lo (x >>> (9 &&& 31)) % 16))), (5, .int (nI (m_n g0 N) - 1)), (4, .ref O2), (3, .int (nI N)), (0, .ref (ad 0)), (1, .ref S), (2, .int x)]) hx hb dL_act_28 hl (by decide) rfl (fun ls hl => ?_)
  suffices K46 : ∀ (j : Nat), j < 16 → (m_n g0 N < 2 → j ≤ 10) → ∀ (ls : Array Slot), lv_has ls 12 [(6, .int (nI j)), (5, .int (nI (m_n g0 N) - 1)), (4, .ref O2), (3, .int (nI N)), (0, .ref (ad 0)), (1, .ref S), (2, .int x)] → W p l e aRm s m ([.ref (ad 0), .ref S, .int x]).toArray below meth c H locs (0 + 25) (0 + 144) (aQ D cI cA ad S q0 below ([.ref (ad 0), .ref S, .int x]).toArray s) (F0 m 46 ls []) from by
    refine lv_iload hx hb dL_act_30 (lv_at hl 1 rfl) ?_
    refine lv_iconst (v := 1) hx hb dL_act_32 (by decide) ?_
    refine lv_icmp_ge (tgt := 46) hx hb dL_act_33 (by decide) (fun c_33 => ?_) (fun c_33 => ?_)
    · exact K46 _ (Nat.mod_lt _ (by decide)) (fun q => absurd q (by have := (g_2 (by omega)).mp c_33; omega)) ls (lv_sub hl [0, 1, 2, 3, 4, 5, 6] rfl)
    · refine lv_iload hx hb dL_act_36 (lv_at hl 0 rfl) ?_
      refine lv_bipush (v := 10) hx hb dL_act_38 (by decide) ?_
      refine lv_icmp_le (tgt := 46) hx hb dL_act_40 (by decide) (fun c_40 => ?_) (fun c_40 => ?_)
      · exact K46 _ (Nat.mod_lt _ (by decide)) (fun _ => by have h := c_40; rwa [show (10 : Int32) = nI 10 from rfl, nI_leI (by omega) (by decide)] at h) ls (lv_sub hl [0, 1, 2, 3, 4, 5, 6] rfl)
      · refine lv_iconst (v := 0) hx hb dL_act_43 (by decide) ?_
        refine lv_istore (lv' := [(6, .int 0), (5, .int (nI (m_n g0 N) - 1)), (4, .ref O2), (3, .int (nI N)), (0, .ref (ad 0)), (1, .ref S), (2, .int x)]) hx hb dL_act_44 hl (by decide) rfl (fun ls hl => ?_)
        exact K46 0 (by decide) (fun _ => by decide) ls (lv_sub hl [0, 1, 2, 3, 4, 5, 6] rfl)
  intro j hj hj2 ls hl
  refine lv_iload hx hb dL_act_46 (lv_at hl 1 rfl) ?_
  refine lv_iconst (v := 1) hx hb dL_act_48 (by decide) ?_
  refine lv_icmp_ge (tgt := 56) hx hb dL_act_49 (by decide) (fun c_49 => ?_) (fun c_49 => ?_)
  · have hm2 : 2 ≤ m_n g0 N := (g_2 (by omega)).mp c_49
    refine lv_iload_n hx hb dL_act_56 rfl (lv_at hl 6 rfl) ?_
    refine lv_iconst (v := 2) hx hb dL_act_57 (by decide) ?_
    refine lv_ishr hx hb dL_act_58 ?_
    refine lv_iload hx hb dL_act_59 (lv_at hl 1 rfl) ?_
    rw [nI_m1 (show 0 < m_n g0 N by omega)]
    refine p_callS (As := [.int (x >>> (2 &&& 31)), .int (nI (m_n g0 N - 1))]) (rest := []) ⟨hx, hb, hml, hown, hts⟩ (c_L_below l D (x >>> (2 &&& 31)) (m_n g0 N - 1) (by omega) (by omega)) (va_cwS 2 hts gL_act_L_below rfl rfl rfl ks_L_below ⟨Nat.le_of_ble_eq_true rfl, Nat.le_of_ble_eq_true rfl⟩) pH.mv (p_at (Z := zTr) trivial) (hK.sub [] rfl) rfl hl.1 rfl (Nat.le_of_ble_eq_true rfl) dL_act_61 (by show 0 + 25 ≤ 60; omega) (by show 0 + 144 ≤ 400; omega) hS (fun H locs hsm hS => ?_)
    have HT := hsm.P HT
    have HP := HP.kept hsm
    have HG := HG.kept hsm
    have hG2 : z_lo (x >>> (2 &&& 31)) % (m_n g0 N - 1) + 1 < m_n g0 N := by have := Nat.mod_lt (z_lo (x >>> (2 &&& 31))) (show 0 < m_n g0 N - 1 by omega); omega
    refine lv_istore (lv' := [(7, .int (nI (z_lo (x >>> (2 &&& 31)) % (m_n g0 N - 1)))), (6, .int (nI j)), (5, .int (nI (m_n g0 N) - 1)), (4, .ref O2), (3, .int (nI N)), (0, .ref (ad 0)), (1, .ref S), (2, .int x)]) hx hb dL_act_64 hl (by decide) rfl (fun ls hl => ?_)
    refine lv_iload hx hb dL_act_66 (lv_at hl 1 rfl) ?_
    rcases (show j ≤ 6 ∨ j = 7 ∨ j = 8 ∨ j = 9 ∨ j = 10 ∨ j = 11 ∨ j = 12 ∨ j = 13 ∨ j = 14 ∨ j = 15 by omega) with hj6 | rfl | rfl | rfl | rfl | rfl | rfl | rfl | rfl | rfl
    · refine lv_tableOut (tgt := 470) hx hb dL_act_68 (by rw [nI_toInt (by omega)]; omega) (by decide) ?_
      exact act_say (g := (z_lo (x >>> (2 &&& 31)) % (m_n g0 N - 1))) hC ⟨hR, hW, hg1, hpa, HT, HP, hX⟩ HG hS (lv_sub hl [0, 1, 2, 3, 4, 5, 6, 7] rfl)
    · refine lv_tableIn (tgt := 120) (off := 52) hx hb dL_act_68 (by decide) (by decide) (by decide) (by decide) ?_
      exact act_cough (g := (z_lo (x >>> (2 &&& 31)) % (m_n g0 N - 1))) hC ⟨hR, hW, hg1, hpa, HT, HP, hX⟩ HG hS (lv_sub hl [0, 1, 2, 3, 4, 5, 6, 7] rfl)
    · refine lv_tableIn (tgt := 120) (off := 52) hx hb dL_act_68 (by decide) (by decide) (by decide) (by decide) ?_
      exact act_cough (g := (z_lo (x >>> (2 &&& 31)) % (m_n g0 N - 1))) hC ⟨hR, hW, hg1, hpa, HT, HP, hX⟩ HG hS (lv_sub hl [0, 1, 2, 3, 4, 5, 6, 7] rfl)
    · refine lv_tableIn (tgt := 177) (off := 109) hx hb dL_act_68 (by decide) (by decide) (by decide) (by decide) ?_
      exact act_rest (g := (z_lo (x >>> (2 &&& 31)) % (m_n g0 N - 1))) hC ⟨hR, hW, hg1, hpa, HT, HP, hX⟩ HG hS (lv_sub hl [0, 1, 2, 3, 4, 5, 6, 7] rfl)
    · refine lv_tableIn (tgt := 236) (off := 168) hx hb dL_act_68 (by decide) (by decide) (by decide) (by decide) ?_
      exact act_rem (g := (z_lo (x >>> (2 &&& 31)) % (m_n g0 N - 1))) hC ⟨hR, hW, hg1, hpa, HT, HP, hX⟩ HG hS (lv_sub hl [0, 1, 2, 3, 4, 5, 6, 7] rfl)
    · refine lv_tableIn (tgt := 322) (off := 254) hx hb dL_act_68 (by decide) (by decide) (by decide) (by decide) ?_
      have hg : (z_lo (x >>> (2 &&& 31)) % (m_n g0 N - 1)) + 1 < m_n g0 N := hG2
      exact act_tie (g := (z_lo (x >>> (2 &&& 31)) % (m_n g0 N - 1))) hC ⟨hR, hW, hg1, hpa, HT, HP, hX⟩ HG hg hS (lv_sub hl [0, 1, 2, 3, 4, 5, 6, 7] rfl)
    · refine lv_tableIn (tgt := 322) (off := 254) hx hb dL_act_68 (by decide) (by decide) (by decide) (by decide) ?_
      have hg : (z_lo (x >>> (2 &&& 31)) % (m_n g0 N - 1)) + 1 < m_n g0 N := hG2
      exact act_tie (g := (z_lo (x >>> (2 &&& 31)) % (m_n g0 N - 1))) hC ⟨hR, hW, hg1, hpa, HT, HP, hX⟩ HG hg hS (lv_sub hl [0, 1, 2, 3, 4, 5, 6, 7] rfl)
    · refine lv_tableIn (tgt := 402) (off := 334) hx hb dL_act_68 (by decide) (by decide) (by decide) (by decide) ?_
      have hg : (z_lo (x >>> (2 &&& 31)) % (m_n g0 N - 1)) + 1 < m_n g0 N := hG2
      exact act_spl (g := (z_lo (x >>> (2 &&& 31)) % (m_n g0 N - 1))) hC ⟨hR, hW, hg1, hpa, HT, HP, hX⟩ HG hg hS (lv_sub hl [0, 1, 2, 3, 4, 5, 6, 7] rfl)
    · refine lv_tableIn (tgt := 402) (off := 334) hx hb dL_act_68 (by decide) (by decide) (by decide) (by decide) ?_
      have hg : (z_lo (x >>> (2 &&& 31)) % (m_n g0 N - 1)) + 1 < m_n g0 N := hG2
      exact act_spl (g := (z_lo (x >>> (2 &&& 31)) % (m_n g0 N - 1))) hC ⟨hR, hW, hg1, hpa, HT, HP, hX⟩ HG hg hS (lv_sub hl [0, 1, 2, 3, 4, 5, 6, 7] rfl)
    · refine lv_tableIn (tgt := 402) (off := 334) hx hb dL_act_68 (by decide) (by decide) (by decide) (by decide) ?_
      have hg : (z_lo (x >>> (2 &&& 31)) % (m_n g0 N - 1)) + 1 < m_n g0 N := hG2
      exact act_spl (g := (z_lo (x >>> (2 &&& 31)) % (m_n g0 N - 1))) hC ⟨hR, hW, hg1, hpa, HT, HP, hX⟩ HG hg hS (lv_sub hl [0, 1, 2, 3, 4, 5, 6, 7] rfl)
  · have hm2 : m_n g0 N < 2 := by
      rcases Nat.lt_or_ge (m_n g0 N) 2 with q | q
      · exact q
      · exact absurd ((g_2 (by omega)).mpr q) c_49
    refine lv_iconst (v := 0) hx hb dL_act_52 (by decide) ?_
    refine lv_goto (tgt := 64) hx hb dL_act_53 (by decide) ?_
    refine lv_istore (lv' := [(7, .int 0), (6, .int (nI j)), (5, .int (nI (m_n g0 N) - 1)), (4, .ref O2), (3, .int (nI N)), (0, .ref (ad 0)), (1, .ref S), (2, .int x)]) hx hb dL_act_64 hl (by decide) rfl (fun ls hl => ?_)
    refine lv_iload hx hb dL_act_66 (lv_at hl 1 rfl) ?_
    rcases (show j ≤ 6 ∨ j = 7 ∨ j = 8 ∨ j = 9 ∨ j = 10 ∨ j = 11 ∨ j = 12 ∨ j = 13 ∨ j = 14 ∨ j = 15 by omega) with hj6 | rfl | rfl | rfl | rfl | rfl | rfl | rfl | rfl | rfl
    · refine lv_tableOut (tgt := 470) hx hb dL_act_68 (by rw [nI_toInt (by omega)]; omega) (by decide) ?_
      exact act_say (g := 0) hC ⟨hR, hW, hg1, hpa, HT, HP, hX⟩ HG hS (lv_sub hl [0, 1, 2, 3, 4, 5, 6, 7] rfl)
    · refine lv_tableIn (tgt := 120) (off := 52) hx hb dL_act_68 (by decide) (by decide) (by decide) (by decide) ?_
      exact act_cough (g := 0) hC ⟨hR, hW, hg1, hpa, HT, HP, hX⟩ HG hS (lv_sub hl [0, 1, 2, 3, 4, 5, 6, 7] rfl)
    · refine lv_tableIn (tgt := 120) (off := 52) hx hb dL_act_68 (by decide) (by decide) (by decide) (by decide) ?_
      exact act_cough (g := 0) hC ⟨hR, hW, hg1, hpa, HT, HP, hX⟩ HG hS (lv_sub hl [0, 1, 2, 3, 4, 5, 6, 7] rfl)
    · refine lv_tableIn (tgt := 177) (off := 109) hx hb dL_act_68 (by decide) (by decide) (by decide) (by decide) ?_
      exact act_rest (g := 0) hC ⟨hR, hW, hg1, hpa, HT, HP, hX⟩ HG hS (lv_sub hl [0, 1, 2, 3, 4, 5, 6, 7] rfl)
    · refine lv_tableIn (tgt := 236) (off := 168) hx hb dL_act_68 (by decide) (by decide) (by decide) (by decide) ?_
      exact act_rem (g := 0) hC ⟨hR, hW, hg1, hpa, HT, HP, hX⟩ HG hS (lv_sub hl [0, 1, 2, 3, 4, 5, 6, 7] rfl)
    · refine lv_tableIn (tgt := 322) (off := 254) hx hb dL_act_68 (by decide) (by decide) (by decide) (by decide) ?_
      exact absurd (hj2 hm2) (by decide)
    · refine lv_tableIn (tgt := 322) (off := 254) hx hb dL_act_68 (by decide) (by decide) (by decide) (by decide) ?_
      exact absurd (hj2 hm2) (by decide)
    · refine lv_tableIn (tgt := 402) (off := 334) hx hb dL_act_68 (by decide) (by decide) (by decide) (by decide) ?_
      exact absurd (hj2 hm2) (by decide)
    · refine lv_tableIn (tgt := 402) (off := 334) hx hb dL_act_68 (by decide) (by decide) (by decide) (by decide) ?_
      exact absurd (hj2 hm2) (by decide)
    · refine lv_tableIn (tgt := 402) (off := 334) hx hb dL_act_68 (by decide) (by decide) (by decide) (by decide) ?_
      exact absurd (hj2 hm2) (by decide)

theorem kv_L_build : yL_build.cls = RL ∧ yL_build.cls ≠ "java/lang/invoke/MethodHandle" ∧ yL_build.cls ≠ "java/lang/invoke/VarHandle" ∧ (parseMethodDescriptor yL_build.desc).map (fun d => d.parameters.length) = some 2 := by decide +kernel
theorem ks_L_build : yL_build.cls ≠ "java/lang/invoke/MethodHandle" ∧ yL_build.cls ≠ "java/lang/invoke/VarHandle" ∧ (parseMethodDescriptor yL_build.desc).map (fun d => d.parameters.length) = some 2 := kv_L_build.2
set_option maxHeartbeats 4000000 in
set_option maxRecDepth 100000 in
theorem c_L_build (l : Launch) (D : va_G) (cI cA : ClassId) (ad : Nat → Nat) (b L : Nat) (xs : Nat → Int32) (hL : L < 2 ^ 30) (hinj : ∀ i j, i < 6 → j < 6 → ad i = ad j → i = j) (hbk : ∀ k, k < 6 → b ≠ ad k) : e_R l yL_build wsL_build ({ frames := 8, cells := 1800, slots := 11700, locals := 200 } : Room) D (zt cI cA) (pB D cI ad b L xs) [.ref (ad 0), .ref b] (fun q => ∃ k, k < 6 ∧ q = ad k) 1800 11700 (fun sz (_ : Unit) a h => zST D cI cA ad a sz h) := by
  refine e_startR (cc := cL_build) (maxL := 5) (rt := .object "SplicedTalkLaw$Sim") (by decide) rfl (Nat.le_of_ble_eq_true rfl) ?_
  intro p e s m below meth c hx hb hml hr hts hown hlocks hK hO hPr locs ls hS hl
  obtain ⟨hXs, HT, hZN⟩ := hPr
  have hA9 : ∀ q : Nat, s.heap.size ≤ q → e_F (fun q => ∃ k, k < 6 ∧ q = ad k) s.heap.size q := fun q h => Or.inr h
  have hin : ∀ w ∈ wsX10, w ∈ wsL_build := by decide +kernel
  have hbl : b < s.heap.size := by obtain ⟨_, h, _⟩ := hXs; exact z_lt h
  have hbA : ¬ e_F (fun q => ∃ k, k < 6 ∧ q = ad k) s.heap.size b := fun h => h.elim (fun ⟨k, h1, h2⟩ => hbk k h1 h2) (fun h => by omega)
  have htX : tX ad s.heap.size := ⟨xw_lt HT, hinj⟩
  have HX : ∀ {H : Heap} {locs : List Loc}, va_S (e_F (fun q => ∃ k, k < 6 ∧ q = ad k) s.heap.size) s.heap H locs → va_X b L xs s H := fun hS => va_X.kept hXs (hS.2.1 b hbl hbA)
  have hl : lv_has ls 5 [(0, .ref (ad 0)), (1, .ref b)] := hl
  refine va_new (D := D) (ci := 1) (fs := [.int 0, .int 0, .null]) (C := RX1) (T := TX1) (N := 3) hx hb hts hin tyX1 tyX1_ok hown (hts (.classLink RL 10 RX1) (by decide +kernel)) (hts (.instantiable RX1 3) (by decide +kernel)) (hts (.initialized RX1) (by decide +kernel)) hK HT (htX.D.weaken (B := e_F (fun q => ∃ k, k < 6 ∧ q = ad k) s.heap.size) (fun k q h _ => Or.inl ⟨k, xw_at h⟩)) hS hA9 rfl (fun j hj => by rcases (show j = 0 ∨ j = 1 ∨ j = 2 by omega) with rfl | rfl | rfl <;> rfl) (Nat.le_of_ble_eq_true rfl) (Nat.le_of_ble_eq_true rfl) dL_build_0 (fun S H hP9 hD9 hS => ?_)
  have HC : va_at D vwCl (S, .inr (1, [.int 0, .int 0, .null])) H := hP9 6 _ rfl
  have HT : va_P D vwCl (xw cI ad 0 0 0 30 0 x_z x_z x_z x_z x_z) H := hP9.sub [0, 1, 2, 3, 4, 5] rfl
  have hSz : s.heap.size ≤ S := (hD9.2 6 _ rfl).elim (fun ⟨k, h1, h2⟩ => by
    exfalso
    have key : ∀ (k : Nat) (x : Nat × va_E), (xw cI ad 0 0 0 30 0 x_z x_z x_z x_z x_z)[k]? = some x → x.1 ≠ S := fun k x hx e => by
      have h6 := (xw_at hx).1
      have := hD9.1 k 6 x _ (by rw [List.getElem?_append_left (by exact h6)]; exact hx) rfl e
      omega
    have h2 : S = ad k := h2
    rcases (show k = 0 ∨ k = 1 ∨ k = 2 ∨ k = 3 ∨ k = 4 ∨ k = 5 by omega) with rfl | rfl | rfl | rfl | rfl | rfl
    · exact key 0 _ rfl h2.symm
    · exact key 1 _ rfl h2.symm
    · exact key 2 _ rfl h2.symm
    · exact key 3 _ rfl h2.symm
    · exact key 4 _ rfl h2.symm
    · exact key 5 _ rfl h2.symm) (fun h => h)
  refine lv_dup hx hb dL_build_3 rfl ?_
  refine e_callIV (As := []) (rest := [.ref S]) ⟨hx, hb, hml, hown, hts⟩ (c_X1_init l D cI cA S) ⟨va_cnB 0 hts gL_build_X1_init_n71 rfl rfl rfl hZN (hts (.initialized RX1) (by decide +kernel)) kv_X1_init.2 ⟨Nat.le_of_ble_eq_true rfl, Nat.le_of_ble_eq_true rfl⟩, rfl, hts (.instanceMethod yX1_init) (by decide +kernel)⟩ pH.mv (p_at (Z := fun h => va_at D vwCl (S, .inr (1, [.int 0, .int 0, .null])) h) HC) hK hO (fun q h => Or.inr (by rw [h]; exact hSz)) hA9 rfl hl.1 rfl (Nat.le_of_ble_eq_true rfl) dL_build_4 (Nat.le_of_ble_eq_true rfl) (Nat.le_of_ble_eq_true rfl) hS (fun u H locs hu hz hk hS => ?_)
  obtain ⟨hu1, hu2, hu3⟩ := hu
  have hS9 := va_at.lt HC
  have HT := xw_kp HT (fun k hk9 => hk _ (xw_lt HT k hk9) (fun e => by have := htX.1 k hk9; omega))
  have HZ : zST D cI cA ad S s.heap.size H := st_0 HT hu1 hu2 hSz (by omega) (by omega)
  refine lv_astore_n (lv' := [(2, .ref S), (0, .ref (ad 0)), (1, .ref b)]) hx hb dL_build_7 rfl hl (by decide) rfl (fun ls hl => ?_)
  refine lv_iconst (v := 4) hx hb dL_build_8 (by decide) ?_
  refine lv_aload_n hx hb dL_build_9 rfl (lv_at hl 2 rfl) ?_
  refine lv_iconst (v := 0) hx hb dL_build_10 (by decide) ?_
  refine p_callS (As := [.ref b, .int (nI 0)]) (rest := [.int 4]) ⟨hx, hb, hml, hown, hts⟩ (c_L_cell l D b L xs 0 hL (by omega)) (va_cwS 2 hts gL_build_L_cell rfl rfl rfl ks_L_cell ⟨Nat.le_of_ble_eq_true rfl, Nat.le_of_ble_eq_true rfl⟩) pX.mv ((pX_at (HX hS))) (hK.sub [] rfl) rfl hl.1 rfl (Nat.le_of_ble_eq_true rfl) dL_build_11 (by show 0 + 1 + 1 ≤ 1800; omega) (by show 0 + 3 + 0 ≤ 11700; omega) hS (fun H locs hsm hS => ?_)
  have HZ := zST.kept HZ hsm
  refine lv_bipush (v := 26) hx hb dL_build_14 (by decide) ?_
  refine p_callS (As := [.int (z_cl L xs 0), .int 26]) (rest := [.int 4]) ⟨hx, hb, hml, hown, hts⟩ (c_L_below l D (z_cl L xs 0) 26 (by decide) (by decide)) (va_cwS 2 hts gL_build_L_below rfl rfl rfl ks_L_below ⟨Nat.le_of_ble_eq_true rfl, Nat.le_of_ble_eq_true rfl⟩) pH.mv (p_at (Z := zTr) trivial) (hK.sub [] rfl) rfl hl.1 rfl (Nat.le_of_ble_eq_true rfl) dL_build_16 (by show 0 + 1 + 1 ≤ 1800; omega) (by show 0 + 3 + 0 ≤ 11700; omega) hS (fun H locs hsm hS => ?_)
  have HZ := zST.kept HZ hsm
  refine lv_iadd hx hb dL_build_19 ?_
  rw [show (4 : Int32) + nI (z_lo (z_cl L xs 0) % 26) = nI (4 + z_lo (z_cl L xs 0) % 26) from nI_add 4 _]
  refine lv_istore_n (lv' := [(3, .int (nI (4 + z_lo (z_cl L xs 0) % 26))), (2, .ref S), (0, .ref (ad 0)), (1, .ref b)]) hx hb dL_build_20 rfl hl (by decide) rfl (fun ls hl => ?_)
  refine lv_iconst (v := 0) hx hb dL_build_21 (by decide) ?_
  refine lv_istore (lv' := [(4, .int 0), (3, .int (nI (4 + z_lo (z_cl L xs 0) % 26))), (2, .ref S), (0, .ref (ad 0)), (1, .ref b)]) hx hb dL_build_22 hl (by decide) rfl (fun ls hl => ?_)
  have lo_24 : ∀ (fu k : Nat), (4 + z_lo (z_cl L xs 0) % 26) - k < fu → k ≤ (4 + z_lo (z_cl L xs 0) % 26) → ∀ (H : Heap) (locs : List Loc) (ls : Array Slot), zST D cI cA ad S s.heap.size H → va_S (e_F (fun q => ∃ k, k < 6 ∧ q = ad k) s.heap.size) s.heap H locs → lv_has ls 5 [(4, .int (nI k)), (3, .int (nI (4 + z_lo (z_cl L xs 0) % 26))), (2, .ref S), (0, .ref (ad 0)), (1, .ref b)] → W p l e ({ frames := 8, cells := 1800, slots := 11700, locals := 200 } : Room) s m [.ref (ad 0), .ref b].toArray below meth c H locs (2 + 60 * k) (3 + 400 * k) (e_ER below [.ref (ad 0), .ref b].toArray s (fun q => ∃ k, k < 6 ∧ q = ad k) 1800 11700 (fun sz (_ : Unit) a h => zST D cI cA ad a sz h)) (F0 m 24 ls []) := by
    intro fu
    induction fu with
    | zero => intro k hi; exact absurd hi (Nat.not_lt_zero _)
    | succ fu ih =>
      intro k hi hkN H locs ls HZ hS hl
      refine lv_iload hx hb dL_build_24 (lv_at hl 0 rfl) ?_
      refine lv_iload_n hx hb dL_build_26 rfl (lv_at hl 1 rfl) ?_
      refine lv_icmp_ge (tgt := 70) hx hb dL_build_27 (by decide) (fun c_27 => ?_) (fun c_27 => ?_)
      · have hi9 : k = (4 + z_lo (z_cl L xs 0) % 26) := nI_ge' hkN (by omega) c_27
        refine lv_aload_n hx hb dL_build_70 rfl (lv_at hl 2 rfl) ?_
        exact e_retR () hx hb hr (Or.inl ⟨_, rfl⟩) hlocks hS HZ (by show 2 + 60 * k ≤ 1800; omega) (by show 3 + 400 * k ≤ 11700; omega) dL_build_71
      · have hi9 : k < (4 + z_lo (z_cl L xs 0) % 26) := nI_lt' hkN (by omega) c_27
        refine lv_aload_n hx hb dL_build_30 rfl (lv_at hl 3 rfl) ?_
        refine lv_aload_n hx hb dL_build_31 rfl (lv_at hl 2 rfl) ?_
        refine lv_aload_n hx hb dL_build_32 rfl (lv_at hl 4 rfl) ?_
        refine lv_iload hx hb dL_build_33 (lv_at hl 0 rfl) ?_
        refine lv_bipush (v := 16) hx hb dL_build_35 (by decide) ?_
        refine lv_irem hx hb dL_build_37 (by decide) ?_
        rw [show nI k - nI k / 16 * 16 = nI (k % 16) from pk_rem (d := 16) (by omega) (by decide) (by decide)]
        refine p_callS (As := [.ref b, .int (nI (k % 16))]) (rest := [.ref S, .ref (ad 0)]) ⟨hx, hb, hml, hown, hts⟩ (c_L_cell l D b L xs (k % 16) hL (by omega)) (va_cwS 2 hts gL_build_L_cell rfl rfl rfl ks_L_cell ⟨Nat.le_of_ble_eq_true rfl, Nat.le_of_ble_eq_true rfl⟩) pX.mv ((pX_at (HX hS))) (hK.sub [] rfl) rfl hl.1 rfl (Nat.le_of_ble_eq_true rfl) dL_build_38 (by show 2 + 60 * k ≤ 1800; omega) (by show 3 + 400 * k ≤ 11700; omega) hS (fun H locs hsm hS => ?_)
        have HZ := zST.kept HZ hsm
        refine lv_iload hx hb dL_build_41 (lv_at hl 0 rfl) ?_
        refine lv_bipush (v := 16) hx hb dL_build_43 (by decide) ?_
        refine lv_idiv hx hb dL_build_45 (by decide) ?_
        refine lv_iconst (v := 3) hx hb dL_build_46 (by decide) ?_
        refine lv_imul hx hb dL_build_47 ?_
        refine lv_ishr hx hb dL_build_48 ?_
        refine lv_sipush (v := 599) hx hb dL_build_49 (by decide) ?_
        refine lv_iload hx hb dL_build_52 (lv_at hl 0 rfl) ?_
        refine lv_imul hx hb dL_build_54 ?_
        refine lv_iadd hx hb dL_build_55 ?_
        refine e_callSI (As := [.ref (ad 0), .ref S, .int ((z_cl L xs (k % 16) >>> (((nI k / 16) * 3) &&& 31)) + (599 * nI k))]) (rest := []) ⟨hx, hb, hml, hown, hts⟩ (c_L_act l D cI cA ad S s.heap.size ((z_cl L xs (k % 16) >>> (((nI k / 16) * 3) &&& 31)) + (599 * nI k)) htX) (va_cwS 3 hts gL_build_L_act rfl rfl rfl ks_L_act ⟨Nat.le_of_ble_eq_true rfl, Nat.le_of_ble_eq_true rfl⟩) pH.mv (p_at (Z := zA D cI cA ad S s.heap.size) ⟨HZ, hS.1⟩) hK hO (fun q h => h.elim (fun h => Or.inl h) (fun h => Or.inr h)) hA9 rfl hl.1 rfl (Nat.le_of_ble_eq_true rfl) dL_build_56 (by show 2 + 60 * k + 60 ≤ 1800; omega) (by show 3 + 400 * k + 400 ≤ 11700; omega) hS (fun _ H locs HZ hz hk hS => ?_)
        have HZ : zST D cI cA ad S s.heap.size H := HZ
        refine lv_if_ne (tgt := 64) hx hb dL_build_59 (by decide) (fun _ => ?_) (fun h9 => absurd h9 (by decide))
        refine lv_iinc (v := (nI k + 1)) (lv' := [(4, .int (nI k + 1)), (3, .int (nI (4 + z_lo (z_cl L xs 0) % 26))), (2, .ref S), (0, .ref (ad 0)), (1, .ref b)]) hx hb dL_build_64 hl (k := 0) rfl (by rfl) (by decide) rfl (fun ls hl => ?_)
        refine lv_goto (tgt := 24) hx hb dL_build_67 (by decide) ?_
        refine W.widen (k := 2 + 60 * (k + 1)) (n := 3 + 400 * (k + 1)) (by omega) (by omega) ?_
        have e_4 : ((nI k + 1) : Int32) = nI (k + 1) := nI_1 k
        exact ih (k + 1) (by omega) (by omega) _ locs ls HZ hS (lv_eq (lv_sub (l' := [(4, .int (nI k + 1)), (3, .int (nI (4 + z_lo (z_cl L xs 0) % 26))), (2, .ref S), (0, .ref (ad 0)), (1, .ref b)]) hl [0, 1, 2, 3, 4] rfl) (by rw [e_4]))
  refine W.widen (k := 2 + 60 * 0) (n := 3 + 400 * 0) (by omega) (by omega) ?_
  exact lo_24 ((4 + z_lo (z_cl L xs 0) % 26) + 1) 0 (by omega) (by omega) _ locs ls HZ hS (lv_sub hl [0, 1, 2, 3, 4] rfl)
