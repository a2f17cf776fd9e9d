/-! own rows: the simulation's splice and its constructor -/
theorem kv_X1_splice : yX1_splice.cls = RX1 ∧ yX1_splice.cls ≠ "java/lang/invoke/MethodHandle" ∧ yX1_splice.cls ≠ "java/lang/invoke/VarHandle" ∧ (parseMethodDescriptor yX1_splice.desc).map (fun d => d.parameters.length) = some 1 := by decide +kernel
theorem ks_X1_splice : yX1_splice.cls ≠ "java/lang/invoke/MethodHandle" ∧ yX1_splice.cls ≠ "java/lang/invoke/VarHandle" ∧ (parseMethodDescriptor yX1_splice.desc).map (fun d => d.parameters.length) = some 1 := kv_X1_splice.2
set_option maxHeartbeats 4000000 in
set_option maxRecDepth 100000 in
theorem c_X1_splice (l : Launch) (D : va_G) (cI cA : ClassId) (S O N : Nat) (r : Nat → Nat) (g0 g1 g2 : Nat → Int32) (pa pe : Int32) (hN : N < 24) (g : Nat) (hw : w_ok g0 g2 N) (hg : g + 1 < m_n g0 N) : e_I l yX1_splice wsX1_splice ({ frames := 2, cells := 27, slots := 171, locals := 60 } : Room) D (zt cI cA) (pH (sG D cI cA S O N r g0 g1 g2 pa pe)) [.ref S, .int (nI g)] (m_half (g0 (m_P g0 N g)) (g0 (m_P g0 N (g + 1)))) (fun x => x = S) 27 171 (fun sz (u : Nat × Nat) h => sS D pa pe (.ref u.1) S h ∧ aR cA (N + 1) (fun i => some (r_ins r (m_P g0 N g + 1) u.2 i)) u.1 h ∧ sz ≤ u.1 ∧ sz ≤ u.2 ∧ u.1 ≠ u.2 ∧ ∃ f, aI cI 3 f u.2 h ∧ f 0 = g1 (m_P g0 N g) ∧ f 1 = m_half (g0 (m_P g0 N g)) (g0 (m_P g0 N (g + 1))) ∧ f 2 = 0) := by
  refine e_startI (cc := cX1_splice) (maxL := 4) (rt := .int) (by decide) rfl (Nat.le_of_ble_eq_true rfl) ?_
  intro p e s m below meth c hx hb hml hr hts hown hlocks hK hO hPr locs ls hS hl
  have hin : ∀ w ∈ wsX10, w ∈ wsX1_splice := by decide +kernel
  have hl : lv_has ls 4 [(0, .ref S), (1, .int (nI g))] := hl
  have HP0 : sG D cI cA S O N r g0 g1 g2 pa pe s.heap := hPr
  have HP := HP0
  have HQ : q_same s.heap s.heap := q_same.rf
  have hm9 := m_n_le g0 N
  have hPg := m_P_lt (show g < m_n g0 N by omega)
  obtain ⟨a, ha, ea⟩ := hw.2.1 g (by omega)
  obtain ⟨b, hb9, eb⟩ := hw.2.1 (g + 1) hg
  have hA9 : ∀ q : Nat, s.heap.size ≤ q → e_F (fun x => x = S) s.heap.size q := fun q h => Or.inr h
  refine lv_aload_n hx hb dX1_splice_0 rfl (lv_at hl 0 rfl) ?_
  refine e_callVR (As := []) (rest := []) ⟨hx, hb, hml, hown, hts⟩ (c_X1_words l D cI cA S O N r g0 g1 g2 pa pe (by omega)) (cwV 0 hts gX1_splice_X1_words rfl rfl rfl kv_X1_words ⟨Nat.le_of_ble_eq_true rfl, Nat.le_of_ble_eq_true rfl⟩) pH.mv (va_recv hK (z_one HP.cell) (ci := 1) (q0 := 0) rfl rfl) (p_at (Z := sG D cI cA S O N r g0 g1 g2 pa pe) HP) hK hO (fun _ h => h.elim) hA9 rfl hl.1 rfl (Nat.le_of_ble_eq_true rfl) dX1_splice_1 (by show 0 + 25 ≤ 27; omega) (by show 0 + 144 ≤ 171; omega) hS (fun rw O2 H locs HG hz hk hS => ?_)
  have HG : gG cI cA (m_n g0 N) 5 rw (w_row g0 g1 g2 N N) O2 H := HG
  have hsm : q_same _ H := ⟨hz, fun q hq => hk q hq (fun h => h)⟩
  have HQ := HQ.tr hsm
  have HP := HP0.kept HQ
  refine lv_astore_n (lv' := [(2, .ref O2), (0, .ref S), (1, .int (nI g))]) hx hb dX1_splice_4 rfl hl (by decide) rfl (fun ls hl => ?_)
  refine lv_aload_n hx hb dX1_splice_5 rfl (lv_at hl 0 rfl) ?_
  refine lv_iload_n hx hb dX1_splice_6 rfl (lv_at hl 2 rfl) ?_
  refine z_gal hx hb hK 1 rfl HG g (by omega) (by omega) rfl dX1_splice_7 ?_
  refine lv_iconst (v := 1) hx hb dX1_splice_8 (by decide) ?_
  refine z_gil hx hb hK 0 rfl HG g (by omega) 1 (by decide) (by decide) (v := nI a) rfl ea dX1_splice_9 ?_
  refine lv_aload_n hx hb dX1_splice_10 rfl (lv_at hl 0 rfl) ?_
  refine lv_iload_n hx hb dX1_splice_11 rfl (lv_at hl 2 rfl) ?_
  refine lv_iconst (v := 1) hx hb dX1_splice_12 (by decide) ?_
  refine lv_iadd hx hb dX1_splice_13 ?_
  refine z_gal hx hb hK 1 rfl HG (g + 1) hg (by omega) (nI_1 g) dX1_splice_14 ?_
  refine lv_iconst (v := 1) hx hb dX1_splice_15 (by decide) ?_
  refine z_gil hx hb hK 0 rfl HG (g + 1) hg 1 (by decide) (by decide) (v := nI b) rfl eb dX1_splice_16 ?_
  refine p_callS (As := [.int (nI a), .int (nI b)]) (rest := []) ⟨hx, hb, hml, hown, hts⟩ (c_X1_between l D a b ha hb9) (va_cwS 2 hts gX1_splice_X1_between rfl rfl rfl ks_X1_between ⟨Nat.le_of_ble_eq_true rfl, Nat.le_of_ble_eq_true rfl⟩) pH.mv (p_at (Z := zTr) trivial) (hK.sub [] rfl) rfl hl.1 rfl (Nat.le_of_ble_eq_true rfl) dX1_splice_17 (by show 0 + 25 ≤ 27; omega) (by show 0 + 144 ≤ 171; omega) hS (fun H locs hsm hS => ?_)
  have HG := HG.kept hsm
  have HQ := HQ.tr hsm
  have HP := HP0.kept HQ
  refine lv_istore_n (lv' := [(3, .int (m_half (nI a) (nI b))), (2, .ref O2), (0, .ref S), (1, .int (nI g))]) hx hb dX1_splice_20 rfl hl (by decide) rfl (fun ls hl => ?_)
  refine lv_aload_n hx hb dX1_splice_21 rfl (lv_at hl 2 rfl) ?_
  refine lv_aload_n hx hb dX1_splice_22 rfl (lv_at hl 1 rfl) ?_
  refine lv_iload_n hx hb dX1_splice_23 rfl (lv_at hl 3 rfl) ?_
  refine z_gal hx hb hK 1 rfl HG g (by omega) (by omega) rfl dX1_splice_24 ?_
  refine lv_iconst (v := 4) hx hb dX1_splice_25 (by decide) ?_
  refine z_gil hx hb hK 0 rfl HG g (by omega) 4 (by decide) (by decide) (v := nI (m_P g0 N g)) rfl rfl dX1_splice_26 ?_
  refine lv_iconst (v := 1) hx hb dX1_splice_27 (by decide) ?_
  refine lv_iadd hx hb dX1_splice_28 ?_
  rw [nI_1]
  refine lv_iconst (v := 3) hx hb dX1_splice_29 (by decide) ?_
  refine z_newi hx hb (hts (.arrayClass .int) (by decide +kernel)) hK 0 rfl hS (n := 3) rfl (by first | decide | omega) (by show 0 + 25 + 1 ≤ 27; omega) (by show 0 + 144 + 3 ≤ 171; omega) dX1_splice_30 (fun y H hyE hy hqr hS => ?_)
  have hys : s.heap.size ≤ y := by rw [hyE]; exact HQ.1
  have hyA : e_F (fun x => x = S) s.heap.size y := Or.inr hys
  have HG0 := HG
  have HG := HG0.kept hqr
  have HQ := HQ.tr hqr
  have HP := HP0.kept HQ
  refine lv_dup hx hb dX1_splice_32 rfl ?_
  refine lv_iconst (v := 0) hx hb dX1_splice_33 (by decide) ?_
  refine lv_aload_n hx hb dX1_splice_34 rfl (lv_at hl 1 rfl) ?_
  refine lv_iload_n hx hb dX1_splice_35 rfl (lv_at hl 3 rfl) ?_
  refine z_gal hx hb hK 1 rfl HG g (by omega) (by omega) rfl dX1_splice_36 ?_
  refine lv_iconst (v := 0) hx hb dX1_splice_37 (by decide) ?_
  refine z_gil hx hb hK 0 rfl HG g (by omega) 0 (by decide) (by decide) (v := g1 (m_P g0 N g)) rfl rfl dX1_splice_38 ?_
  refine z_iast hx hb hK 0 rfl hy hS hyA 0 rfl (by decide) (by decide) dX1_splice_39 (fun H locs hy z9 o9 hS => ?_)
  have hqr := hqr.st (Nat.le_of_eq hyE.symm) z9 o9
  have HQ := HQ.st hys z9 o9
  have HP := HP0.kept HQ
  have HG := HG0.kept hqr
  refine lv_dup hx hb dX1_splice_40 rfl ?_
  refine lv_iconst (v := 1) hx hb dX1_splice_41 (by decide) ?_
  refine lv_iload_n hx hb dX1_splice_42 rfl (lv_at hl 0 rfl) ?_
  refine z_iast hx hb hK 0 rfl hy hS hyA 1 rfl (by decide) (by decide) dX1_splice_43 (fun H locs hy z9 o9 hS => ?_)
  have hqr := hqr.st (Nat.le_of_eq hyE.symm) z9 o9
  have HQ := HQ.st hys z9 o9
  have HP := HP0.kept HQ
  have HG := HG0.kept hqr
  refine lv_dup hx hb dX1_splice_44 rfl ?_
  refine lv_iconst (v := 2) hx hb dX1_splice_45 (by decide) ?_
  refine lv_iconst (v := 0) hx hb dX1_splice_46 (by decide) ?_
  refine z_iast hx hb hK 0 rfl hy hS hyA 2 rfl (by decide) (by decide) dX1_splice_47 (fun H locs hy z9 o9 hS => ?_)
  have hqr := hqr.st (Nat.le_of_eq hyE.symm) z9 o9
  have HQ := HQ.st hys z9 o9
  have HP := HP0.kept HQ
  have HG := HG0.kept hqr
  refine e_callVV (As := [.int (nI (m_P g0 N g + 1)), .ref y]) (rest := []) ⟨hx, hb, hml, hown, hts⟩ (c_X1_insert l D cI cA S O N r g0 g1 g2 pa pe hN (m_P g0 N g + 1) y (by omega) (upd (upd (upd (fun _ => 0) 0 (g1 (m_P g0 N g))) 1 (m_half (nI a) (nI b))) 2 0)) (cwV 2 hts gX1_splice_X1_insert rfl rfl rfl kv_X1_insert ⟨Nat.le_of_ble_eq_true rfl, Nat.le_of_ble_eq_true rfl⟩) pH.mv (va_recv hK (z_one HP.cell) (ci := 1) (q0 := 0) rfl rfl) (p_at (Z := fun h => sG D cI cA S O N r g0 g1 g2 pa pe h ∧ aI cI 3 (upd (upd (upd (fun _ => 0) 0 (g1 (m_P g0 N g))) 1 (m_half (nI a) (nI b))) 2 0) y h) ⟨HP, hy⟩) hK hO (fun q h => Or.inl h) hA9 rfl hl.1 rfl (Nat.le_of_ble_eq_true rfl) dX1_splice_48 (by show 0 + 25 + 1 + 1 ≤ 27; omega) (by show 0 + 144 + 3 + 24 ≤ 171; omega) hS (fun u H locs hu hz hk hS => ?_)
  obtain ⟨hu1, hu2, hu3⟩ := hu
  have hyl := z_lt hy
  have hne9 : u ≠ y := by omega
  have HQz := HQ.1
  have hy9 : aI cI 3 (upd (upd (upd (fun _ => 0) 0 (g1 (m_P g0 N g))) 1 (m_half (nI a) (nI b))) 2 0) y H := (hk y hyl (fun e => by have := HP0.1.lt; omega)).trans hy
  refine lv_iload_n hx hb dX1_splice_51 rfl (lv_at hl 0 rfl) ?_
  exact e_retI (u, y) hx hb hr hlocks hS ⟨hu1, hu2, Nat.le_trans HQz hu3, hys, hne9, _, hy9, rfl, by show m_half (nI a) (nI b) = _; rw [ea, eb], rfl⟩ (by rw [ea, eb]) (by omega) (by omega) dX1_splice_52

theorem kv_X1_init : yX1_init.cls = RX1 ∧ yX1_init.cls ≠ "java/lang/invoke/MethodHandle" ∧ yX1_init.cls ≠ "java/lang/invoke/VarHandle" ∧ (parseMethodDescriptor yX1_init.desc).map (fun d => d.parameters.length) = some 0 := by decide +kernel
theorem ks_X1_init : yX1_init.cls ≠ "java/lang/invoke/MethodHandle" ∧ yX1_init.cls ≠ "java/lang/invoke/VarHandle" ∧ (parseMethodDescriptor yX1_init.desc).map (fun d => d.parameters.length) = some 0 := kv_X1_init.2
set_option maxHeartbeats 4000000 in
set_option maxRecDepth 100000 in
theorem c_X1_init (l : Launch) (D : va_G) (cI cA : ClassId) (S : Nat) : e_V l yX1_init wsX1_init ({ frames := 2, cells := 1, slots := 0, locals := 40 } : Room) D (zt cI cA) (pH (fun h => va_at D vwCl (S, .inr (1, [.int 0, .int 0, .null])) h)) [.ref S] (fun x => x = S) 1 0 (fun sz (u : Nat) h => sS D 30 0 (.ref u) S h ∧ aR cA 0 (fun _ => some 0) u h ∧ sz ≤ u) := by
  refine e_startV (cc := cX1_init) (maxL := 1) (by decide) rfl (Nat.le_of_ble_eq_true rfl) ?_
  intro p e s m below meth c hx hb hml hr hts hown hlocks hK hO hPr locs ls hS hl
  have hin : ∀ w ∈ wsX10, w ∈ wsX1_init := by decide +kernel
  have hl : lv_has ls 1 [(0, .ref S)] := hl
  have HC : va_at D vwCl (S, .inr (1, [.int 0, .int 0, .null])) s.heap := hPr
  have hS0 : S < s.heap.size := va_at.lt HC
  refine lv_aload_n hx hb dX1_init_0 rfl (lv_at hl 0 rfl) ?_
  refine W.objInit hx hb hown (hts (.methodLink RX1 1 objectInit) (by decide +kernel)) (hts (.instanceMethod objectInit) (by decide +kernel)) (hts (.code objectInit ⟨#[0xb1]⟩ 1 none) (by decide +kernel)) rfl (by rw [hml]; exact hl.1) rfl dX1_init_1 (Nat.le_of_ble_eq_true rfl) (Nat.le_of_ble_eq_true rfl) ?_
  refine W.eq (g2 := F0 m 4 ls []) rfl ?_
  refine lv_aload_n hx hb dX1_init_4 rfl (lv_at hl 0 rfl) ?_
  refine lv_bipush (v := 30) hx hb dX1_init_5 (by decide) ?_
  refine z_put hx hb hts hin hown hK HC hS (Or.inl rfl) 0 (by decide) (hts (.fieldLink RX1 7 "SplicedTalkLaw$Sim" "patience" "I") (by decide +kernel)) (ty := .int) (v := .int 30) rfl rfl rfl (Nat.le_of_ble_eq_true rfl) dX1_init_7 (fun H locs HC z9 o9 hS => ?_)
  have HC : va_at D vwCl (S, .inr (1, [.int 30, .int 0, .null])) H := HC
  have z0 := z9
  refine lv_aload_n hx hb dX1_init_10 rfl (lv_at hl 0 rfl) ?_
  refine lv_iconst (v := 0) hx hb dX1_init_11 (by decide) ?_
  refine z_newr hx hb hown (hts (.classLink RX1 13 "[I") (by decide +kernel)) hO hK 1 rfl hS (n := 0) nI_0.symm (by omega) (by show 0 + 1 ≤ 1; omega) (by show 0 + 0 ≤ 0; omega) dX1_init_12 (fun q H hqE hqa hsm hS => ?_)
  have HC : va_at D vwCl (S, .inr (1, [.int 30, .int 0, .null])) H := va_at.kept HC (hsm.2 S (va_at.lt HC))
  have hqs : s.heap.size ≤ q := by rw [hqE, z0]; exact Nat.le_refl _
  have hne : q ≠ S := by rw [hqE, z0]; exact Nat.ne_of_gt hS0
  refine z_put hx hb hts hin hown hK HC hS (Or.inl rfl) 2 (by decide) (hts (.fieldLink RX1 15 "SplicedTalkLaw$Sim" "rows" "[[I") (by decide +kernel)) (ty := .array (.array .int)) (v := .ref q) rfl rfl rfl (Nat.le_of_ble_eq_true rfl) dX1_init_15 (fun H locs HC z9 o9 hS => ?_)
  have HC : va_at D vwCl (S, .inr (1, [.int 30, .int 0, .ref q])) H := HC
  exact e_retV q hx hb hr hlocks hS ⟨HC, aR.cg ((o9 q hne).trans hqa) (fun k hk => absurd hk (Nat.not_lt_zero k)), hqs⟩ (by omega) (by omega) dX1_init_18
