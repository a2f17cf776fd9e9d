/-! own rows: turns that take a cough away, that tie, that splice -/
theorem w_n0 {N : Nat} (h : nI N = 0) (hN : N ≤ 24) : N = 0 := nI_z (by omega) h
theorem rm_g {g : Nat → Int32} {N P : Nat} (hP : P < N) (h : ∀ k, k < N → ∃ v, v < 6 ∧ g k = nI v) : ∀ k, k < N - 1 → ∃ v, v < 6 ∧ va_cpy g g (P + 1) P (N - (P + 1)) k = nI v := fun k hk => by
  rw [rm_e g hP k hk]
  split
  · exact h _ (by omega)
  · exact h _ (by omega)
theorem sp_g {g : Nat → Int32} {z : Int32} {N P : Nat} (hP : P ≤ N) (h : ∀ k, k < N → ∃ v, v < 6 ∧ g k = nI v) (hz : ∃ v, v < 6 ∧ z = nI v) : ∀ k, k < N + 1 → ∃ v, v < 6 ∧ upd (va_cpy g g P (P + 1) (N - P)) P z k = nI v := fun k hk => by
  rw [sp_e g z hP k hk]
  by_cases c : k < P
  · rw [if_pos c]; exact h _ (by omega)
  · rw [if_neg c]
    by_cases c2 : k = P
    · rw [if_pos c2]; exact hz
    · rw [if_neg c2]; exact h _ (by omega)
set_option maxHeartbeats 4000000 in
set_option maxRecDepth 100000 in
theorem act_rem {p : Program} {l : Launch} {e : Env} {s : State} {m : MethodId} {args : Array Value} {below : List Frame} {meth : Method} {c : Code} {H : Heap} {locs : List Loc} {ls : Array Slot} {D : va_G} {cI cA : ClassId} {ad : Nat → Nat} {S q0 N : Nat} {w t : Int32} {pa : Nat} {pe : Int32} {f0 f1 f2 f3 f4 g0 g1 g2 : Nat → Int32} {O : Nat} {r : Nat → Nat} {x : Int32} {rw : Nat → Nat} {O2 : Nat} {so : Int32} {g : Nat} (hC : aC p s m meth c args D cI cA ad q0) (hA : aS D cI cA ad S q0 N w t pa pe f0 f1 f2 f3 f4 g0 g1 g2 O r H) (HG : gG cI cA (m_n g0 N) 5 rw (w_row g0 g1 g2 N N) O2 H)  (hS : va_S (e_F (aF ad q0) s.heap.size) s.heap H locs) (hl : lv_has ls 12 [(7, .int (nI g)), (6, .int so), (5, .int (nI (m_n g0 N) - 1)), (4, .ref O2), (3, .int (nI N)), (0, .ref (ad 0)), (1, .ref S), (2, .int x)]) : W p l e aRm s m args below meth c H locs 25 144 (aQ D cI cA ad S q0 below args s) (F0 m 236 ls []) := by
  obtain ⟨hx, hb, hml, hr, hts, hown, hlocks, hK, hO, htX, hq0⟩ := hC
  obtain ⟨hR, hW, hg1, hpa, HT, HP, hX⟩ := id hA
  have hin : ∀ w ∈ wsX10, w ∈ wsL_act := by decide +kernel
  have hA9 : ∀ q : Nat, s.heap.size ≤ q → e_F (aF ad q0) s.heap.size q := fun q h => Or.inr h
  have hN24 := hR.n
  have hm9 := m_n_le g0 N
  have hww := hW.ww
  have hqH : q0 ≤ H.size := Nat.le_trans hq0 hS.1
  refine lv_iload_n hx hb dL_act_236 rfl (lv_at hl 4 rfl) ?_
  refine lv_if_ne (tgt := 244) hx hb dL_act_237 (by decide) (fun c_237 => ?_) (fun c_237 => ?_)
  · have hN0 : 0 < N := Nat.pos_of_ne_zero (fun e => c_237 (by rw [e]; rfl))
    refine lv_iload_n hx hb dL_act_244 rfl (lv_at hl 7 rfl) ?_
    refine lv_iconst (v := 3) hx hb dL_act_245 (by decide) ?_
    refine lv_ishr hx hb dL_act_246 ?_
    refine lv_iload_n hx hb dL_act_247 rfl (lv_at hl 4 rfl) ?_
    refine p_callS (As := [.int (x >>> (3 &&& 31)), .int (nI N)]) (rest := []) ⟨hx, hb, hml, hown, hts⟩ (c_L_below l D (x >>> (3 &&& 31)) N (hN0) (by omega)) (va_cwS 2 hts gL_act_L_below rfl rfl rfl ks_L_below ⟨Nat.le_of_ble_eq_true rfl, Nat.le_of_ble_eq_true rfl⟩) pH.mv (p_at (Z := zTr) trivial) (hK.sub [] rfl) rfl hl.1 rfl (Nat.le_of_ble_eq_true rfl) dL_act_248 (by show 25 ≤ 60; omega) (by show 144 ≤ 400; omega) hS (fun H locs hsm hS => ?_)
    have hPL : (z_lo (x >>> (3 &&& 31)) % N) < N := Nat.mod_lt _ hN0
    have HT := hsm.P HT
    have HP := HP.kept hsm
    refine lv_istore (lv' := [(9, .int (nI (z_lo (x >>> (3 &&& 31)) % N))), (7, .int (nI g)), (6, .int so), (5, .int (nI (m_n g0 N) - 1)), (4, .ref O2), (3, .int (nI N)), (0, .ref (ad 0)), (1, .ref S), (2, .int x)]) hx hb dL_act_251 hl (by decide) rfl (fun ls hl => ?_)
    refine lv_iload_n hx hb dL_act_253 rfl (lv_at hl 5 rfl) ?_
    refine lv_if_eq (tgt := 276) hx hb dL_act_254 (by decide) (fun h => absurd h c_237) (fun _ => ?_)
    refine lv_aload_n hx hb dL_act_257 rfl (lv_at hl 7 rfl) ?_
    refine z_get hx hb hts hin hown hK HP.cell 2 (by decide) (hts (.fieldLink RL 9 "SplicedTalkLaw$Sim" "rows" "[[I") (by decide +kernel)) (v := .ref O) rfl dL_act_258 ?_
    refine lv_iload hx hb dL_act_261 (lv_at hl 0 rfl) ?_
    refine z_gal hx hb hK 1 rfl HP.2 (z_lo (x >>> (3 &&& 31)) % N) hPL (by omega) rfl dL_act_263 ?_
    refine lv_iconst (v := 1) hx hb dL_act_264 (by decide) ?_
    refine z_gil hx hb hK 0 rfl HP.2 (z_lo (x >>> (3 &&& 31)) % N) hPL 1 (by decide) (by decide) (v := g0 (z_lo (x >>> (3 &&& 31)) % N)) rfl rfl dL_act_265 ?_
    refine lv_if_ge (tgt := 276) hx hb dL_act_266 (by decide) (fun c_266 => ?_) (fun c_266 => ?_)
    · refine lv_iconst (v := 1) hx hb dL_act_276 (by decide) ?_
      exact e_retZ () hx hb hr hlocks hS (aS.st ⟨hR, hW, hg1, hpa, HT, HP, hX⟩) rfl (Or.inr rfl) (by show 25 ≤ 60; omega) (by show 144 ≤ 400; omega) dL_act_277
    · refine lv_aload_n hx hb dL_act_269 rfl (lv_at hl 7 rfl) ?_
      refine z_get hx hb hts hin hown hK HP.cell 0 (by decide) (hts (.fieldLink RL 35 "SplicedTalkLaw$Sim" "patience" "I") (by decide +kernel)) (v := .int (nI pa)) rfl dL_act_270 ?_
      refine lv_if_ne (tgt := 278) hx hb dL_act_273 (by decide) (fun c_273 => ?_) (fun c_273 => ?_)
      · have hpa0 : 0 < pa := Nat.pos_of_ne_zero (fun e => c_273 (by rw [e]; rfl))
        have e1 : nI pa - 1 = nI (pa - 1) := nI_m1 hpa0
        have h1a : 1 ≤ nI pa := nI_le (a := 1) hpa0 (by omega)
        have hsz9 := hS.1
        refine lv_aload_n hx hb dL_act_278 rfl (lv_at hl 7 rfl) ?_
        refine lv_iload hx hb dL_act_279 (lv_at hl 0 rfl) ?_
        refine e_callVV (As := [.int (nI (z_lo (x >>> (3 &&& 31)) % N))]) (rest := []) ⟨hx, hb, hml, hown, hts⟩ (c_X1_remove l D cI cA S O N r g0 g1 g2 (nI pa) pe hN24 (z_lo (x >>> (3 &&& 31)) % N) hPL) (cwV 1 hts gL_act_X1_remove rfl rfl rfl kv_X1_remove ⟨Nat.le_of_ble_eq_true rfl, Nat.le_of_ble_eq_true rfl⟩) pH.mv (va_recv hK (z_one HP.cell) (ci := 1) (q0 := 0) rfl rfl) (p_at (Z := sG D cI cA S O N r g0 g1 g2 (nI pa) pe) HP) hK hO (fun q h => Or.inl (Or.inr (by rw [h]; exact hX.1))) hA9 rfl hl.1 rfl (Nat.le_of_ble_eq_true rfl) dL_act_281 (by show 25 + 1 ≤ 60; omega) (by show 144 + 24 ≤ 400; omega) hS (fun u H locs hu hz hk hS => ?_)
        obtain ⟨hu1, hu2, hu3⟩ := hu
        have HT := xw_kp HT (fun k hk9 => hk _ (xw_lt HT k hk9) (fun e => by have := htX.1 k hk9; have := hX.1; omega))
        have hX2 : sX (N - 1) S u (r_rem r (z_lo (x >>> (3 &&& 31)) % N)) q0 := sX_rem hX HP.1.lt HP.rlt (Nat.le_trans hq0 hsz9) hu3 hPL
        have HP2 : sG D cI cA S u (N - 1) (r_rem r (z_lo (x >>> (3 &&& 31)) % N)) (va_cpy g0 g0 ((z_lo (x >>> (3 &&& 31)) % N) + 1) (z_lo (x >>> (3 &&& 31)) % N) (N - ((z_lo (x >>> (3 &&& 31)) % N) + 1))) (va_cpy g1 g1 ((z_lo (x >>> (3 &&& 31)) % N) + 1) (z_lo (x >>> (3 &&& 31)) % N) (N - ((z_lo (x >>> (3 &&& 31)) % N) + 1))) (va_cpy g2 g2 ((z_lo (x >>> (3 &&& 31)) % N) + 1) (z_lo (x >>> (3 &&& 31)) % N) (N - ((z_lo (x >>> (3 &&& 31)) % N) + 1))) (nI pa) pe H := sG_rem hu1 hu2 (HP.hold (fun i hi => hk _ (HP.rlt i hi) (fun e => (hX.2.2.2.1 i hi).2.1 e))) hPL (rm_e g0 hPL) (rm_e g1 hPL) (rm_e g2 hPL)
        refine lv_aload_n hx hb dL_act_284 rfl (lv_at hl 7 rfl) ?_
        refine lv_dup hx hb dL_act_285 rfl ?_
        refine z_get hx hb hts hin hown hK HP2.cell 0 (by decide) (hts (.fieldLink RL 35 "SplicedTalkLaw$Sim" "patience" "I") (by decide +kernel)) (v := .int (nI pa)) rfl dL_act_286 ?_
        refine lv_iconst (v := 1) hx hb dL_act_289 (by decide) ?_
        refine lv_isub hx hb dL_act_290 ?_
        rw [e1]
        refine z_put hx hb hts hin hown hK HP2.cell hS (Or.inl (Or.inr hX.1)) 0 (by decide) (hts (.fieldLink RL 35 "SplicedTalkLaw$Sim" "patience" "I") (by decide +kernel)) (ty := .int) (v := .int (nI (pa - 1))) rfl rfl rfl (Nat.le_of_ble_eq_true rfl) dL_act_291 (fun H locs HC z9 o9 hS => ?_)
        have HP2 := sG_set HP2 hX2 HC o9
        have HT := xw_kp HT (fun k hk9 => o9 _ (fun e => by have := htX.1 k hk9; have := hX.1; omega))
        refine lv_aload_n hx hb dL_act_294 rfl (lv_at hl 7 rfl) ?_
        refine lv_dup hx hb dL_act_295 rfl ?_
        refine z_get hx hb hts hin hown hK HP2.cell 1 (by decide) (hts (.fieldLink RL 51 "SplicedTalkLaw$Sim" "spent" "I") (by decide +kernel)) (v := .int pe) rfl dL_act_296 ?_
        refine lv_iconst (v := 1) hx hb dL_act_299 (by decide) ?_
        refine lv_iadd hx hb dL_act_300 ?_
        refine z_put hx hb hts hin hown hK HP2.cell hS (Or.inl (Or.inr hX.1)) 1 (by decide) (hts (.fieldLink RL 51 "SplicedTalkLaw$Sim" "spent" "I") (by decide +kernel)) (ty := .int) (v := .int (pe + 1)) rfl rfl rfl (Nat.le_of_ble_eq_true rfl) dL_act_301 (fun H locs HC z9 o9 hS => ?_)
        have HP2 := sG_set HP2 hX2 HC o9
        have HT := xw_kp HT (fun k hk9 => o9 _ (fun e => by have := htX.1 k hk9; have := hX.1; omega))
        refine lv_aload_n hx hb dL_act_304 rfl (lv_at hl 6 rfl) ?_
        refine lv_iload hx hb dL_act_305 (lv_at hl 0 rfl) ?_
        refine z_callT (As := [.int (nI (z_lo (x >>> (3 &&& 31)) % N))]) (rest := []) ⟨hx, hb, hml, hown, hts⟩ (c_X0_removeCough l D cI ad N w t (nI pa) pe f0 f1 f2 f3 f4 (z_lo (x >>> (3 &&& 31)) % N) (nI_pos (by omega)) (nI_lt hPL (by omega)) (hR.cs1 hPL c_266) h1a hN24 hPL) (cwV 1 hts gL_act_X0_removeCough rfl rfl rfl kv_X0_removeCough ⟨Nat.le_of_ble_eq_true rfl, Nat.le_of_ble_eq_true rfl⟩) (va_recv hK HT (ci := 0) (q0 := 0) rfl rfl) HT htX.D (hK.sub [0] rfl) (fun q h => (xw_A h).elim (fun h => Or.inl (Or.inl h)) (fun h => Or.inr (Nat.le_trans hS.1 h))) rfl hl.1 rfl (Nat.le_of_ble_eq_true rfl) dL_act_307 (by show 25 + 1 ≤ 60; omega) (by show 144 + 24 ≤ 400; omega) hS (fun H locs HT2 hz hk hS => ?_)
        rw [e1] at HT2
        have HP2 := HP2.byT hX2 (t_k htX hk)
        refine lv_iload_n hx hb dL_act_310 rfl (lv_at hl 5 rfl) ?_
        refine lv_iconst (v := 1) hx hb dL_act_311 (by decide) ?_
        refine lv_isub hx hb dL_act_312 ?_
        rw [nI_m1 hN0]
        refine lv_icmp_ne (tgt := 320) hx hb dL_act_313 (by decide) (fun c_313 => absurd rfl c_313) (fun c_313 => ?_)
        refine lv_iconst (v := 1) hx hb dL_act_316 (by decide) ?_
        refine lv_goto (tgt := 321) hx hb dL_act_317 (by decide) ?_
        exact e_retZ () hx hb hr hlocks hS (st_any (hR.rem hPL) (rm_g hPL hg1) (by omega) HT2 HP2 hX2) rfl (Or.inr rfl) (by show 25 + 1 ≤ 60; omega) (by show 144 + 24 ≤ 400; omega) dL_act_321
      · refine lv_iconst (v := 1) hx hb dL_act_276 (by decide) ?_
        exact e_retZ () hx hb hr hlocks hS (aS.st ⟨hR, hW, hg1, hpa, HT, HP, hX⟩) rfl (Or.inr rfl) (by show 25 ≤ 60; omega) (by show 144 ≤ 400; omega) dL_act_277
  · refine lv_iconst (v := 0) hx hb dL_act_240 (by decide) ?_
    refine lv_goto (tgt := 251) hx hb dL_act_241 (by decide) ?_
    refine lv_istore (lv' := [(9, .int 0), (7, .int (nI g)), (6, .int so), (5, .int (nI (m_n g0 N) - 1)), (4, .ref O2), (3, .int (nI N)), (0, .ref (ad 0)), (1, .ref S), (2, .int x)]) hx hb dL_act_251 hl (by decide) rfl (fun ls hl => ?_)
    refine lv_iload_n hx hb dL_act_253 rfl (lv_at hl 5 rfl) ?_
    refine lv_if_eq (tgt := 276) hx hb dL_act_254 (by decide) (fun _ => ?_) (fun h => absurd c_237 h)
    refine lv_iconst (v := 1) hx hb dL_act_276 (by decide) ?_
    exact e_retZ () hx hb hr hlocks hS (aS.st ⟨hR, hW, hg1, hpa, HT, HP, hX⟩) rfl (Or.inr rfl) (by show 25 ≤ 60; omega) (by show 144 ≤ 400; omega) dL_act_277

set_option maxHeartbeats 4000000 in
set_option maxRecDepth 100000 in
theorem act_tie {p : Program} {l : Launch} {e : Env} {s : State} {m : MethodId} {args : Array Value} {below : List Frame} {meth : Method} {c : Code} {H : Heap} {locs : List Loc} {ls : Array Slot} {D : va_G} {cI cA : ClassId} {ad : Nat → Nat} {S q0 N : Nat} {w t : Int32} {pa : Nat} {pe : Int32} {f0 f1 f2 f3 f4 g0 g1 g2 : Nat → Int32} {O : Nat} {r : Nat → Nat} {x : Int32} {rw : Nat → Nat} {O2 : Nat} {so : Int32} {g : Nat} (hC : aC p s m meth c args D cI cA ad q0) (hA : aS D cI cA ad S q0 N w t pa pe f0 f1 f2 f3 f4 g0 g1 g2 O r H) (HG : gG cI cA (m_n g0 N) 5 rw (w_row g0 g1 g2 N N) O2 H) (hg : g + 1 < m_n g0 N) (hS : va_S (e_F (aF ad q0) s.heap.size) s.heap H locs) (hl : lv_has ls 12 [(7, .int (nI g)), (6, .int so), (5, .int (nI (m_n g0 N) - 1)), (4, .ref O2), (3, .int (nI N)), (0, .ref (ad 0)), (1, .ref S), (2, .int x)]) : W p l e aRm s m args below meth c H locs 25 144 (aQ D cI cA ad S q0 below args s) (F0 m 322 ls []) := by
  obtain ⟨hx, hb, hml, hr, hts, hown, hlocks, hK, hO, htX, hq0⟩ := hC
  obtain ⟨hR, hW, hg1, hpa, HT, HP, hX⟩ := id hA
  have hin : ∀ w ∈ wsX10, w ∈ wsL_act := by decide +kernel
  have hA9 : ∀ q : Nat, s.heap.size ≤ q → e_F (aF ad q0) s.heap.size q := fun q h => Or.inr h
  have hN24 := hR.n
  have hm9 := m_n_le g0 N
  have hww := hW.ww
  have hqH : q0 ≤ H.size := Nat.le_trans hq0 hS.1
  have hw := hR.ok
  have hPg : m_P g0 N g < N := m_P_lt (show g < m_n g0 N by omega)
  have hrd : rd f3 (nI g) = nI (m_P g0 N g) := hW.rp.rd hN24 (by omega)
  have hgi := gap_in (N := m_n g0 N) (by omega) hg
  rw [← hww] at hgi
  refine lv_aload hx hb dL_act_322 (lv_at hl 3 rfl) ?_
  refine lv_iload hx hb dL_act_324 (lv_at hl 0 rfl) ?_
  refine z_gal hx hb hK 1 rfl HG g (by omega) (by omega) rfl dL_act_326 ?_
  refine lv_iconst (v := 3) hx hb dL_act_327 (by decide) ?_
  refine z_gil hx hb hK 0 rfl HG g (by omega) 3 (by decide) (by decide) (v := g2 (m_P g0 N g)) rfl rfl dL_act_328 ?_
  refine lv_iconst (v := 1) hx hb dL_act_329 (by decide) ?_
  refine lv_icmp_eq (tgt := 341) hx hb dL_act_330 (by decide) (fun c_330 => ?_) (fun c_330 => ?_)
  · refine lv_iconst (v := 1) hx hb dL_act_341 (by decide) ?_
    exact e_retZ () hx hb hr hlocks hS (aS.st ⟨hR, hW, hg1, hpa, HT, HP, hX⟩) rfl (Or.inr rfl) (by show 25 ≤ 60; omega) (by show 144 ≤ 400; omega) dL_act_342
  · have ht0 : g2 (m_P g0 N g) = 0 := (hw.2.2 _ hPg).resolve_right c_330
    refine lv_aload_n hx hb dL_act_333 rfl (lv_at hl 6 rfl) ?_
    refine z_get hx hb hts hin hown hK HP.cell 0 (by decide) (hts (.fieldLink RL 35 "SplicedTalkLaw$Sim" "patience" "I") (by decide +kernel)) (v := .int (nI pa)) rfl dL_act_334 ?_
    refine lv_iconst (v := 3) hx hb dL_act_337 (by decide) ?_
    refine lv_icmp_ge (tgt := 343) hx hb dL_act_338 (by decide) (fun c_338 => ?_) (fun c_338 => ?_)
    · have h3a : 3 ≤ nI pa := c_338
      have h39 : 3 ≤ pa := by
        rcases Nat.lt_or_ge pa 3 with q | q
        · exact absurd h3a (nI_ge (b := 3) q (by decide))
        · exact q
      have e3 : nI pa - 3 = nI (pa - 3) := pk_sub (b := 3) h39
      refine lv_aload_n hx hb dL_act_343 rfl (lv_at hl 6 rfl) ?_
      refine z_get hx hb hts hin hown hK HP.cell 2 (by decide) (hts (.fieldLink RL 9 "SplicedTalkLaw$Sim" "rows" "[[I") (by decide +kernel)) (v := .ref O) rfl dL_act_344 ?_
      refine lv_aload hx hb dL_act_347 (lv_at hl 3 rfl) ?_
      refine lv_iload hx hb dL_act_349 (lv_at hl 0 rfl) ?_
      refine z_gal hx hb hK 1 rfl HG g (by omega) (by omega) rfl dL_act_351 ?_
      refine lv_iconst (v := 4) hx hb dL_act_352 (by decide) ?_
      refine z_gil hx hb hK 0 rfl HG g (by omega) 4 (by decide) (by decide) (v := nI (m_P g0 N g)) rfl rfl dL_act_353 ?_
      refine z_gal hx hb hK 1 rfl HP.2 (m_P g0 N g) hPg (by omega) rfl dL_act_354 ?_
      refine lv_iconst (v := 2) hx hb dL_act_355 (by decide) ?_
      refine lv_iconst (v := 1) hx hb dL_act_356 (by decide) ?_
      obtain ⟨f9, hf9, ef9⟩ := HP.2.2 (m_P g0 N g) hPg
      refine z_iast hx hb hK 0 rfl hf9 hS (Or.inl (Or.inr (hX.2.2.2.1 _ hPg).1)) 2 rfl (by decide) (by decide) dL_act_357 (fun H locs hf8 z9 o9 hS => ?_)
      have HP := sG_tie HP hX hPg hf8 ef9 o9
      have HT := xw_kp HT (fun k hk9 => o9 _ (fun e => by have := htX.1 k hk9; have := (hX.2.2.2.1 _ hPg).1; omega))
      refine lv_aload_n hx hb dL_act_358 rfl (lv_at hl 6 rfl) ?_
      refine lv_dup hx hb dL_act_359 rfl ?_
      refine z_get hx hb hts hin hown hK HP.cell 0 (by decide) (hts (.fieldLink RL 35 "SplicedTalkLaw$Sim" "patience" "I") (by decide +kernel)) (v := .int (nI pa)) rfl dL_act_360 ?_
      refine lv_iconst (v := 3) hx hb dL_act_363 (by decide) ?_
      refine lv_isub hx hb dL_act_364 ?_
      rw [e3]
      refine z_put hx hb hts hin hown hK HP.cell hS (Or.inl (Or.inr hX.1)) 0 (by decide) (hts (.fieldLink RL 35 "SplicedTalkLaw$Sim" "patience" "I") (by decide +kernel)) (ty := .int) (v := .int (nI (pa - 3))) rfl rfl rfl (Nat.le_of_ble_eq_true rfl) dL_act_365 (fun H locs HC z9 o9 hS => ?_)
      have HP := sG_set HP hX HC o9
      have HT := xw_kp HT (fun k hk9 => o9 _ (fun e => by have := htX.1 k hk9; have := hX.1; omega))
      refine lv_aload_n hx hb dL_act_368 rfl (lv_at hl 6 rfl) ?_
      refine lv_dup hx hb dL_act_369 rfl ?_
      refine z_get hx hb hts hin hown hK HP.cell 1 (by decide) (hts (.fieldLink RL 51 "SplicedTalkLaw$Sim" "spent" "I") (by decide +kernel)) (v := .int pe) rfl dL_act_370 ?_
      refine lv_iconst (v := 3) hx hb dL_act_373 (by decide) ?_
      refine lv_iadd hx hb dL_act_374 ?_
      refine z_put hx hb hts hin hown hK HP.cell hS (Or.inl (Or.inr hX.1)) 1 (by decide) (hts (.fieldLink RL 51 "SplicedTalkLaw$Sim" "spent" "I") (by decide +kernel)) (ty := .int) (v := .int (pe + 3)) rfl rfl rfl (Nat.le_of_ble_eq_true rfl) dL_act_375 (fun H locs HC z9 o9 hS => ?_)
      have HP := sG_set HP hX HC o9
      have HT := xw_kp HT (fun k hk9 => o9 _ (fun e => by have := htX.1 k hk9; have := hX.1; omega))
      refine lv_aload_n hx hb dL_act_378 rfl (lv_at hl 5 rfl) ?_
      refine lv_iload hx hb dL_act_379 (lv_at hl 0 rfl) ?_
      refine z_callT (As := [.int (nI g)]) (rest := []) ⟨hx, hb, hml, hown, hts⟩ (c_X0_tie l D cI ad N w t (nI pa) pe f0 f1 f2 f3 f4 (nI g) hgi.1 hgi.2 (hR.ti0 hW.rp (by omega) ht0) h3a hN24) (cwV 1 hts gL_act_X0_tie rfl rfl rfl kv_X0_tie ⟨Nat.le_of_ble_eq_true rfl, Nat.le_of_ble_eq_true rfl⟩) (va_recv hK HT (ci := 0) (q0 := 0) rfl rfl) HT htX.D (hK.sub [0] rfl) (fun q h => (xw_A h).elim (fun h => Or.inl (Or.inl h)) (fun h => Or.inr (Nat.le_trans hS.1 h))) rfl hl.1 rfl (Nat.le_of_ble_eq_true rfl) dL_act_381 (by show 25 ≤ 60; omega) (by show 144 ≤ 400; omega) hS (fun H locs HT2 hz hk hS => ?_)
      rw [hrd, e3] at HT2
      rw [hrd]
      have HP := HP.byT hX (t_k htX hk)
      have hR2 := hR.tied hPg
      have eT : nI (x_tcn f0 f1 (wr f2 (nI (m_P g0 N g)) 1) (x_wp f1 f3 N) (x_wn f1 N)) = nI (m_ab g0 g1 (upd g2 (m_P g0 N g) 1) N) + 1 := (hR2.recount (f3 := f3) (f4 := f4) rfl).tt.trans (m_tn1 (by omega))
      refine lv_aload_n hx hb dL_act_384 rfl (lv_at hl 6 rfl) ?_
      refine e_callVR (As := []) (rest := [.int (nI (x_tcn f0 f1 (wr f2 (nI (m_P g0 N g)) 1) (x_wp f1 f3 N) (x_wn f1 N)))]) ⟨hx, hb, hml, hown, hts⟩ (c_X1_words l D cI cA S O N r g0 g1 (upd g2 (m_P g0 N g) 1) (nI (pa - 3)) (pe + 3) hN24) (cwV 0 hts gL_act_X1_words rfl rfl rfl kv_X1_words ⟨Nat.le_of_ble_eq_true rfl, Nat.le_of_ble_eq_true rfl⟩) pH.mv (va_recv hK (z_one HP.cell) (ci := 1) (q0 := 0) rfl rfl) (p_at (Z := sG D cI cA S O N r g0 g1 (upd g2 (m_P g0 N g) 1) (nI (pa - 3)) (pe + 3)) HP) hK hO (fun _ h => h.elim) hA9 rfl hl.1 rfl (Nat.le_of_ble_eq_true rfl) dL_act_385 (by show 25 + 25 ≤ 60; omega) (by show 144 + 144 ≤ 400; omega) hS (fun rw3 O3 H locs HG3 hz hk hS => ?_)
      have HG3 : gG cI cA (m_n g0 N) 5 rw3 (w_row g0 g1 (upd g2 (m_P g0 N g) 1) N N) O3 H := HG3
      have hsm : q_same _ H := ⟨hz, fun q hq => hk q hq (fun h => h)⟩
      have HT2 := hsm.P HT2
      have HP := HP.kept hsm
      refine p_callS (As := [.ref O3]) (rest := [.int (nI (x_tcn f0 f1 (wr f2 (nI (m_P g0 N g)) 1) (x_wp f1 f3 N) (x_wn f1 N)))]) ⟨hx, hb, hml, hown, hts⟩ (c_X1_broken l D cI cA g0 g1 (upd g2 (m_P g0 N g) 1) N rw3 O3 hR2.ok) (va_cwS 1 hts gL_act_X1_broken rfl rfl rfl ks_X1_broken ⟨Nat.le_of_ble_eq_true rfl, Nat.le_of_ble_eq_true rfl⟩) pH.mv (p_at (Z := gW cI cA g0 g1 (upd g2 (m_P g0 N g) 1) N rw3 O3) HG3) hK rfl hl.1 rfl (Nat.le_of_ble_eq_true rfl) dL_act_388 (by show 25 + 25 ≤ 60; omega) (by show 144 + 144 ≤ 400; omega) hS (fun H locs hsm hS => ?_)
      have HT2 := hsm.P HT2
      have HP := HP.kept hsm
      refine lv_iconst (v := 1) hx hb dL_act_391 (by decide) ?_
      refine lv_iadd hx hb dL_act_392 ?_
      refine lv_icmp_ne (tgt := 400) hx hb dL_act_393 (by decide) (fun c_393 => absurd eT c_393) (fun c_393 => ?_)
      refine lv_iconst (v := 1) hx hb dL_act_396 (by decide) ?_
      refine lv_goto (tgt := 401) hx hb dL_act_397 (by decide) ?_
      exact e_retZ () hx hb hr hlocks hS (st_any hR2 hg1 (by omega) HT2 HP hX) rfl (Or.inr rfl) (by show 25 + 25 ≤ 60; omega) (by show 144 + 144 ≤ 400; omega) dL_act_401
    · refine lv_iconst (v := 1) hx hb dL_act_341 (by decide) ?_
      exact e_retZ () hx hb hr hlocks hS (aS.st ⟨hR, hW, hg1, hpa, HT, HP, hX⟩) rfl (Or.inr rfl) (by show 25 ≤ 60; omega) (by show 144 ≤ 400; omega) dL_act_342

set_option maxHeartbeats 4000000 in
set_option maxRecDepth 100000 in
theorem act_spl {p : Program} {l : Launch} {e : Env} {s : State} {m : MethodId} {args : Array Value} {below : List Frame} {meth : Method} {c : Code} {H : Heap} {locs : List Loc} {ls : Array Slot} {D : va_G} {cI cA : ClassId} {ad : Nat → Nat} {S q0 N : Nat} {w t : Int32} {pa : Nat} {pe : Int32} {f0 f1 f2 f3 f4 g0 g1 g2 : Nat → Int32} {O : Nat} {r : Nat → Nat} {x : Int32} {rw : Nat → Nat} {O2 : Nat} {so : Int32} {g : Nat} (hC : aC p s m meth c args D cI cA ad q0) (hA : aS D cI cA ad S q0 N w t pa pe f0 f1 f2 f3 f4 g0 g1 g2 O r H) (HG : gG cI cA (m_n g0 N) 5 rw (w_row g0 g1 g2 N N) O2 H) (hg : g + 1 < m_n g0 N) (hS : va_S (e_F (aF ad q0) s.heap.size) s.heap H locs) (hl : lv_has ls 12 [(7, .int (nI g)), (6, .int so), (5, .int (nI (m_n g0 N) - 1)), (4, .ref O2), (3, .int (nI N)), (0, .ref (ad 0)), (1, .ref S), (2, .int x)]) : W p l e aRm s m args below meth c H locs 25 144 (aQ D cI cA ad S q0 below args s) (F0 m 402 ls []) := by
  obtain ⟨hx, hb, hml, hr, hts, hown, hlocks, hK, hO, htX, hq0⟩ := hC
  obtain ⟨hR, hW, hg1, hpa, HT, HP, hX⟩ := id hA
  have hin : ∀ w ∈ wsX10, w ∈ wsL_act := by decide +kernel
  have hA9 : ∀ q : Nat, s.heap.size ≤ q → e_F (aF ad q0) s.heap.size q := fun q h => Or.inr h
  have hN24 := hR.n
  have hm9 := m_n_le g0 N
  have hww := hW.ww
  have hqH : q0 ≤ H.size := Nat.le_trans hq0 hS.1
  have hw := hR.ok
  have hPg : m_P g0 N g < N := m_P_lt (show g < m_n g0 N by omega)
  have hrd : rd f3 (nI g) = nI (m_P g0 N g) := hW.rp.rd hN24 (by omega)
  have hgi := gap_in (N := m_n g0 N) (by omega) hg
  rw [← hww] at hgi
  refine lv_aload hx hb dL_act_402 (lv_at hl 3 rfl) ?_
  refine lv_iload hx hb dL_act_404 (lv_at hl 0 rfl) ?_
  refine z_gal hx hb hK 1 rfl HG g (by omega) (by omega) rfl dL_act_406 ?_
  refine lv_iconst (v := 3) hx hb dL_act_407 (by decide) ?_
  refine z_gil hx hb hK 0 rfl HG g (by omega) 3 (by decide) (by decide) (v := g2 (m_P g0 N g)) rfl rfl dL_act_408 ?_
  refine lv_iconst (v := 1) hx hb dL_act_409 (by decide) ?_
  refine lv_icmp_eq (tgt := 427) hx hb dL_act_410 (by decide) (fun c_410 => ?_) (fun c_410 => ?_)
  · refine lv_iconst (v := 1) hx hb dL_act_427 (by decide) ?_
    exact e_retZ () hx hb hr hlocks hS (aS.st ⟨hR, hW, hg1, hpa, HT, HP, hX⟩) rfl (Or.inr rfl) (by show 25 ≤ 60; omega) (by show 144 ≤ 400; omega) dL_act_428
  · have ht0 : g2 (m_P g0 N g) = 0 := (hw.2.2 _ hPg).resolve_right c_410
    refine lv_iload_n hx hb dL_act_413 rfl (lv_at hl 4 rfl) ?_
    refine lv_bipush (v := 24) hx hb dL_act_414 (by decide) ?_
    refine lv_icmp_eq (tgt := 427) hx hb dL_act_416 (by decide) (fun c_416 => ?_) (fun c_416 => ?_)
    · refine lv_iconst (v := 1) hx hb dL_act_427 (by decide) ?_
      exact e_retZ () hx hb hr hlocks hS (aS.st ⟨hR, hW, hg1, hpa, HT, HP, hX⟩) rfl (Or.inr rfl) (by show 25 ≤ 60; omega) (by show 144 ≤ 400; omega) dL_act_428
    · have hN : N < 24 := by
        rcases Nat.lt_or_ge N 24 with q | q
        · exact q
        · exact absurd (show nI N = 24 from congrArg nI (show N = 24 by omega)) c_416
      refine lv_aload_n hx hb dL_act_419 rfl (lv_at hl 6 rfl) ?_
      refine z_get hx hb hts hin hown hK HP.cell 0 (by decide) (hts (.fieldLink RL 35 "SplicedTalkLaw$Sim" "patience" "I") (by decide +kernel)) (v := .int (nI pa)) rfl dL_act_420 ?_
      refine lv_iconst (v := 2) hx hb dL_act_423 (by decide) ?_
      refine lv_icmp_ge (tgt := 429) hx hb dL_act_424 (by decide) (fun c_424 => ?_) (fun c_424 => ?_)
      · have h3a : 2 ≤ nI pa := c_424
        have h39 : 2 ≤ pa := by
          rcases Nat.lt_or_ge pa 2 with q | q
          · exact absurd h3a (nI_ge (b := 2) q (by decide))
          · exact q
        have e3 : nI pa - 2 = nI (pa - 2) := pk_sub (b := 2) h39
        refine lv_aload_n hx hb dL_act_429 rfl (lv_at hl 6 rfl) ?_
        refine lv_dup hx hb dL_act_430 rfl ?_
        refine z_get hx hb hts hin hown hK HP.cell 0 (by decide) (hts (.fieldLink RL 35 "SplicedTalkLaw$Sim" "patience" "I") (by decide +kernel)) (v := .int (nI pa)) rfl dL_act_431 ?_
        refine lv_iconst (v := 2) hx hb dL_act_434 (by decide) ?_
        refine lv_isub hx hb dL_act_435 ?_
        rw [e3]
        refine z_put hx hb hts hin hown hK HP.cell hS (Or.inl (Or.inr hX.1)) 0 (by decide) (hts (.fieldLink RL 35 "SplicedTalkLaw$Sim" "patience" "I") (by decide +kernel)) (ty := .int) (v := .int (nI (pa - 2))) rfl rfl rfl (Nat.le_of_ble_eq_true rfl) dL_act_436 (fun H locs HC z9 o9 hS => ?_)
        have HP := sG_set HP hX HC o9
        have HT := xw_kp HT (fun k hk9 => o9 _ (fun e => by have := htX.1 k hk9; have := hX.1; omega))
        refine lv_aload_n hx hb dL_act_439 rfl (lv_at hl 6 rfl) ?_
        refine lv_dup hx hb dL_act_440 rfl ?_
        refine z_get hx hb hts hin hown hK HP.cell 1 (by decide) (hts (.fieldLink RL 51 "SplicedTalkLaw$Sim" "spent" "I") (by decide +kernel)) (v := .int pe) rfl dL_act_441 ?_
        refine lv_iconst (v := 2) hx hb dL_act_444 (by decide) ?_
        refine lv_iadd hx hb dL_act_445 ?_
        refine z_put hx hb hts hin hown hK HP.cell hS (Or.inl (Or.inr hX.1)) 1 (by decide) (hts (.fieldLink RL 51 "SplicedTalkLaw$Sim" "spent" "I") (by decide +kernel)) (ty := .int) (v := .int (pe + 2)) rfl rfl rfl (Nat.le_of_ble_eq_true rfl) dL_act_446 (fun H locs HC z9 o9 hS => ?_)
        have HP := sG_set HP hX HC o9
        have HT := xw_kp HT (fun k hk9 => o9 _ (fun e => by have := htX.1 k hk9; have := hX.1; omega))
        refine lv_aload_n hx hb dL_act_449 rfl (lv_at hl 5 rfl) ?_
        refine lv_iload hx hb dL_act_450 (lv_at hl 0 rfl) ?_
        refine z_callT (As := [.int (nI g)]) (rest := []) ⟨hx, hb, hml, hown, hts⟩ (c_X0_splice l D cI ad N w t (nI pa) pe f0 f1 f2 f3 f4 (nI g) hgi.1 hgi.2 (hR.ti0 hW.rp (by omega) ht0) (nI_lt (b := 24) hN (by decide)) h3a (m_P g0 N g + 1) (by rw [hrd, nI_1]) (by omega) hN) (cwV 1 hts gL_act_X0_splice rfl rfl rfl kv_X0_splice ⟨Nat.le_of_ble_eq_true rfl, Nat.le_of_ble_eq_true rfl⟩) (va_recv hK HT (ci := 0) (q0 := 0) rfl rfl) HT htX.D (hK.sub [0] rfl) (fun q h => (xw_A h).elim (fun h => Or.inl (Or.inl h)) (fun h => Or.inr (Nat.le_trans hS.1 h))) rfl hl.1 rfl (Nat.le_of_ble_eq_true rfl) dL_act_452 (by show 25 ≤ 60; omega) (by show 144 ≤ 400; omega) hS (fun H locs HT2 hz hk hS => ?_)
        rw [e3] at HT2
        have HP := HP.byT hX (t_k htX hk)
        refine lv_aload_n hx hb dL_act_455 rfl (lv_at hl 6 rfl) ?_
        refine lv_iload hx hb dL_act_456 (lv_at hl 0 rfl) ?_
        have hsz9 := hS.1
        refine e_callVI (As := [.int (nI g)]) (rest := [.int (x_btw (x_tp f1 f3 (nI g)) (x_tp f1 f3 (nI g + 1)))]) ⟨hx, hb, hml, hown, hts⟩ (c_X1_splice l D cI cA S O N r g0 g1 g2 (nI (pa - 2)) (pe + 2) hN g hw hg) (cwV 1 hts gL_act_X1_splice rfl rfl rfl kv_X1_splice ⟨Nat.le_of_ble_eq_true rfl, Nat.le_of_ble_eq_true rfl⟩) pH.mv (va_recv hK (z_one HP.cell) (ci := 1) (q0 := 0) rfl rfl) (p_at (Z := sG D cI cA S O N r g0 g1 g2 (nI (pa - 2)) (pe + 2)) HP) hK hO (fun q h => Or.inl (Or.inr (by rw [h]; exact hX.1))) hA9 rfl hl.1 rfl (Nat.le_of_ble_eq_true rfl) dL_act_458 (by show 25 + 27 ≤ 60; omega) (by show 144 + 171 ≤ 400; omega) hS (fun u H locs hu hz hk hS => ?_)
        obtain ⟨hu1, hu2, hu3, hu4, hu5, hu6⟩ := hu
        have HT2 := xw_kp HT2 (fun k hk9 => hk _ (xw_lt HT2 k hk9) (fun e => by have := htX.1 k hk9; have := hX.1; omega))
        have hX2 : sX (N + 1) S u.1 (r_ins r (m_P g0 N g + 1) u.2) q0 := sX_ins hX HP.1.lt HP.rlt (Nat.le_trans hq0 hsz9) hu3 hu4 hu5 (by omega)
        have eB : (x_btw (x_tp f1 f3 (nI g)) (x_tp f1 f3 (nI g + 1))) = m_half (g0 (m_P g0 N g)) (g0 (m_P g0 N (g + 1))) := hR.btw hW.rp hg
        have eS : x_sp f0 f3 (nI g) = g1 (m_P g0 N g) := hR.spg hW.rp (by omega)
        have HP2 : sG D cI cA S u.1 (N + 1) (r_ins r (m_P g0 N g + 1) u.2) (upd (va_cpy g0 g0 (m_P g0 N g + 1) ((m_P g0 N g + 1) + 1) (N - (m_P g0 N g + 1))) (m_P g0 N g + 1) ((x_btw (x_tp f1 f3 (nI g)) (x_tp f1 f3 (nI g + 1))))) (upd (va_cpy g1 g1 (m_P g0 N g + 1) ((m_P g0 N g + 1) + 1) (N - (m_P g0 N g + 1))) (m_P g0 N g + 1) (x_sp f0 f3 (nI g))) (upd (va_cpy g2 g2 (m_P g0 N g + 1) ((m_P g0 N g + 1) + 1) (N - (m_P g0 N g + 1))) (m_P g0 N g + 1) (0)) (nI (pa - 2)) (pe + 2) H := sG_ins hu1 hu2 (HP.hold (fun i hi => hk _ (HP.rlt i hi) (fun e => (hX.2.2.2.1 i hi).2.1 e))) (by rw [eB, eS]; exact hu6) (by omega) (sp_e g0 _ (by omega)) (sp_e g1 _ (by omega)) (sp_e g2 _ (by omega))
        refine lv_icmp_ne (tgt := 468) hx hb dL_act_461 (by decide) (fun c_461 => absurd eB c_461) (fun c_461 => ?_)
        refine lv_iconst (v := 1) hx hb dL_act_464 (by decide) ?_
        refine lv_goto (tgt := 469) hx hb dL_act_465 (by decide) ?_
        exact e_retZ () hx hb hr hlocks hS (st_any (hR.spl hN (by omega) (by rw [eB]; obtain ⟨b, hb8, eb⟩ := hR.halfT hg; exact Or.inr ⟨b, hb8, eb⟩)) (sp_g (by omega) hg1 (by rw [eS]; exact hg1 _ hPg)) (by omega) HT2 HP2 hX2) rfl (Or.inr rfl) (by show 25 + 27 ≤ 60; omega) (by show 144 + 171 ≤ 400; omega) dL_act_469
      · refine lv_iconst (v := 1) hx hb dL_act_427 (by decide) ?_
        exact e_retZ () hx hb hr hlocks hS (aS.st ⟨hR, hW, hg1, hpa, HT, HP, hX⟩) rfl (Or.inr rfl) (by show 25 ≤ 60; omega) (by show 144 ≤ 400; omega) dL_act_428
