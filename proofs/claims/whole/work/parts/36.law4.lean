/-! own rows, written by wip/whole/law.py: the law's turns that change -/
set_option maxHeartbeats 4000000 in
set_option maxRecDepth 100000 in
theorem law_say {p : Program} {l : Launch} {e : Env} {s : State} {m : MethodId} {args : Array Value} {below : List Frame} {meth : Method} {c : Code} {b L : Nat} {xs : Nat → Int32} {D : va_G} {cI cJ cZ : ClassId} {sa ad ad2 : Nat → Nat} {o cells slots i : Nat} {Q : State → Prop}
    (C : law_C p l s m c args b L xs D cI cJ cZ sa) (kk : law_K p l e s m args below meth c b D cI cJ cZ ad ad2 o cells slots Q i) {N : Nat} {w t pa pe : Int32} {f0 f1 f2 f3 f4 : Nat → Int32} {fo : Nat → Int64} {th : Int32} {g0 g1 g2 : Nat → Int32} {H : Heap} {locs : List Loc} {ls : Array Slot}
    (h : Ra N f0 f1 f2 g0 g1 g2) (r : Rw N f3 f4 g0 g1 g2 w t) (hP : va_P D vwCl (lW cI cJ cZ ad ad2 o (nI N) w t pa pe f0 f1 f2 f3 f4 fo th g0 g1 g2) H) (hD : va_D (lA s) (lW cI cJ cZ ad ad2 o (nI N) w t pa pe f0 f1 f2 f3 f4 fo th g0 g1 g2)) (hS : va_S (lA s) s.heap H locs) (hl : lv_has ls 9 (law_L b ad ad2 o i))
    (hi : i + 2 < L) (hc : cells + 24 ≤ 650192) (hs : slots + 125 ≤ 7145529) : W p l e room_1 s m args below meth c H locs cells slots Q (F0 m 200 ls []) := by
  obtain ⟨hx, hb, hml, hown, hts, hX, hbl, hK, hZ, hN9, hst, hL⟩ := C
  have ew := r.ww
  have et := r.tt
  subst ew
  subst et
  have q := r.rp
  have hN := h.n
  have hn : m_n g0 N ≤ 24 := Nat.le_trans (m_n_le g0 N) hN
  have ht : m_tn g0 g1 g2 N ≤ 24 := by
    have h9 := m_ab_lt (g0 := g0) (g1 := g1) (g2 := g2) hN
    unfold m_tn
    split <;> omega
  have hA : ∀ q : Nat, s.heap.size ≤ q → lA s q := fun _ h => h
  obtain ⟨x1, e1⟩ : ∃ x1, xs (i + 1) = x1 := ⟨_, rfl⟩
  obtain ⟨x2, e2⟩ : ∃ x2, xs (i + 2) = x2 := ⟨_, rfl⟩
  have hl : lv_has ls 9 [(4, .int (nI i)), (3, .ref o), (2, .ref (ad2 0)), (1, .ref (ad 0)), (0, .ref b)] := hl
  cases hm : m_in x1 0 5 with
  | false =>
    refine lv_aload_n hx hb dL_law_200 rfl (lv_at hl 3 rfl) ?_
    refine l_arg (k := 1) hx hb hX hbl hS (by omega) hL rfl e1 (lv_at hl 4 rfl) (lv_at hl 0 rfl) dL_law_201 dL_law_202 dL_law_204 dL_law_205 dL_law_206 ?_
    refine l_arg (k := 2) hx hb hX hbl hS (by omega) hL rfl e2 (lv_at hl 4 rfl) (lv_at hl 0 rfl) dL_law_207 dL_law_208 dL_law_210 dL_law_211 dL_law_212 ?_
    refine lv_aload_n hx hb dL_law_213 rfl (lv_at hl 1 rfl) ?_
    refine l_callE (As := [.ref (ad 0), .int x1, .int x2, .ref o]) (rest := []) ⟨hx, hb, hml, hown, hts⟩ (t_L_say_1 l D sa hst cI cJ ad o N (nI (m_n g0 N)) (nI (m_tn g0 g1 g2 N)) pa pe f0 f1 f2 f3 f4 x1 x2 (in_sp0 hm) fo) (vx_cwSW 4 hts gL_law_L_say rfl rfl rfl kq_L_say ⟨Nat.le_of_ble_eq_true rfl, Nat.le_of_ble_eq_true rfl⟩) (hP.sub [0, 1, 2, 3, 4, 5, 6] rfl) (hK.sub [0, 1] rfl) (hZ.kept fun a ha => hS.2.1 a ha (Nat.not_le.mpr ha)) hN9 rfl hl.1 rfl (Nat.le_of_ble_eq_true rfl) dL_law_214 (show cells + 1 ≤ 650192 by omega) (show slots + 6 ≤ 7145529 by omega) hS (fun H locs hsm hS => ?_)
    have hP := hsm.P hP
    refine lv_istore (lv' := [(5, .int 1), (4, .int (nI i)), (3, .ref o), (2, .ref (ad2 0)), (1, .ref (ad 0)), (0, .ref b)]) hx hb dL_law_217 hl (by decide) rfl (fun ls hl => ?_)
    refine lv_aload_n hx hb dL_law_219 rfl (lv_at hl 3 rfl) ?_
    refine l_arg (k := 1) hx hb hX hbl hS (by omega) hL rfl e1 (lv_at hl 5 rfl) (lv_at hl 1 rfl) dL_law_220 dL_law_221 dL_law_223 dL_law_224 dL_law_225 ?_
    refine l_arg (k := 2) hx hb hX hbl hS (by omega) hL rfl e2 (lv_at hl 5 rfl) (lv_at hl 1 rfl) dL_law_226 dL_law_227 dL_law_229 dL_law_230 dL_law_231 ?_
    refine m_callVI (As := [.int x1, .int x2]) (rest := []) (Wr := (lw cI cJ ad o (nI N) (nI (m_n g0 N)) (nI (m_tn g0 g1 g2 N)) pa pe f0 f1 f2 f3 f4 fo)) (W2 := (lw cI cJ ad o (nI N) (nI (m_n g0 N)) (nI (m_tn g0 g1 g2 N)) pa pe f0 f1 f2 f3 f4 fo ++ mw cI cZ ad2 1 (nI N) pa pe g0 g1 g2)) ⟨hx, hb, hml, hown, hts⟩ (c_X1_say_1 l D cI cZ ad2 th N pa pe g0 g1 g2 hN x1 x2 hm) (cwV 2 hts gL_law_X1_say rfl rfl rfl kv_X1_say ⟨Nat.le_of_ble_eq_true rfl, Nat.le_of_ble_eq_true rfl⟩) (va_recv hK hP (ci := 1) (q0 := 7) rfl rfl) hP hD (hK.sub [0, 2] rfl) hA [7, 8, 9, 10] [0, 1, 2, 3, 4, 5, 6] [0, 1, 2, 3, 4, 5, 6, 7, 8, 9, 10] rfl rfl rfl rfl rfl (by decide) rfl rfl rfl hl.1 rfl (Nat.le_of_ble_eq_true rfl) dL_law_232 (show cells + 1 ≤ 650192 by omega) (show slots + 6 ≤ 7145529 by omega) hS (fun H locs hP hS => ?_)
    have hD : va_D (lA s) (lw cI cJ ad o (nI N) (nI (m_n g0 N)) (nI (m_tn g0 g1 g2 N)) pa pe f0 f1 f2 f3 f4 fo ++ mw cI cZ ad2 1 (nI N) pa pe g0 g1 g2) := q_Dc (L := [ad 0, ad 1, ad 2, ad 3, ad 4, ad 5, o, ad2 0, ad2 1, ad2 2, ad2 3]) hD rfl rfl
    refine lv_istore (lv' := [(6, .int 0), (5, .int 1), (4, .int (nI i)), (3, .ref o), (2, .ref (ad2 0)), (1, .ref (ad 0)), (0, .ref b)]) hx hb dL_law_235 hl (by decide) rfl (fun ls hl => ?_)
    refine lv_aload_n hx hb dL_law_237 rfl (lv_at hl 4 rfl) ?_
    refine q_callV (As := []) (rest := []) ⟨hx, hb, hml, hown, hts⟩ (c_X1_thrown l D cI cZ ad2 1 N pa pe g0 g1 g2 (by omega)) (cwV 0 hts gL_law_X1_thrown rfl rfl rfl kv_X1_thrown ⟨Nat.le_of_ble_eq_true rfl, Nat.le_of_ble_eq_true rfl⟩) (va_recv hK hP (ci := 1) (q0 := 7) rfl rfl) (hP.sub [7, 8, 9, 10] rfl) (hK.sub [0, 2] rfl) rfl hl.1 rfl (Nat.le_of_ble_eq_true rfl) dL_law_238 (show cells + 1 ≤ 650192 by omega) (show slots + 6 ≤ 7145529 by omega) hS (fun H locs hsm hS => ?_)
    have hP := hsm.P hP
    refine lv_iload hx hb dL_law_241 (lv_at hl 1 rfl) ?_
    refine lv_icmp_eq (tgt := 248) hx hb dL_law_243 (by decide) (fun _ => ?_) (fun h9 => absurd rfl h9)
    refine lv_iload hx hb dL_law_248 (lv_at hl 1 rfl) ?_
    refine lv_if_ne (tgt := 265) hx hb dL_law_250 (by decide) (fun _ => ?_) (fun h9 => absurd h9 (by decide))
    refine lv_goto (tgt := 1808) hx hb dL_law_265 (by decide) ?_
    refine W.widen (k := cells + 24) (n := slots + 125) (by omega) (by omega) ?_
    exact kk _ _ _ _ _ _ _ _ _ _ _ _ _ _ _ H locs ls (h) (r) hP hD hS (lv_sub hl [2, 3, 4, 5, 6] rfl)
  | true =>
    have hi9 := in_sp1 hm
    cases hm2 : m_in x2 0 9 with
    | false =>
      refine lv_aload_n hx hb dL_law_200 rfl (lv_at hl 3 rfl) ?_
      refine l_arg (k := 1) hx hb hX hbl hS (by omega) hL rfl e1 (lv_at hl 4 rfl) (lv_at hl 0 rfl) dL_law_201 dL_law_202 dL_law_204 dL_law_205 dL_law_206 ?_
      refine l_arg (k := 2) hx hb hX hbl hS (by omega) hL rfl e2 (lv_at hl 4 rfl) (lv_at hl 0 rfl) dL_law_207 dL_law_208 dL_law_210 dL_law_211 dL_law_212 ?_
      refine lv_aload_n hx hb dL_law_213 rfl (lv_at hl 1 rfl) ?_
      refine l_callE (As := [.ref (ad 0), .int x1, .int x2, .ref o]) (rest := []) ⟨hx, hb, hml, hown, hts⟩ (t_L_say_2 l D sa hst cI cJ ad o N (nI (m_n g0 N)) (nI (m_tn g0 g1 g2 N)) pa pe f0 f1 f2 f3 f4 x1 x2 hi9.1 hi9.2 (in_tp0 hm2) fo) (vx_cwSW 4 hts gL_law_L_say rfl rfl rfl kq_L_say ⟨Nat.le_of_ble_eq_true rfl, Nat.le_of_ble_eq_true rfl⟩) (hP.sub [0, 1, 2, 3, 4, 5, 6] rfl) (hK.sub [0, 1] rfl) (hZ.kept fun a ha => hS.2.1 a ha (Nat.not_le.mpr ha)) hN9 rfl hl.1 rfl (Nat.le_of_ble_eq_true rfl) dL_law_214 (show cells + 1 ≤ 650192 by omega) (show slots + 6 ≤ 7145529 by omega) hS (fun H locs hsm hS => ?_)
      have hP := hsm.P hP
      refine lv_istore (lv' := [(5, .int 2), (4, .int (nI i)), (3, .ref o), (2, .ref (ad2 0)), (1, .ref (ad 0)), (0, .ref b)]) hx hb dL_law_217 hl (by decide) rfl (fun ls hl => ?_)
      refine lv_aload_n hx hb dL_law_219 rfl (lv_at hl 3 rfl) ?_
      refine l_arg (k := 1) hx hb hX hbl hS (by omega) hL rfl e1 (lv_at hl 5 rfl) (lv_at hl 1 rfl) dL_law_220 dL_law_221 dL_law_223 dL_law_224 dL_law_225 ?_
      refine l_arg (k := 2) hx hb hX hbl hS (by omega) hL rfl e2 (lv_at hl 5 rfl) (lv_at hl 1 rfl) dL_law_226 dL_law_227 dL_law_229 dL_law_230 dL_law_231 ?_
      refine m_callVI (As := [.int x1, .int x2]) (rest := []) (Wr := (lw cI cJ ad o (nI N) (nI (m_n g0 N)) (nI (m_tn g0 g1 g2 N)) pa pe f0 f1 f2 f3 f4 fo)) (W2 := (lw cI cJ ad o (nI N) (nI (m_n g0 N)) (nI (m_tn g0 g1 g2 N)) pa pe f0 f1 f2 f3 f4 fo ++ mw cI cZ ad2 2 (nI N) pa pe g0 g1 g2)) ⟨hx, hb, hml, hown, hts⟩ (c_X1_say_2 l D cI cZ ad2 th N pa pe g0 g1 g2 hN x1 x2 hm hm2) (cwV 2 hts gL_law_X1_say rfl rfl rfl kv_X1_say ⟨Nat.le_of_ble_eq_true rfl, Nat.le_of_ble_eq_true rfl⟩) (va_recv hK hP (ci := 1) (q0 := 7) rfl rfl) hP hD (hK.sub [0, 2] rfl) hA [7, 8, 9, 10] [0, 1, 2, 3, 4, 5, 6] [0, 1, 2, 3, 4, 5, 6, 7, 8, 9, 10] rfl rfl rfl rfl rfl (by decide) rfl rfl rfl hl.1 rfl (Nat.le_of_ble_eq_true rfl) dL_law_232 (show cells + 1 ≤ 650192 by omega) (show slots + 6 ≤ 7145529 by omega) hS (fun H locs hP hS => ?_)
      have hD : va_D (lA s) (lw cI cJ ad o (nI N) (nI (m_n g0 N)) (nI (m_tn g0 g1 g2 N)) pa pe f0 f1 f2 f3 f4 fo ++ mw cI cZ ad2 2 (nI N) pa pe g0 g1 g2) := q_Dc (L := [ad 0, ad 1, ad 2, ad 3, ad 4, ad 5, o, ad2 0, ad2 1, ad2 2, ad2 3]) hD rfl rfl
      refine lv_istore (lv' := [(6, .int 0), (5, .int 2), (4, .int (nI i)), (3, .ref o), (2, .ref (ad2 0)), (1, .ref (ad 0)), (0, .ref b)]) hx hb dL_law_235 hl (by decide) rfl (fun ls hl => ?_)
      refine lv_aload_n hx hb dL_law_237 rfl (lv_at hl 4 rfl) ?_
      refine q_callV (As := []) (rest := []) ⟨hx, hb, hml, hown, hts⟩ (c_X1_thrown l D cI cZ ad2 2 N pa pe g0 g1 g2 (by omega)) (cwV 0 hts gL_law_X1_thrown rfl rfl rfl kv_X1_thrown ⟨Nat.le_of_ble_eq_true rfl, Nat.le_of_ble_eq_true rfl⟩) (va_recv hK hP (ci := 1) (q0 := 7) rfl rfl) (hP.sub [7, 8, 9, 10] rfl) (hK.sub [0, 2] rfl) rfl hl.1 rfl (Nat.le_of_ble_eq_true rfl) dL_law_238 (show cells + 1 ≤ 650192 by omega) (show slots + 6 ≤ 7145529 by omega) hS (fun H locs hsm hS => ?_)
      have hP := hsm.P hP
      refine lv_iload hx hb dL_law_241 (lv_at hl 1 rfl) ?_
      refine lv_icmp_eq (tgt := 248) hx hb dL_law_243 (by decide) (fun _ => ?_) (fun h9 => absurd rfl h9)
      refine lv_iload hx hb dL_law_248 (lv_at hl 1 rfl) ?_
      refine lv_if_ne (tgt := 265) hx hb dL_law_250 (by decide) (fun _ => ?_) (fun h9 => absurd h9 (by decide))
      refine lv_goto (tgt := 1808) hx hb dL_law_265 (by decide) ?_
      refine W.widen (k := cells + 24) (n := slots + 125) (by omega) (by omega) ?_
      exact kk _ _ _ _ _ _ _ _ _ _ _ _ _ _ _ H locs ls (h) (r) hP hD hS (lv_sub hl [2, 3, 4, 5, 6] rfl)
    | true =>
      have hj9 := in_tp1 hm2
      by_cases hz : N = 24
      · refine lv_aload_n hx hb dL_law_200 rfl (lv_at hl 3 rfl) ?_
        refine l_arg (k := 1) hx hb hX hbl hS (by omega) hL rfl e1 (lv_at hl 4 rfl) (lv_at hl 0 rfl) dL_law_201 dL_law_202 dL_law_204 dL_law_205 dL_law_206 ?_
        refine l_arg (k := 2) hx hb hX hbl hS (by omega) hL rfl e2 (lv_at hl 4 rfl) (lv_at hl 0 rfl) dL_law_207 dL_law_208 dL_law_210 dL_law_211 dL_law_212 ?_
        refine lv_aload_n hx hb dL_law_213 rfl (lv_at hl 1 rfl) ?_
        refine l_callE (As := [.ref (ad 0), .int x1, .int x2, .ref o]) (rest := []) ⟨hx, hb, hml, hown, hts⟩ (t_L_say_3 l D sa hst cI cJ ad o N (nI (m_n g0 N)) (nI (m_tn g0 g1 g2 N)) pa pe f0 f1 f2 f3 f4 x1 x2 hi9.1 hi9.2 hj9.1 hj9.2 (by rw [hz]; decide) fo) (vx_cwSW 4 hts gL_law_L_say rfl rfl rfl kq_L_say ⟨Nat.le_of_ble_eq_true rfl, Nat.le_of_ble_eq_true rfl⟩) (hP.sub [0, 1, 2, 3, 4, 5, 6] rfl) (hK.sub [0, 1] rfl) (hZ.kept fun a ha => hS.2.1 a ha (Nat.not_le.mpr ha)) hN9 rfl hl.1 rfl (Nat.le_of_ble_eq_true rfl) dL_law_214 (show cells + 1 ≤ 650192 by omega) (show slots + 6 ≤ 7145529 by omega) hS (fun H locs hsm hS => ?_)
        have hP := hsm.P hP
        refine lv_istore (lv' := [(5, .int 3), (4, .int (nI i)), (3, .ref o), (2, .ref (ad2 0)), (1, .ref (ad 0)), (0, .ref b)]) hx hb dL_law_217 hl (by decide) rfl (fun ls hl => ?_)
        refine lv_aload_n hx hb dL_law_219 rfl (lv_at hl 3 rfl) ?_
        refine l_arg (k := 1) hx hb hX hbl hS (by omega) hL rfl e1 (lv_at hl 5 rfl) (lv_at hl 1 rfl) dL_law_220 dL_law_221 dL_law_223 dL_law_224 dL_law_225 ?_
        refine l_arg (k := 2) hx hb hX hbl hS (by omega) hL rfl e2 (lv_at hl 5 rfl) (lv_at hl 1 rfl) dL_law_226 dL_law_227 dL_law_229 dL_law_230 dL_law_231 ?_
        refine m_callVI (As := [.int x1, .int x2]) (rest := []) (Wr := (lw cI cJ ad o (nI N) (nI (m_n g0 N)) (nI (m_tn g0 g1 g2 N)) pa pe f0 f1 f2 f3 f4 fo)) (W2 := (lw cI cJ ad o (nI N) (nI (m_n g0 N)) (nI (m_tn g0 g1 g2 N)) pa pe f0 f1 f2 f3 f4 fo ++ mw cI cZ ad2 3 (nI N) pa pe g0 g1 g2)) ⟨hx, hb, hml, hown, hts⟩ (c_X1_say_3 l D cI cZ ad2 th N pa pe g0 g1 g2 hN x1 x2 hm hm2 hz) (cwV 2 hts gL_law_X1_say rfl rfl rfl kv_X1_say ⟨Nat.le_of_ble_eq_true rfl, Nat.le_of_ble_eq_true rfl⟩) (va_recv hK hP (ci := 1) (q0 := 7) rfl rfl) hP hD (hK.sub [0, 2] rfl) hA [7, 8, 9, 10] [0, 1, 2, 3, 4, 5, 6] [0, 1, 2, 3, 4, 5, 6, 7, 8, 9, 10] rfl rfl rfl rfl rfl (by decide) rfl rfl rfl hl.1 rfl (Nat.le_of_ble_eq_true rfl) dL_law_232 (show cells + 1 ≤ 650192 by omega) (show slots + 6 ≤ 7145529 by omega) hS (fun H locs hP hS => ?_)
        have hD : va_D (lA s) (lw cI cJ ad o (nI N) (nI (m_n g0 N)) (nI (m_tn g0 g1 g2 N)) pa pe f0 f1 f2 f3 f4 fo ++ mw cI cZ ad2 3 (nI N) pa pe g0 g1 g2) := q_Dc (L := [ad 0, ad 1, ad 2, ad 3, ad 4, ad 5, o, ad2 0, ad2 1, ad2 2, ad2 3]) hD rfl rfl
        refine lv_istore (lv' := [(6, .int 0), (5, .int 3), (4, .int (nI i)), (3, .ref o), (2, .ref (ad2 0)), (1, .ref (ad 0)), (0, .ref b)]) hx hb dL_law_235 hl (by decide) rfl (fun ls hl => ?_)
        refine lv_aload_n hx hb dL_law_237 rfl (lv_at hl 4 rfl) ?_
        refine q_callV (As := []) (rest := []) ⟨hx, hb, hml, hown, hts⟩ (c_X1_thrown l D cI cZ ad2 3 N pa pe g0 g1 g2 (by omega)) (cwV 0 hts gL_law_X1_thrown rfl rfl rfl kv_X1_thrown ⟨Nat.le_of_ble_eq_true rfl, Nat.le_of_ble_eq_true rfl⟩) (va_recv hK hP (ci := 1) (q0 := 7) rfl rfl) (hP.sub [7, 8, 9, 10] rfl) (hK.sub [0, 2] rfl) rfl hl.1 rfl (Nat.le_of_ble_eq_true rfl) dL_law_238 (show cells + 1 ≤ 650192 by omega) (show slots + 6 ≤ 7145529 by omega) hS (fun H locs hsm hS => ?_)
        have hP := hsm.P hP
        refine lv_iload hx hb dL_law_241 (lv_at hl 1 rfl) ?_
        refine lv_icmp_eq (tgt := 248) hx hb dL_law_243 (by decide) (fun _ => ?_) (fun h9 => absurd rfl h9)
        refine lv_iload hx hb dL_law_248 (lv_at hl 1 rfl) ?_
        refine lv_if_ne (tgt := 265) hx hb dL_law_250 (by decide) (fun _ => ?_) (fun h9 => absurd h9 (by decide))
        refine lv_goto (tgt := 1808) hx hb dL_law_265 (by decide) ?_
        refine W.widen (k := cells + 24) (n := slots + 125) (by omega) (by omega) ?_
        exact kk _ _ _ _ _ _ _ _ _ _ _ _ _ _ _ H locs ls (h) (r) hP hD hS (lv_sub hl [2, 3, 4, 5, 6] rfl)
      · have hlt : N < 24 := by omega
        have h2 := h.put (a := x1) hlt (tp_of hj9)
        refine lv_aload_n hx hb dL_law_200 rfl (lv_at hl 3 rfl) ?_
        refine l_arg (k := 1) hx hb hX hbl hS (by omega) hL rfl e1 (lv_at hl 4 rfl) (lv_at hl 0 rfl) dL_law_201 dL_law_202 dL_law_204 dL_law_205 dL_law_206 ?_
        refine l_arg (k := 2) hx hb hX hbl hS (by omega) hL rfl e2 (lv_at hl 4 rfl) (lv_at hl 0 rfl) dL_law_207 dL_law_208 dL_law_210 dL_law_211 dL_law_212 ?_
        refine lv_aload_n hx hb dL_law_213 rfl (lv_at hl 1 rfl) ?_
        refine l_callI (As := [.ref (ad 0), .int x1, .int x2, .ref o]) (rest := []) (Wr := [(ad2 0, .inr (1, [.int th, .int (nI N), .int pa, .int pe, .ref (ad2 1), .ref (ad2 2), .ref (ad2 3)])), (ad2 1, .inl (cI, 25, .inl g0)), (ad2 2, .inl (cI, 25, .inl g1)), (ad2 3, .inl (cZ, 25, .inl g2))]) (W2 := (lw cI cJ ad o (nI (N + 1)) (nI (x_wn (wr f1 (nI N) x2) (N + 1))) (nI (x_tcn (wr f0 (nI N) x1) (wr f1 (nI N) x2) (wr f2 (nI N) 0) (x_wp (wr f1 (nI N) x2) f3 (N + 1)) (x_wn (wr f1 (nI N) x2) (N + 1)))) pa pe (wr f0 (nI N) x1) (wr f1 (nI N) x2) (wr f2 (nI N) 0) (x_wp (wr f1 (nI N) x2) f3 (N + 1)) (x_wh (wr f0 (nI N) x1) (wr f1 (nI N) x2) (wr f2 (nI N) 0) (x_wp (wr f1 (nI N) x2) f3 (N + 1)) f4 (x_wn (wr f1 (nI N) x2) (N + 1))) (vp_updL fo 0 (((nI N)).toInt64)) ++ [(ad2 0, .inr (1, [.int th, .int (nI N), .int pa, .int pe, .ref (ad2 1), .ref (ad2 2), .ref (ad2 3)])), (ad2 1, .inl (cI, 25, .inl g0)), (ad2 2, .inl (cI, 25, .inl g1)), (ad2 3, .inl (cZ, 25, .inl g2))])) ⟨hx, hb, hml, hown, hts⟩ (c_L_say l D cI cJ ad o N (nI (m_n g0 N)) (nI (m_tn g0 g1 g2 N)) pa pe f0 f1 f2 f3 f4 x1 x2 hi9.1 hi9.2 hj9.1 hj9.2 (nI_lt hlt (by decide)) hlt fo) (vx_cwSW 4 hts gL_law_L_say rfl rfl rfl kq_L_say ⟨Nat.le_of_ble_eq_true rfl, Nat.le_of_ble_eq_true rfl⟩) hP hD (hK.sub [0, 1] rfl) hA [0, 1, 2, 3, 4, 5, 6] [7, 8, 9, 10] [4, 5, 6, 7, 8, 9, 10, 0, 1, 2, 3] rfl rfl rfl rfl rfl (by decide) rfl rfl rfl hl.1 rfl (Nat.le_of_ble_eq_true rfl) dL_law_214 (show cells ≤ 650192 by omega) (show slots ≤ 7145529 by omega) hS (fun H locs hP hS => ?_)
        have hD : va_D (lA s) (lw cI cJ ad o (nI (N + 1)) (nI (x_wn (wr f1 (nI N) x2) (N + 1))) (nI (x_tcn (wr f0 (nI N) x1) (wr f1 (nI N) x2) (wr f2 (nI N) 0) (x_wp (wr f1 (nI N) x2) f3 (N + 1)) (x_wn (wr f1 (nI N) x2) (N + 1)))) pa pe (wr f0 (nI N) x1) (wr f1 (nI N) x2) (wr f2 (nI N) 0) (x_wp (wr f1 (nI N) x2) f3 (N + 1)) (x_wh (wr f0 (nI N) x1) (wr f1 (nI N) x2) (wr f2 (nI N) 0) (x_wp (wr f1 (nI N) x2) f3 (N + 1)) f4 (x_wn (wr f1 (nI N) x2) (N + 1))) (vp_updL fo 0 (((nI N)).toInt64)) ++ [(ad2 0, .inr (1, [.int th, .int (nI N), .int pa, .int pe, .ref (ad2 1), .ref (ad2 2), .ref (ad2 3)])), (ad2 1, .inl (cI, 25, .inl g0)), (ad2 2, .inl (cI, 25, .inl g1)), (ad2 3, .inl (cZ, 25, .inl g2))]) := q_Dc (L := [ad 0, ad 1, ad 2, ad 3, ad 4, ad 5, o, ad2 0, ad2 1, ad2 2, ad2 3]) hD rfl rfl
        refine lv_istore (lv' := [(5, .int 0), (4, .int (nI i)), (3, .ref o), (2, .ref (ad2 0)), (1, .ref (ad 0)), (0, .ref b)]) hx hb dL_law_217 hl (by decide) rfl (fun ls hl => ?_)
        refine lv_aload_n hx hb dL_law_219 rfl (lv_at hl 3 rfl) ?_
        refine l_arg (k := 1) hx hb hX hbl hS (by omega) hL rfl e1 (lv_at hl 5 rfl) (lv_at hl 1 rfl) dL_law_220 dL_law_221 dL_law_223 dL_law_224 dL_law_225 ?_
        refine l_arg (k := 2) hx hb hX hbl hS (by omega) hL rfl e2 (lv_at hl 5 rfl) (lv_at hl 1 rfl) dL_law_226 dL_law_227 dL_law_229 dL_law_230 dL_law_231 ?_
        refine m_callVI (As := [.int x1, .int x2]) (rest := []) (Wr := (lw cI cJ ad o (nI (N + 1)) (nI (x_wn (wr f1 (nI N) x2) (N + 1))) (nI (x_tcn (wr f0 (nI N) x1) (wr f1 (nI N) x2) (wr f2 (nI N) 0) (x_wp (wr f1 (nI N) x2) f3 (N + 1)) (x_wn (wr f1 (nI N) x2) (N + 1)))) pa pe (wr f0 (nI N) x1) (wr f1 (nI N) x2) (wr f2 (nI N) 0) (x_wp (wr f1 (nI N) x2) f3 (N + 1)) (x_wh (wr f0 (nI N) x1) (wr f1 (nI N) x2) (wr f2 (nI N) 0) (x_wp (wr f1 (nI N) x2) f3 (N + 1)) f4 (x_wn (wr f1 (nI N) x2) (N + 1))) (vp_updL fo 0 (((nI N)).toInt64)))) (W2 := (lw cI cJ ad o (nI (N + 1)) (nI (x_wn (wr f1 (nI N) x2) (N + 1))) (nI (x_tcn (wr f0 (nI N) x1) (wr f1 (nI N) x2) (wr f2 (nI N) 0) (x_wp (wr f1 (nI N) x2) f3 (N + 1)) (x_wn (wr f1 (nI N) x2) (N + 1)))) pa pe (wr f0 (nI N) x1) (wr f1 (nI N) x2) (wr f2 (nI N) 0) (x_wp (wr f1 (nI N) x2) f3 (N + 1)) (x_wh (wr f0 (nI N) x1) (wr f1 (nI N) x2) (wr f2 (nI N) 0) (x_wp (wr f1 (nI N) x2) f3 (N + 1)) f4 (x_wn (wr f1 (nI N) x2) (N + 1))) (vp_updL fo 0 (((nI N)).toInt64)) ++ mw cI cZ ad2 0 (nI (N + 1)) pa pe (upd g0 N x2) (upd g1 N x1) (upd g2 N 0))) ⟨hx, hb, hml, hown, hts⟩ (c_X1_say_ok l D cI cZ ad2 th N pa pe g0 g1 g2 hN x1 x2 hm hm2 hlt) (cwV 2 hts gL_law_X1_say rfl rfl rfl kv_X1_say ⟨Nat.le_of_ble_eq_true rfl, Nat.le_of_ble_eq_true rfl⟩) (va_recv hK hP (ci := 1) (q0 := 7) rfl rfl) hP hD (hK.sub [0, 2] rfl) hA [7, 8, 9, 10] [0, 1, 2, 3, 4, 5, 6] [0, 1, 2, 3, 4, 5, 6, 7, 8, 9, 10] rfl rfl rfl rfl rfl (by decide) rfl rfl rfl hl.1 rfl (Nat.le_of_ble_eq_true rfl) dL_law_232 (show cells ≤ 650192 by omega) (show slots ≤ 7145529 by omega) hS (fun H locs hP hS => ?_)
        have hD : va_D (lA s) (lw cI cJ ad o (nI (N + 1)) (nI (x_wn (wr f1 (nI N) x2) (N + 1))) (nI (x_tcn (wr f0 (nI N) x1) (wr f1 (nI N) x2) (wr f2 (nI N) 0) (x_wp (wr f1 (nI N) x2) f3 (N + 1)) (x_wn (wr f1 (nI N) x2) (N + 1)))) pa pe (wr f0 (nI N) x1) (wr f1 (nI N) x2) (wr f2 (nI N) 0) (x_wp (wr f1 (nI N) x2) f3 (N + 1)) (x_wh (wr f0 (nI N) x1) (wr f1 (nI N) x2) (wr f2 (nI N) 0) (x_wp (wr f1 (nI N) x2) f3 (N + 1)) f4 (x_wn (wr f1 (nI N) x2) (N + 1))) (vp_updL fo 0 (((nI N)).toInt64)) ++ mw cI cZ ad2 0 (nI (N + 1)) pa pe (upd g0 N x2) (upd g1 N x1) (upd g2 N 0)) := q_Dc (L := [ad 0, ad 1, ad 2, ad 3, ad 4, ad 5, o, ad2 0, ad2 1, ad2 2, ad2 3]) hD rfl rfl
        refine lv_istore (lv' := [(6, .int (nI N)), (5, .int 0), (4, .int (nI i)), (3, .ref o), (2, .ref (ad2 0)), (1, .ref (ad 0)), (0, .ref b)]) hx hb dL_law_235 hl (by decide) rfl (fun ls hl => ?_)
        refine lv_aload_n hx hb dL_law_237 rfl (lv_at hl 4 rfl) ?_
        refine q_callV (As := []) (rest := []) ⟨hx, hb, hml, hown, hts⟩ (c_X1_thrown l D cI cZ ad2 0 (N + 1) pa pe (upd g0 N x2) (upd g1 N x1) (upd g2 N 0) (by omega)) (cwV 0 hts gL_law_X1_thrown rfl rfl rfl kv_X1_thrown ⟨Nat.le_of_ble_eq_true rfl, Nat.le_of_ble_eq_true rfl⟩) (va_recv hK hP (ci := 1) (q0 := 7) rfl rfl) (hP.sub [7, 8, 9, 10] rfl) (hK.sub [0, 2] rfl) rfl hl.1 rfl (Nat.le_of_ble_eq_true rfl) dL_law_238 (show cells ≤ 650192 by omega) (show slots ≤ 7145529 by omega) hS (fun H locs hsm hS => ?_)
        have hP := hsm.P hP
        refine lv_iload hx hb dL_law_241 (lv_at hl 1 rfl) ?_
        refine lv_icmp_eq (tgt := 248) hx hb dL_law_243 (by decide) (fun _ => ?_) (fun h9 => absurd rfl h9)
        refine lv_iload hx hb dL_law_248 (lv_at hl 1 rfl) ?_
        refine lv_if_ne (tgt := 265) hx hb dL_law_250 (by decide) (fun h9 => absurd (by decide) h9) (fun _ => ?_)
        refine lv_aload_n hx hb dL_law_253 rfl (lv_at hl 3 rfl) ?_
        refine lv_iconst (v := 0) hx hb dL_law_254 (by decide) ?_
        refine va_lald hx hb hK hP 6 1 rfl rfl (vp_in_nI (n := 0) (by decide) (by decide)) dL_law_255 ?_
        rw [upd0]
        refine lv_iload hx hb dL_law_256 (lv_at hl 0 rfl) ?_
        refine lv_i2l (v := ((nI N)).toInt64) hx hb dL_law_258 rfl ?_
        refine l_lcmp0 hx hb (rfl) dL_law_259 ?_
        refine lv_if_eq (tgt := 265) hx hb dL_law_260 (by decide) (fun _ => ?_) (fun h9 => absurd rfl h9)
        refine lv_goto (tgt := 1808) hx hb dL_law_265 (by decide) ?_
        refine W.widen (k := cells + 24) (n := slots + 125) (by omega) (by omega) ?_
        exact kk _ _ _ _ _ _ _ _ _ _ _ _ _ _ _ H locs ls (h2) (h2.recount rfl) hP hD hS (lv_sub hl [2, 3, 4, 5, 6] rfl)

set_option maxHeartbeats 4000000 in
set_option maxRecDepth 100000 in
theorem law_cough {p : Program} {l : Launch} {e : Env} {s : State} {m : MethodId} {args : Array Value} {below : List Frame} {meth : Method} {c : Code} {b L : Nat} {xs : Nat → Int32} {D : va_G} {cI cJ cZ : ClassId} {sa ad ad2 : Nat → Nat} {o cells slots i : Nat} {Q : State → Prop}
    (C : law_C p l s m c args b L xs D cI cJ cZ sa) (kk : law_K p l e s m args below meth c b D cI cJ cZ ad ad2 o cells slots Q i) {N : Nat} {w t pa pe : Int32} {f0 f1 f2 f3 f4 : Nat → Int32} {fo : Nat → Int64} {th : Int32} {g0 g1 g2 : Nat → Int32} {H : Heap} {locs : List Loc} {ls : Array Slot}
    (h : Ra N f0 f1 f2 g0 g1 g2) (r : Rw N f3 f4 g0 g1 g2 w t) (hP : va_P D vwCl (lW cI cJ cZ ad ad2 o (nI N) w t pa pe f0 f1 f2 f3 f4 fo th g0 g1 g2) H) (hD : va_D (lA s) (lW cI cJ cZ ad ad2 o (nI N) w t pa pe f0 f1 f2 f3 f4 fo th g0 g1 g2)) (hS : va_S (lA s) s.heap H locs) (hl : lv_has ls 9 (law_L b ad ad2 o i))
    (hi : i + 2 < L) (hc : cells + 24 ≤ 650192) (hs : slots + 125 ≤ 7145529) : W p l e room_1 s m args below meth c H locs cells slots Q (F0 m 268 ls []) := by
  obtain ⟨hx, hb, hml, hown, hts, hX, hbl, hK, hZ, hN9, hst, hL⟩ := C
  have ew := r.ww
  have et := r.tt
  subst ew
  subst et
  have q := r.rp
  have hN := h.n
  have hn : m_n g0 N ≤ 24 := Nat.le_trans (m_n_le g0 N) hN
  have ht : m_tn g0 g1 g2 N ≤ 24 := by
    have h9 := m_ab_lt (g0 := g0) (g1 := g1) (g2 := g2) hN
    unfold m_tn
    split <;> omega
  have hA : ∀ q : Nat, s.heap.size ≤ q → lA s q := fun _ h => h
  obtain ⟨x1, e1⟩ : ∃ x1, xs (i + 1) = x1 := ⟨_, rfl⟩
  obtain ⟨x2, e2⟩ : ∃ x2, xs (i + 2) = x2 := ⟨_, rfl⟩
  have hl : lv_has ls 9 [(4, .int (nI i)), (3, .ref o), (2, .ref (ad2 0)), (1, .ref (ad 0)), (0, .ref b)] := hl
  cases hm : m_in x1 0 5 with
  | false =>
    refine lv_aload_n hx hb dL_law_268 rfl (lv_at hl 3 rfl) ?_
    refine l_arg (k := 1) hx hb hX hbl hS (by omega) hL rfl e1 (lv_at hl 4 rfl) (lv_at hl 0 rfl) dL_law_269 dL_law_270 dL_law_272 dL_law_273 dL_law_274 ?_
    refine lv_aload_n hx hb dL_law_275 rfl (lv_at hl 1 rfl) ?_
    refine l_callE (As := [.ref (ad 0), .int x1, .ref o]) (rest := []) ⟨hx, hb, hml, hown, hts⟩ (t_L_cough_1 l D sa hst cI cJ ad o N (nI (m_n g0 N)) (nI (m_tn g0 g1 g2 N)) pa pe f0 f1 f2 f3 f4 x1 (in_sp0 hm) fo) (vx_cwSW 3 hts gL_law_L_cough rfl rfl rfl kq_L_cough ⟨Nat.le_of_ble_eq_true rfl, Nat.le_of_ble_eq_true rfl⟩) (hP.sub [0, 1, 2, 3, 4, 5, 6] rfl) (hK.sub [0, 1] rfl) (hZ.kept fun a ha => hS.2.1 a ha (Nat.not_le.mpr ha)) hN9 rfl hl.1 rfl (Nat.le_of_ble_eq_true rfl) dL_law_276 (show cells + 1 ≤ 650192 by omega) (show slots + 6 ≤ 7145529 by omega) hS (fun H locs hsm hS => ?_)
    have hP := hsm.P hP
    refine lv_istore (lv' := [(5, .int 1), (4, .int (nI i)), (3, .ref o), (2, .ref (ad2 0)), (1, .ref (ad 0)), (0, .ref b)]) hx hb dL_law_279 hl (by decide) rfl (fun ls hl => ?_)
    refine lv_aload_n hx hb dL_law_281 rfl (lv_at hl 3 rfl) ?_
    refine l_arg (k := 1) hx hb hX hbl hS (by omega) hL rfl e1 (lv_at hl 5 rfl) (lv_at hl 1 rfl) dL_law_282 dL_law_283 dL_law_285 dL_law_286 dL_law_287 ?_
    refine m_callVI (As := [.int x1]) (rest := []) (Wr := (lw cI cJ ad o (nI N) (nI (m_n g0 N)) (nI (m_tn g0 g1 g2 N)) pa pe f0 f1 f2 f3 f4 fo)) (W2 := (lw cI cJ ad o (nI N) (nI (m_n g0 N)) (nI (m_tn g0 g1 g2 N)) pa pe f0 f1 f2 f3 f4 fo ++ mw cI cZ ad2 1 (nI N) pa pe g0 g1 g2)) ⟨hx, hb, hml, hown, hts⟩ (c_X1_cough_1 l D cI cZ ad2 th N pa pe g0 g1 g2 hN x1 hm) (cwV 1 hts gL_law_X1_cough rfl rfl rfl kv_X1_cough ⟨Nat.le_of_ble_eq_true rfl, Nat.le_of_ble_eq_true rfl⟩) (va_recv hK hP (ci := 1) (q0 := 7) rfl rfl) hP hD (hK.sub [0, 2] rfl) hA [7, 8, 9, 10] [0, 1, 2, 3, 4, 5, 6] [0, 1, 2, 3, 4, 5, 6, 7, 8, 9, 10] rfl rfl rfl rfl rfl (by decide) rfl rfl rfl hl.1 rfl (Nat.le_of_ble_eq_true rfl) dL_law_288 (show cells + 1 ≤ 650192 by omega) (show slots + 6 ≤ 7145529 by omega) hS (fun H locs hP hS => ?_)
    have hD : va_D (lA s) (lw cI cJ ad o (nI N) (nI (m_n g0 N)) (nI (m_tn g0 g1 g2 N)) pa pe f0 f1 f2 f3 f4 fo ++ mw cI cZ ad2 1 (nI N) pa pe g0 g1 g2) := q_Dc (L := [ad 0, ad 1, ad 2, ad 3, ad 4, ad 5, o, ad2 0, ad2 1, ad2 2, ad2 3]) hD rfl rfl
    refine lv_istore (lv' := [(6, .int 0), (5, .int 1), (4, .int (nI i)), (3, .ref o), (2, .ref (ad2 0)), (1, .ref (ad 0)), (0, .ref b)]) hx hb dL_law_291 hl (by decide) rfl (fun ls hl => ?_)
    refine lv_aload_n hx hb dL_law_293 rfl (lv_at hl 4 rfl) ?_
    refine q_callV (As := []) (rest := []) ⟨hx, hb, hml, hown, hts⟩ (c_X1_thrown l D cI cZ ad2 1 N pa pe g0 g1 g2 (by omega)) (cwV 0 hts gL_law_X1_thrown rfl rfl rfl kv_X1_thrown ⟨Nat.le_of_ble_eq_true rfl, Nat.le_of_ble_eq_true rfl⟩) (va_recv hK hP (ci := 1) (q0 := 7) rfl rfl) (hP.sub [7, 8, 9, 10] rfl) (hK.sub [0, 2] rfl) rfl hl.1 rfl (Nat.le_of_ble_eq_true rfl) dL_law_294 (show cells + 1 ≤ 650192 by omega) (show slots + 6 ≤ 7145529 by omega) hS (fun H locs hsm hS => ?_)
    have hP := hsm.P hP
    refine lv_iload hx hb dL_law_297 (lv_at hl 1 rfl) ?_
    refine lv_icmp_eq (tgt := 304) hx hb dL_law_299 (by decide) (fun _ => ?_) (fun h9 => absurd rfl h9)
    refine lv_iload hx hb dL_law_304 (lv_at hl 1 rfl) ?_
    refine lv_if_ne (tgt := 321) hx hb dL_law_306 (by decide) (fun _ => ?_) (fun h9 => absurd h9 (by decide))
    refine lv_goto (tgt := 1808) hx hb dL_law_321 (by decide) ?_
    refine W.widen (k := cells + 24) (n := slots + 125) (by omega) (by omega) ?_
    exact kk _ _ _ _ _ _ _ _ _ _ _ _ _ _ _ H locs ls (h) (r) hP hD hS (lv_sub hl [2, 3, 4, 5, 6] rfl)
  | true =>
    have hi9 := in_sp1 hm
    by_cases hz : N = 24
    · refine lv_aload_n hx hb dL_law_268 rfl (lv_at hl 3 rfl) ?_
      refine l_arg (k := 1) hx hb hX hbl hS (by omega) hL rfl e1 (lv_at hl 4 rfl) (lv_at hl 0 rfl) dL_law_269 dL_law_270 dL_law_272 dL_law_273 dL_law_274 ?_
      refine lv_aload_n hx hb dL_law_275 rfl (lv_at hl 1 rfl) ?_
      refine l_callE (As := [.ref (ad 0), .int x1, .ref o]) (rest := []) ⟨hx, hb, hml, hown, hts⟩ (t_L_cough_2 l D sa hst cI cJ ad o N (nI (m_n g0 N)) (nI (m_tn g0 g1 g2 N)) pa pe f0 f1 f2 f3 f4 x1 hi9.1 hi9.2 (by rw [hz]; decide) fo) (vx_cwSW 3 hts gL_law_L_cough rfl rfl rfl kq_L_cough ⟨Nat.le_of_ble_eq_true rfl, Nat.le_of_ble_eq_true rfl⟩) (hP.sub [0, 1, 2, 3, 4, 5, 6] rfl) (hK.sub [0, 1] rfl) (hZ.kept fun a ha => hS.2.1 a ha (Nat.not_le.mpr ha)) hN9 rfl hl.1 rfl (Nat.le_of_ble_eq_true rfl) dL_law_276 (show cells + 1 ≤ 650192 by omega) (show slots + 6 ≤ 7145529 by omega) hS (fun H locs hsm hS => ?_)
      have hP := hsm.P hP
      refine lv_istore (lv' := [(5, .int 2), (4, .int (nI i)), (3, .ref o), (2, .ref (ad2 0)), (1, .ref (ad 0)), (0, .ref b)]) hx hb dL_law_279 hl (by decide) rfl (fun ls hl => ?_)
      refine lv_aload_n hx hb dL_law_281 rfl (lv_at hl 3 rfl) ?_
      refine l_arg (k := 1) hx hb hX hbl hS (by omega) hL rfl e1 (lv_at hl 5 rfl) (lv_at hl 1 rfl) dL_law_282 dL_law_283 dL_law_285 dL_law_286 dL_law_287 ?_
      refine m_callVI (As := [.int x1]) (rest := []) (Wr := (lw cI cJ ad o (nI N) (nI (m_n g0 N)) (nI (m_tn g0 g1 g2 N)) pa pe f0 f1 f2 f3 f4 fo)) (W2 := (lw cI cJ ad o (nI N) (nI (m_n g0 N)) (nI (m_tn g0 g1 g2 N)) pa pe f0 f1 f2 f3 f4 fo ++ mw cI cZ ad2 2 (nI N) pa pe g0 g1 g2)) ⟨hx, hb, hml, hown, hts⟩ (c_X1_cough_2 l D cI cZ ad2 th N pa pe g0 g1 g2 hN x1 hm hz) (cwV 1 hts gL_law_X1_cough rfl rfl rfl kv_X1_cough ⟨Nat.le_of_ble_eq_true rfl, Nat.le_of_ble_eq_true rfl⟩) (va_recv hK hP (ci := 1) (q0 := 7) rfl rfl) hP hD (hK.sub [0, 2] rfl) hA [7, 8, 9, 10] [0, 1, 2, 3, 4, 5, 6] [0, 1, 2, 3, 4, 5, 6, 7, 8, 9, 10] rfl rfl rfl rfl rfl (by decide) rfl rfl rfl hl.1 rfl (Nat.le_of_ble_eq_true rfl) dL_law_288 (show cells + 1 ≤ 650192 by omega) (show slots + 6 ≤ 7145529 by omega) hS (fun H locs hP hS => ?_)
      have hD : va_D (lA s) (lw cI cJ ad o (nI N) (nI (m_n g0 N)) (nI (m_tn g0 g1 g2 N)) pa pe f0 f1 f2 f3 f4 fo ++ mw cI cZ ad2 2 (nI N) pa pe g0 g1 g2) := q_Dc (L := [ad 0, ad 1, ad 2, ad 3, ad 4, ad 5, o, ad2 0, ad2 1, ad2 2, ad2 3]) hD rfl rfl
      refine lv_istore (lv' := [(6, .int 0), (5, .int 2), (4, .int (nI i)), (3, .ref o), (2, .ref (ad2 0)), (1, .ref (ad 0)), (0, .ref b)]) hx hb dL_law_291 hl (by decide) rfl (fun ls hl => ?_)
      refine lv_aload_n hx hb dL_law_293 rfl (lv_at hl 4 rfl) ?_
      refine q_callV (As := []) (rest := []) ⟨hx, hb, hml, hown, hts⟩ (c_X1_thrown l D cI cZ ad2 2 N pa pe g0 g1 g2 (by omega)) (cwV 0 hts gL_law_X1_thrown rfl rfl rfl kv_X1_thrown ⟨Nat.le_of_ble_eq_true rfl, Nat.le_of_ble_eq_true rfl⟩) (va_recv hK hP (ci := 1) (q0 := 7) rfl rfl) (hP.sub [7, 8, 9, 10] rfl) (hK.sub [0, 2] rfl) rfl hl.1 rfl (Nat.le_of_ble_eq_true rfl) dL_law_294 (show cells + 1 ≤ 650192 by omega) (show slots + 6 ≤ 7145529 by omega) hS (fun H locs hsm hS => ?_)
      have hP := hsm.P hP
      refine lv_iload hx hb dL_law_297 (lv_at hl 1 rfl) ?_
      refine lv_icmp_eq (tgt := 304) hx hb dL_law_299 (by decide) (fun _ => ?_) (fun h9 => absurd rfl h9)
      refine lv_iload hx hb dL_law_304 (lv_at hl 1 rfl) ?_
      refine lv_if_ne (tgt := 321) hx hb dL_law_306 (by decide) (fun _ => ?_) (fun h9 => absurd h9 (by decide))
      refine lv_goto (tgt := 1808) hx hb dL_law_321 (by decide) ?_
      refine W.widen (k := cells + 24) (n := slots + 125) (by omega) (by omega) ?_
      exact kk _ _ _ _ _ _ _ _ _ _ _ _ _ _ _ H locs ls (h) (r) hP hD hS (lv_sub hl [2, 3, 4, 5, 6] rfl)
    · have hlt : N < 24 := by omega
      have h2 := h.put (a := x1) (v := -1) hlt (Or.inl rfl)
      refine lv_aload_n hx hb dL_law_268 rfl (lv_at hl 3 rfl) ?_
      refine l_arg (k := 1) hx hb hX hbl hS (by omega) hL rfl e1 (lv_at hl 4 rfl) (lv_at hl 0 rfl) dL_law_269 dL_law_270 dL_law_272 dL_law_273 dL_law_274 ?_
      refine lv_aload_n hx hb dL_law_275 rfl (lv_at hl 1 rfl) ?_
      refine l_callI (As := [.ref (ad 0), .int x1, .ref o]) (rest := []) (Wr := [(ad2 0, .inr (1, [.int th, .int (nI N), .int pa, .int pe, .ref (ad2 1), .ref (ad2 2), .ref (ad2 3)])), (ad2 1, .inl (cI, 25, .inl g0)), (ad2 2, .inl (cI, 25, .inl g1)), (ad2 3, .inl (cZ, 25, .inl g2))]) (W2 := (lw cI cJ ad o (nI (N + 1)) (nI (x_wn (wr f1 (nI N) (-1)) (N + 1))) (nI (x_tcn (wr f0 (nI N) x1) (wr f1 (nI N) (-1)) (wr f2 (nI N) 0) (x_wp (wr f1 (nI N) (-1)) f3 (N + 1)) (x_wn (wr f1 (nI N) (-1)) (N + 1)))) pa pe (wr f0 (nI N) x1) (wr f1 (nI N) (-1)) (wr f2 (nI N) 0) (x_wp (wr f1 (nI N) (-1)) f3 (N + 1)) (x_wh (wr f0 (nI N) x1) (wr f1 (nI N) (-1)) (wr f2 (nI N) 0) (x_wp (wr f1 (nI N) (-1)) f3 (N + 1)) f4 (x_wn (wr f1 (nI N) (-1)) (N + 1))) (vp_updL fo 0 (((nI N)).toInt64)) ++ [(ad2 0, .inr (1, [.int th, .int (nI N), .int pa, .int pe, .ref (ad2 1), .ref (ad2 2), .ref (ad2 3)])), (ad2 1, .inl (cI, 25, .inl g0)), (ad2 2, .inl (cI, 25, .inl g1)), (ad2 3, .inl (cZ, 25, .inl g2))])) ⟨hx, hb, hml, hown, hts⟩ (c_L_cough l D cI cJ ad o N (nI (m_n g0 N)) (nI (m_tn g0 g1 g2 N)) pa pe f0 f1 f2 f3 f4 x1 hi9.1 hi9.2 (nI_lt hlt (by decide)) hlt fo) (vx_cwSW 3 hts gL_law_L_cough rfl rfl rfl kq_L_cough ⟨Nat.le_of_ble_eq_true rfl, Nat.le_of_ble_eq_true rfl⟩) hP hD (hK.sub [0, 1] rfl) hA [0, 1, 2, 3, 4, 5, 6] [7, 8, 9, 10] [4, 5, 6, 7, 8, 9, 10, 0, 1, 2, 3] rfl rfl rfl rfl rfl (by decide) rfl rfl rfl hl.1 rfl (Nat.le_of_ble_eq_true rfl) dL_law_276 (show cells ≤ 650192 by omega) (show slots ≤ 7145529 by omega) hS (fun H locs hP hS => ?_)
      have hD : va_D (lA s) (lw cI cJ ad o (nI (N + 1)) (nI (x_wn (wr f1 (nI N) (-1)) (N + 1))) (nI (x_tcn (wr f0 (nI N) x1) (wr f1 (nI N) (-1)) (wr f2 (nI N) 0) (x_wp (wr f1 (nI N) (-1)) f3 (N + 1)) (x_wn (wr f1 (nI N) (-1)) (N + 1)))) pa pe (wr f0 (nI N) x1) (wr f1 (nI N) (-1)) (wr f2 (nI N) 0) (x_wp (wr f1 (nI N) (-1)) f3 (N + 1)) (x_wh (wr f0 (nI N) x1) (wr f1 (nI N) (-1)) (wr f2 (nI N) 0) (x_wp (wr f1 (nI N) (-1)) f3 (N + 1)) f4 (x_wn (wr f1 (nI N) (-1)) (N + 1))) (vp_updL fo 0 (((nI N)).toInt64)) ++ [(ad2 0, .inr (1, [.int th, .int (nI N), .int pa, .int pe, .ref (ad2 1), .ref (ad2 2), .ref (ad2 3)])), (ad2 1, .inl (cI, 25, .inl g0)), (ad2 2, .inl (cI, 25, .inl g1)), (ad2 3, .inl (cZ, 25, .inl g2))]) := q_Dc (L := [ad 0, ad 1, ad 2, ad 3, ad 4, ad 5, o, ad2 0, ad2 1, ad2 2, ad2 3]) hD rfl rfl
      refine lv_istore (lv' := [(5, .int 0), (4, .int (nI i)), (3, .ref o), (2, .ref (ad2 0)), (1, .ref (ad 0)), (0, .ref b)]) hx hb dL_law_279 hl (by decide) rfl (fun ls hl => ?_)
      refine lv_aload_n hx hb dL_law_281 rfl (lv_at hl 3 rfl) ?_
      refine l_arg (k := 1) hx hb hX hbl hS (by omega) hL rfl e1 (lv_at hl 5 rfl) (lv_at hl 1 rfl) dL_law_282 dL_law_283 dL_law_285 dL_law_286 dL_law_287 ?_
      refine m_callVI (As := [.int x1]) (rest := []) (Wr := (lw cI cJ ad o (nI (N + 1)) (nI (x_wn (wr f1 (nI N) (-1)) (N + 1))) (nI (x_tcn (wr f0 (nI N) x1) (wr f1 (nI N) (-1)) (wr f2 (nI N) 0) (x_wp (wr f1 (nI N) (-1)) f3 (N + 1)) (x_wn (wr f1 (nI N) (-1)) (N + 1)))) pa pe (wr f0 (nI N) x1) (wr f1 (nI N) (-1)) (wr f2 (nI N) 0) (x_wp (wr f1 (nI N) (-1)) f3 (N + 1)) (x_wh (wr f0 (nI N) x1) (wr f1 (nI N) (-1)) (wr f2 (nI N) 0) (x_wp (wr f1 (nI N) (-1)) f3 (N + 1)) f4 (x_wn (wr f1 (nI N) (-1)) (N + 1))) (vp_updL fo 0 (((nI N)).toInt64)))) (W2 := (lw cI cJ ad o (nI (N + 1)) (nI (x_wn (wr f1 (nI N) (-1)) (N + 1))) (nI (x_tcn (wr f0 (nI N) x1) (wr f1 (nI N) (-1)) (wr f2 (nI N) 0) (x_wp (wr f1 (nI N) (-1)) f3 (N + 1)) (x_wn (wr f1 (nI N) (-1)) (N + 1)))) pa pe (wr f0 (nI N) x1) (wr f1 (nI N) (-1)) (wr f2 (nI N) 0) (x_wp (wr f1 (nI N) (-1)) f3 (N + 1)) (x_wh (wr f0 (nI N) x1) (wr f1 (nI N) (-1)) (wr f2 (nI N) 0) (x_wp (wr f1 (nI N) (-1)) f3 (N + 1)) f4 (x_wn (wr f1 (nI N) (-1)) (N + 1))) (vp_updL fo 0 (((nI N)).toInt64)) ++ mw cI cZ ad2 0 (nI (N + 1)) pa pe (upd g0 N (-1)) (upd g1 N x1) (upd g2 N 0))) ⟨hx, hb, hml, hown, hts⟩ (c_X1_cough_ok l D cI cZ ad2 th N pa pe g0 g1 g2 hN x1 hm hlt) (cwV 1 hts gL_law_X1_cough rfl rfl rfl kv_X1_cough ⟨Nat.le_of_ble_eq_true rfl, Nat.le_of_ble_eq_true rfl⟩) (va_recv hK hP (ci := 1) (q0 := 7) rfl rfl) hP hD (hK.sub [0, 2] rfl) hA [7, 8, 9, 10] [0, 1, 2, 3, 4, 5, 6] [0, 1, 2, 3, 4, 5, 6, 7, 8, 9, 10] rfl rfl rfl rfl rfl (by decide) rfl rfl rfl hl.1 rfl (Nat.le_of_ble_eq_true rfl) dL_law_288 (show cells ≤ 650192 by omega) (show slots ≤ 7145529 by omega) hS (fun H locs hP hS => ?_)
      have hD : va_D (lA s) (lw cI cJ ad o (nI (N + 1)) (nI (x_wn (wr f1 (nI N) (-1)) (N + 1))) (nI (x_tcn (wr f0 (nI N) x1) (wr f1 (nI N) (-1)) (wr f2 (nI N) 0) (x_wp (wr f1 (nI N) (-1)) f3 (N + 1)) (x_wn (wr f1 (nI N) (-1)) (N + 1)))) pa pe (wr f0 (nI N) x1) (wr f1 (nI N) (-1)) (wr f2 (nI N) 0) (x_wp (wr f1 (nI N) (-1)) f3 (N + 1)) (x_wh (wr f0 (nI N) x1) (wr f1 (nI N) (-1)) (wr f2 (nI N) 0) (x_wp (wr f1 (nI N) (-1)) f3 (N + 1)) f4 (x_wn (wr f1 (nI N) (-1)) (N + 1))) (vp_updL fo 0 (((nI N)).toInt64)) ++ mw cI cZ ad2 0 (nI (N + 1)) pa pe (upd g0 N (-1)) (upd g1 N x1) (upd g2 N 0)) := q_Dc (L := [ad 0, ad 1, ad 2, ad 3, ad 4, ad 5, o, ad2 0, ad2 1, ad2 2, ad2 3]) hD rfl rfl
      refine lv_istore (lv' := [(6, .int (nI N)), (5, .int 0), (4, .int (nI i)), (3, .ref o), (2, .ref (ad2 0)), (1, .ref (ad 0)), (0, .ref b)]) hx hb dL_law_291 hl (by decide) rfl (fun ls hl => ?_)
      refine lv_aload_n hx hb dL_law_293 rfl (lv_at hl 4 rfl) ?_
      refine q_callV (As := []) (rest := []) ⟨hx, hb, hml, hown, hts⟩ (c_X1_thrown l D cI cZ ad2 0 (N + 1) pa pe (upd g0 N (-1)) (upd g1 N x1) (upd g2 N 0) (by omega)) (cwV 0 hts gL_law_X1_thrown rfl rfl rfl kv_X1_thrown ⟨Nat.le_of_ble_eq_true rfl, Nat.le_of_ble_eq_true rfl⟩) (va_recv hK hP (ci := 1) (q0 := 7) rfl rfl) (hP.sub [7, 8, 9, 10] rfl) (hK.sub [0, 2] rfl) rfl hl.1 rfl (Nat.le_of_ble_eq_true rfl) dL_law_294 (show cells ≤ 650192 by omega) (show slots ≤ 7145529 by omega) hS (fun H locs hsm hS => ?_)
      have hP := hsm.P hP
      refine lv_iload hx hb dL_law_297 (lv_at hl 1 rfl) ?_
      refine lv_icmp_eq (tgt := 304) hx hb dL_law_299 (by decide) (fun _ => ?_) (fun h9 => absurd rfl h9)
      refine lv_iload hx hb dL_law_304 (lv_at hl 1 rfl) ?_
      refine lv_if_ne (tgt := 321) hx hb dL_law_306 (by decide) (fun h9 => absurd (by decide) h9) (fun _ => ?_)
      refine lv_aload_n hx hb dL_law_309 rfl (lv_at hl 3 rfl) ?_
      refine lv_iconst (v := 0) hx hb dL_law_310 (by decide) ?_
      refine va_lald hx hb hK hP 6 1 rfl rfl (vp_in_nI (n := 0) (by decide) (by decide)) dL_law_311 ?_
      rw [upd0]
      refine lv_iload hx hb dL_law_312 (lv_at hl 0 rfl) ?_
      refine lv_i2l (v := ((nI N)).toInt64) hx hb dL_law_314 rfl ?_
      refine l_lcmp0 hx hb (rfl) dL_law_315 ?_
      refine lv_if_eq (tgt := 321) hx hb dL_law_316 (by decide) (fun _ => ?_) (fun h9 => absurd rfl h9)
      refine lv_goto (tgt := 1808) hx hb dL_law_321 (by decide) ?_
      refine W.widen (k := cells + 24) (n := slots + 125) (by omega) (by omega) ?_
      exact kk _ _ _ _ _ _ _ _ _ _ _ _ _ _ _ H locs ls (h2) (h2.recount rfl) hP hD hS (lv_sub hl [2, 3, 4, 5, 6] rfl)

set_option maxHeartbeats 4000000 in
set_option maxRecDepth 100000 in
theorem law_removeCough {p : Program} {l : Launch} {e : Env} {s : State} {m : MethodId} {args : Array Value} {below : List Frame} {meth : Method} {c : Code} {b L : Nat} {xs : Nat → Int32} {D : va_G} {cI cJ cZ : ClassId} {sa ad ad2 : Nat → Nat} {o cells slots i : Nat} {Q : State → Prop}
    (C : law_C p l s m c args b L xs D cI cJ cZ sa) (kk : law_K p l e s m args below meth c b D cI cJ cZ ad ad2 o cells slots Q i) {N : Nat} {w t pa pe : Int32} {f0 f1 f2 f3 f4 : Nat → Int32} {fo : Nat → Int64} {th : Int32} {g0 g1 g2 : Nat → Int32} {H : Heap} {locs : List Loc} {ls : Array Slot}
    (h : Ra N f0 f1 f2 g0 g1 g2) (r : Rw N f3 f4 g0 g1 g2 w t) (hP : va_P D vwCl (lW cI cJ cZ ad ad2 o (nI N) w t pa pe f0 f1 f2 f3 f4 fo th g0 g1 g2) H) (hD : va_D (lA s) (lW cI cJ cZ ad ad2 o (nI N) w t pa pe f0 f1 f2 f3 f4 fo th g0 g1 g2)) (hS : va_S (lA s) s.heap H locs) (hl : lv_has ls 9 (law_L b ad ad2 o i))
    (hi : i + 2 < L) (hc : cells + 24 ≤ 650192) (hs : slots + 125 ≤ 7145529) : W p l e room_1 s m args below meth c H locs cells slots Q (F0 m 324 ls []) := by
  obtain ⟨hx, hb, hml, hown, hts, hX, hbl, hK, hZ, hN9, hst, hL⟩ := C
  have ew := r.ww
  have et := r.tt
  subst ew
  subst et
  have q := r.rp
  have hN := h.n
  have hn : m_n g0 N ≤ 24 := Nat.le_trans (m_n_le g0 N) hN
  have ht : m_tn g0 g1 g2 N ≤ 24 := by
    have h9 := m_ab_lt (g0 := g0) (g1 := g1) (g2 := g2) hN
    unfold m_tn
    split <;> omega
  have hA : ∀ q : Nat, s.heap.size ≤ q → lA s q := fun _ h => h
  obtain ⟨x1, e1⟩ : ∃ x1, xs (i + 1) = x1 := ⟨_, rfl⟩
  obtain ⟨x2, e2⟩ : ∃ x2, xs (i + 2) = x2 := ⟨_, rfl⟩
  have hl : lv_has ls 9 [(4, .int (nI i)), (3, .ref o), (2, .ref (ad2 0)), (1, .ref (ad 0)), (0, .ref b)] := hl
  cases hm : m_in x1 0 (nI N - 1) with
  | false =>
    refine lv_aload_n hx hb dL_law_324 rfl (lv_at hl 3 rfl) ?_
    refine l_arg (k := 1) hx hb hX hbl hS (by omega) hL rfl e1 (lv_at hl 4 rfl) (lv_at hl 0 rfl) dL_law_325 dL_law_326 dL_law_328 dL_law_329 dL_law_330 ?_
    refine lv_aload_n hx hb dL_law_331 rfl (lv_at hl 1 rfl) ?_
    refine l_callE (As := [.ref (ad 0), .int x1, .ref o]) (rest := []) ⟨hx, hb, hml, hown, hts⟩ (t_L_removeCough_1 l D sa hst cI cJ ad o N (nI (m_n g0 N)) (nI (m_tn g0 g1 g2 N)) pa pe f0 f1 f2 f3 f4 x1 (in_place0 hN hm) fo) (vx_cwSW 3 hts gL_law_L_removeCough rfl rfl rfl kq_L_removeCough ⟨Nat.le_of_ble_eq_true rfl, Nat.le_of_ble_eq_true rfl⟩) (hP.sub [0, 1, 2, 3, 4, 5, 6] rfl) (hK.sub [0, 1] rfl) (hZ.kept fun a ha => hS.2.1 a ha (Nat.not_le.mpr ha)) hN9 rfl hl.1 rfl (Nat.le_of_ble_eq_true rfl) dL_law_332 (show cells + 1 ≤ 650192 by omega) (show slots + 6 ≤ 7145529 by omega) hS (fun H locs hsm hS => ?_)
    have hP := hsm.P hP
    refine lv_istore (lv' := [(5, .int 1), (4, .int (nI i)), (3, .ref o), (2, .ref (ad2 0)), (1, .ref (ad 0)), (0, .ref b)]) hx hb dL_law_335 hl (by decide) rfl (fun ls hl => ?_)
    refine lv_aload_n hx hb dL_law_337 rfl (lv_at hl 3 rfl) ?_
    refine l_arg (k := 1) hx hb hX hbl hS (by omega) hL rfl e1 (lv_at hl 5 rfl) (lv_at hl 1 rfl) dL_law_338 dL_law_339 dL_law_341 dL_law_342 dL_law_343 ?_
    refine m_callVI (As := [.int x1]) (rest := []) (Wr := (lw cI cJ ad o (nI N) (nI (m_n g0 N)) (nI (m_tn g0 g1 g2 N)) pa pe f0 f1 f2 f3 f4 fo)) (W2 := (lw cI cJ ad o (nI N) (nI (m_n g0 N)) (nI (m_tn g0 g1 g2 N)) pa pe f0 f1 f2 f3 f4 fo ++ mw cI cZ ad2 1 (nI N) pa pe g0 g1 g2)) ⟨hx, hb, hml, hown, hts⟩ (c_X1_removeCough_1 l D cI cZ ad2 th N pa pe g0 g1 g2 hN x1 hm) (cwV 1 hts gL_law_X1_removeCough rfl rfl rfl kv_X1_removeCough ⟨Nat.le_of_ble_eq_true rfl, Nat.le_of_ble_eq_true rfl⟩) (va_recv hK hP (ci := 1) (q0 := 7) rfl rfl) hP hD (hK.sub [0, 2] rfl) hA [7, 8, 9, 10] [0, 1, 2, 3, 4, 5, 6] [0, 1, 2, 3, 4, 5, 6, 7, 8, 9, 10] rfl rfl rfl rfl rfl (by decide) rfl rfl rfl hl.1 rfl (Nat.le_of_ble_eq_true rfl) dL_law_344 (show cells + 1 ≤ 650192 by omega) (show slots + 6 ≤ 7145529 by omega) hS (fun H locs hP hS => ?_)
    have hD : va_D (lA s) (lw cI cJ ad o (nI N) (nI (m_n g0 N)) (nI (m_tn g0 g1 g2 N)) pa pe f0 f1 f2 f3 f4 fo ++ mw cI cZ ad2 1 (nI N) pa pe g0 g1 g2) := q_Dc (L := [ad 0, ad 1, ad 2, ad 3, ad 4, ad 5, o, ad2 0, ad2 1, ad2 2, ad2 3]) hD rfl rfl
    refine lv_istore (lv' := [(6, .int 0), (5, .int 1), (4, .int (nI i)), (3, .ref o), (2, .ref (ad2 0)), (1, .ref (ad 0)), (0, .ref b)]) hx hb dL_law_347 hl (by decide) rfl (fun ls hl => ?_)
    refine lv_aload_n hx hb dL_law_349 rfl (lv_at hl 4 rfl) ?_
    refine q_callV (As := []) (rest := []) ⟨hx, hb, hml, hown, hts⟩ (c_X1_thrown l D cI cZ ad2 1 N pa pe g0 g1 g2 (by omega)) (cwV 0 hts gL_law_X1_thrown rfl rfl rfl kv_X1_thrown ⟨Nat.le_of_ble_eq_true rfl, Nat.le_of_ble_eq_true rfl⟩) (va_recv hK hP (ci := 1) (q0 := 7) rfl rfl) (hP.sub [7, 8, 9, 10] rfl) (hK.sub [0, 2] rfl) rfl hl.1 rfl (Nat.le_of_ble_eq_true rfl) dL_law_350 (show cells + 1 ≤ 650192 by omega) (show slots + 6 ≤ 7145529 by omega) hS (fun H locs hsm hS => ?_)
    have hP := hsm.P hP
    refine lv_iload hx hb dL_law_353 (lv_at hl 1 rfl) ?_
    refine lv_icmp_eq (tgt := 360) hx hb dL_law_355 (by decide) (fun _ => ?_) (fun h9 => absurd rfl h9)
    refine lv_iload hx hb dL_law_360 (lv_at hl 1 rfl) ?_
    refine lv_if_ne (tgt := 377) hx hb dL_law_362 (by decide) (fun _ => ?_) (fun h9 => absurd h9 (by decide))
    refine lv_goto (tgt := 1808) hx hb dL_law_377 (by decide) ?_
    refine W.widen (k := cells + 24) (n := slots + 125) (by omega) (by omega) ?_
    exact kk _ _ _ _ _ _ _ _ _ _ _ _ _ _ _ H locs ls (h) (r) hP hD hS (lv_sub hl [2, 3, 4, 5, 6] rfl)
  | true =>
    obtain ⟨k, hk, rfl⟩ := in_place1 hN hm
    have hi9 := place_in hN hk
    by_cases hz : 0 ≤ g0 k
    · refine lv_aload_n hx hb dL_law_324 rfl (lv_at hl 3 rfl) ?_
      refine l_arg (k := 1) hx hb hX hbl hS (by omega) hL rfl e1 (lv_at hl 4 rfl) (lv_at hl 0 rfl) dL_law_325 dL_law_326 dL_law_328 dL_law_329 dL_law_330 ?_
      refine lv_aload_n hx hb dL_law_331 rfl (lv_at hl 1 rfl) ?_
      refine l_callE (As := [.ref (ad 0), .int (nI k), .ref o]) (rest := []) ⟨hx, hb, hml, hown, hts⟩ (t_L_removeCough_2 l D sa hst cI cJ ad o N (nI (m_n g0 N)) (nI (m_tn g0 g1 g2 N)) pa pe f0 f1 f2 f3 f4 (nI k) hi9.1 hi9.2 (h.cs0 hk hz) fo) (vx_cwSW 3 hts gL_law_L_removeCough rfl rfl rfl kq_L_removeCough ⟨Nat.le_of_ble_eq_true rfl, Nat.le_of_ble_eq_true rfl⟩) (hP.sub [0, 1, 2, 3, 4, 5, 6] rfl) (hK.sub [0, 1] rfl) (hZ.kept fun a ha => hS.2.1 a ha (Nat.not_le.mpr ha)) hN9 rfl hl.1 rfl (Nat.le_of_ble_eq_true rfl) dL_law_332 (show cells + 1 ≤ 650192 by omega) (show slots + 6 ≤ 7145529 by omega) hS (fun H locs hsm hS => ?_)
      have hP := hsm.P hP
      refine lv_istore (lv' := [(5, .int 2), (4, .int (nI i)), (3, .ref o), (2, .ref (ad2 0)), (1, .ref (ad 0)), (0, .ref b)]) hx hb dL_law_335 hl (by decide) rfl (fun ls hl => ?_)
      refine lv_aload_n hx hb dL_law_337 rfl (lv_at hl 3 rfl) ?_
      refine l_arg (k := 1) hx hb hX hbl hS (by omega) hL rfl e1 (lv_at hl 5 rfl) (lv_at hl 1 rfl) dL_law_338 dL_law_339 dL_law_341 dL_law_342 dL_law_343 ?_
      refine m_callVI (As := [.int (nI k)]) (rest := []) (Wr := (lw cI cJ ad o (nI N) (nI (m_n g0 N)) (nI (m_tn g0 g1 g2 N)) pa pe f0 f1 f2 f3 f4 fo)) (W2 := (lw cI cJ ad o (nI N) (nI (m_n g0 N)) (nI (m_tn g0 g1 g2 N)) pa pe f0 f1 f2 f3 f4 fo ++ mw cI cZ ad2 2 (nI N) pa pe g0 g1 g2)) ⟨hx, hb, hml, hown, hts⟩ (c_X1_removeCough_2 l D cI cZ ad2 th N pa pe g0 g1 g2 hN k hk hm hz) (cwV 1 hts gL_law_X1_removeCough rfl rfl rfl kv_X1_removeCough ⟨Nat.le_of_ble_eq_true rfl, Nat.le_of_ble_eq_true rfl⟩) (va_recv hK hP (ci := 1) (q0 := 7) rfl rfl) hP hD (hK.sub [0, 2] rfl) hA [7, 8, 9, 10] [0, 1, 2, 3, 4, 5, 6] [0, 1, 2, 3, 4, 5, 6, 7, 8, 9, 10] rfl rfl rfl rfl rfl (by decide) rfl rfl rfl hl.1 rfl (Nat.le_of_ble_eq_true rfl) dL_law_344 (show cells + 1 ≤ 650192 by omega) (show slots + 6 ≤ 7145529 by omega) hS (fun H locs hP hS => ?_)
      have hD : va_D (lA s) (lw cI cJ ad o (nI N) (nI (m_n g0 N)) (nI (m_tn g0 g1 g2 N)) pa pe f0 f1 f2 f3 f4 fo ++ mw cI cZ ad2 2 (nI N) pa pe g0 g1 g2) := q_Dc (L := [ad 0, ad 1, ad 2, ad 3, ad 4, ad 5, o, ad2 0, ad2 1, ad2 2, ad2 3]) hD rfl rfl
      refine lv_istore (lv' := [(6, .int 0), (5, .int 2), (4, .int (nI i)), (3, .ref o), (2, .ref (ad2 0)), (1, .ref (ad 0)), (0, .ref b)]) hx hb dL_law_347 hl (by decide) rfl (fun ls hl => ?_)
      refine lv_aload_n hx hb dL_law_349 rfl (lv_at hl 4 rfl) ?_
      refine q_callV (As := []) (rest := []) ⟨hx, hb, hml, hown, hts⟩ (c_X1_thrown l D cI cZ ad2 2 N pa pe g0 g1 g2 (by omega)) (cwV 0 hts gL_law_X1_thrown rfl rfl rfl kv_X1_thrown ⟨Nat.le_of_ble_eq_true rfl, Nat.le_of_ble_eq_true rfl⟩) (va_recv hK hP (ci := 1) (q0 := 7) rfl rfl) (hP.sub [7, 8, 9, 10] rfl) (hK.sub [0, 2] rfl) rfl hl.1 rfl (Nat.le_of_ble_eq_true rfl) dL_law_350 (show cells + 1 ≤ 650192 by omega) (show slots + 6 ≤ 7145529 by omega) hS (fun H locs hsm hS => ?_)
      have hP := hsm.P hP
      refine lv_iload hx hb dL_law_353 (lv_at hl 1 rfl) ?_
      refine lv_icmp_eq (tgt := 360) hx hb dL_law_355 (by decide) (fun _ => ?_) (fun h9 => absurd rfl h9)
      refine lv_iload hx hb dL_law_360 (lv_at hl 1 rfl) ?_
      refine lv_if_ne (tgt := 377) hx hb dL_law_362 (by decide) (fun _ => ?_) (fun h9 => absurd h9 (by decide))
      refine lv_goto (tgt := 1808) hx hb dL_law_377 (by decide) ?_
      refine W.widen (k := cells + 24) (n := slots + 125) (by omega) (by omega) ?_
      exact kk _ _ _ _ _ _ _ _ _ _ _ _ _ _ _ H locs ls (h) (r) hP hD hS (lv_sub hl [2, 3, 4, 5, 6] rfl)
    · by_cases hp : 1 ≤ pa
      · have h2 := h.rem hk
        refine lv_aload_n hx hb dL_law_324 rfl (lv_at hl 3 rfl) ?_
        refine l_arg (k := 1) hx hb hX hbl hS (by omega) hL rfl e1 (lv_at hl 4 rfl) (lv_at hl 0 rfl) dL_law_325 dL_law_326 dL_law_328 dL_law_329 dL_law_330 ?_
        refine lv_aload_n hx hb dL_law_331 rfl (lv_at hl 1 rfl) ?_
        refine l_callI (As := [.ref (ad 0), .int (nI k), .ref o]) (rest := []) (Wr := [(ad2 0, .inr (1, [.int th, .int (nI N), .int pa, .int pe, .ref (ad2 1), .ref (ad2 2), .ref (ad2 3)])), (ad2 1, .inl (cI, 25, .inl g0)), (ad2 2, .inl (cI, 25, .inl g1)), (ad2 3, .inl (cZ, 25, .inl g2))]) (W2 := (lw cI cJ ad o (nI (N - 1)) (nI (x_wn (x_mu f1 k (N - 1 - k)) (N - 1))) (nI (x_tcn (x_mu f0 k (N - 1 - k)) (x_mu f1 k (N - 1 - k)) (x_mu f2 k (N - 1 - k)) (x_wp (x_mu f1 k (N - 1 - k)) f3 (N - 1)) (x_wn (x_mu f1 k (N - 1 - k)) (N - 1)))) (pa - 1) (pe + 1) (x_mu f0 k (N - 1 - k)) (x_mu f1 k (N - 1 - k)) (x_mu f2 k (N - 1 - k)) (x_wp (x_mu f1 k (N - 1 - k)) f3 (N - 1)) (x_wh (x_mu f0 k (N - 1 - k)) (x_mu f1 k (N - 1 - k)) (x_mu f2 k (N - 1 - k)) (x_wp (x_mu f1 k (N - 1 - k)) f3 (N - 1)) f4 (x_wn (x_mu f1 k (N - 1 - k)) (N - 1))) (vp_updL fo 0 (((nI (N - 1))).toInt64)) ++ [(ad2 0, .inr (1, [.int th, .int (nI N), .int pa, .int pe, .ref (ad2 1), .ref (ad2 2), .ref (ad2 3)])), (ad2 1, .inl (cI, 25, .inl g0)), (ad2 2, .inl (cI, 25, .inl g1)), (ad2 3, .inl (cZ, 25, .inl g2))])) ⟨hx, hb, hml, hown, hts⟩ (c_L_removeCough l D cI cJ ad o N (nI (m_n g0 N)) (nI (m_tn g0 g1 g2 N)) pa pe f0 f1 f2 f3 f4 k hi9.1 hi9.2 (h.cs1 hk hz) hp hN hk fo) (vx_cwSW 3 hts gL_law_L_removeCough rfl rfl rfl kq_L_removeCough ⟨Nat.le_of_ble_eq_true rfl, Nat.le_of_ble_eq_true rfl⟩) hP hD (hK.sub [0, 1] rfl) hA [0, 1, 2, 3, 4, 5, 6] [7, 8, 9, 10] [4, 5, 6, 7, 8, 9, 10, 0, 1, 2, 3] rfl rfl rfl rfl rfl (by decide) rfl rfl rfl hl.1 rfl (Nat.le_of_ble_eq_true rfl) dL_law_332 (show cells ≤ 650192 by omega) (show slots ≤ 7145529 by omega) hS (fun H locs hP hS => ?_)
        have hD : va_D (lA s) (lw cI cJ ad o (nI (N - 1)) (nI (x_wn (x_mu f1 k (N - 1 - k)) (N - 1))) (nI (x_tcn (x_mu f0 k (N - 1 - k)) (x_mu f1 k (N - 1 - k)) (x_mu f2 k (N - 1 - k)) (x_wp (x_mu f1 k (N - 1 - k)) f3 (N - 1)) (x_wn (x_mu f1 k (N - 1 - k)) (N - 1)))) (pa - 1) (pe + 1) (x_mu f0 k (N - 1 - k)) (x_mu f1 k (N - 1 - k)) (x_mu f2 k (N - 1 - k)) (x_wp (x_mu f1 k (N - 1 - k)) f3 (N - 1)) (x_wh (x_mu f0 k (N - 1 - k)) (x_mu f1 k (N - 1 - k)) (x_mu f2 k (N - 1 - k)) (x_wp (x_mu f1 k (N - 1 - k)) f3 (N - 1)) f4 (x_wn (x_mu f1 k (N - 1 - k)) (N - 1))) (vp_updL fo 0 (((nI (N - 1))).toInt64)) ++ [(ad2 0, .inr (1, [.int th, .int (nI N), .int pa, .int pe, .ref (ad2 1), .ref (ad2 2), .ref (ad2 3)])), (ad2 1, .inl (cI, 25, .inl g0)), (ad2 2, .inl (cI, 25, .inl g1)), (ad2 3, .inl (cZ, 25, .inl g2))]) := q_Dc (L := [ad 0, ad 1, ad 2, ad 3, ad 4, ad 5, o, ad2 0, ad2 1, ad2 2, ad2 3]) hD rfl rfl
        refine lv_istore (lv' := [(5, .int 0), (4, .int (nI i)), (3, .ref o), (2, .ref (ad2 0)), (1, .ref (ad 0)), (0, .ref b)]) hx hb dL_law_335 hl (by decide) rfl (fun ls hl => ?_)
        refine lv_aload_n hx hb dL_law_337 rfl (lv_at hl 3 rfl) ?_
        refine l_arg (k := 1) hx hb hX hbl hS (by omega) hL rfl e1 (lv_at hl 5 rfl) (lv_at hl 1 rfl) dL_law_338 dL_law_339 dL_law_341 dL_law_342 dL_law_343 ?_
        refine m_callVI (As := [.int (nI k)]) (rest := []) (Wr := (lw cI cJ ad o (nI (N - 1)) (nI (x_wn (x_mu f1 k (N - 1 - k)) (N - 1))) (nI (x_tcn (x_mu f0 k (N - 1 - k)) (x_mu f1 k (N - 1 - k)) (x_mu f2 k (N - 1 - k)) (x_wp (x_mu f1 k (N - 1 - k)) f3 (N - 1)) (x_wn (x_mu f1 k (N - 1 - k)) (N - 1)))) (pa - 1) (pe + 1) (x_mu f0 k (N - 1 - k)) (x_mu f1 k (N - 1 - k)) (x_mu f2 k (N - 1 - k)) (x_wp (x_mu f1 k (N - 1 - k)) f3 (N - 1)) (x_wh (x_mu f0 k (N - 1 - k)) (x_mu f1 k (N - 1 - k)) (x_mu f2 k (N - 1 - k)) (x_wp (x_mu f1 k (N - 1 - k)) f3 (N - 1)) f4 (x_wn (x_mu f1 k (N - 1 - k)) (N - 1))) (vp_updL fo 0 (((nI (N - 1))).toInt64)))) (W2 := (lw cI cJ ad o (nI (N - 1)) (nI (x_wn (x_mu f1 k (N - 1 - k)) (N - 1))) (nI (x_tcn (x_mu f0 k (N - 1 - k)) (x_mu f1 k (N - 1 - k)) (x_mu f2 k (N - 1 - k)) (x_wp (x_mu f1 k (N - 1 - k)) f3 (N - 1)) (x_wn (x_mu f1 k (N - 1 - k)) (N - 1)))) (pa - 1) (pe + 1) (x_mu f0 k (N - 1 - k)) (x_mu f1 k (N - 1 - k)) (x_mu f2 k (N - 1 - k)) (x_wp (x_mu f1 k (N - 1 - k)) f3 (N - 1)) (x_wh (x_mu f0 k (N - 1 - k)) (x_mu f1 k (N - 1 - k)) (x_mu f2 k (N - 1 - k)) (x_wp (x_mu f1 k (N - 1 - k)) f3 (N - 1)) f4 (x_wn (x_mu f1 k (N - 1 - k)) (N - 1))) (vp_updL fo 0 (((nI (N - 1))).toInt64)) ++ mw cI cZ ad2 0 (nI (N - 1)) (pa - 1) (pe + 1) (va_cpy g0 g0 (k + 1) k (N - (k + 1))) (va_cpy g1 g1 (k + 1) k (N - (k + 1))) (va_cpy g2 g2 (k + 1) k (N - (k + 1))))) ⟨hx, hb, hml, hown, hts⟩ (c_X1_removeCough_ok l D cI cZ ad2 th N pa pe g0 g1 g2 hN k hk hm hz hp h.fit) (cwV 1 hts gL_law_X1_removeCough rfl rfl rfl kv_X1_removeCough ⟨Nat.le_of_ble_eq_true rfl, Nat.le_of_ble_eq_true rfl⟩) (va_recv hK hP (ci := 1) (q0 := 7) rfl rfl) hP hD (hK.sub [0, 2] rfl) hA [7, 8, 9, 10] [0, 1, 2, 3, 4, 5, 6] [0, 1, 2, 3, 4, 5, 6, 7, 8, 9, 10] rfl rfl rfl rfl rfl (by decide) rfl rfl rfl hl.1 rfl (Nat.le_of_ble_eq_true rfl) dL_law_344 (show cells ≤ 650192 by omega) (show slots ≤ 7145529 by omega) hS (fun H locs hP hS => ?_)
        have hD : va_D (lA s) (lw cI cJ ad o (nI (N - 1)) (nI (x_wn (x_mu f1 k (N - 1 - k)) (N - 1))) (nI (x_tcn (x_mu f0 k (N - 1 - k)) (x_mu f1 k (N - 1 - k)) (x_mu f2 k (N - 1 - k)) (x_wp (x_mu f1 k (N - 1 - k)) f3 (N - 1)) (x_wn (x_mu f1 k (N - 1 - k)) (N - 1)))) (pa - 1) (pe + 1) (x_mu f0 k (N - 1 - k)) (x_mu f1 k (N - 1 - k)) (x_mu f2 k (N - 1 - k)) (x_wp (x_mu f1 k (N - 1 - k)) f3 (N - 1)) (x_wh (x_mu f0 k (N - 1 - k)) (x_mu f1 k (N - 1 - k)) (x_mu f2 k (N - 1 - k)) (x_wp (x_mu f1 k (N - 1 - k)) f3 (N - 1)) f4 (x_wn (x_mu f1 k (N - 1 - k)) (N - 1))) (vp_updL fo 0 (((nI (N - 1))).toInt64)) ++ mw cI cZ ad2 0 (nI (N - 1)) (pa - 1) (pe + 1) (va_cpy g0 g0 (k + 1) k (N - (k + 1))) (va_cpy g1 g1 (k + 1) k (N - (k + 1))) (va_cpy g2 g2 (k + 1) k (N - (k + 1)))) := q_Dc (L := [ad 0, ad 1, ad 2, ad 3, ad 4, ad 5, o, ad2 0, ad2 1, ad2 2, ad2 3]) hD rfl rfl
        refine lv_istore (lv' := [(6, .int (nI (N - 1))), (5, .int 0), (4, .int (nI i)), (3, .ref o), (2, .ref (ad2 0)), (1, .ref (ad 0)), (0, .ref b)]) hx hb dL_law_347 hl (by decide) rfl (fun ls hl => ?_)
        refine lv_aload_n hx hb dL_law_349 rfl (lv_at hl 4 rfl) ?_
        refine q_callV (As := []) (rest := []) ⟨hx, hb, hml, hown, hts⟩ (c_X1_thrown l D cI cZ ad2 0 (N - 1) (pa - 1) (pe + 1) (va_cpy g0 g0 (k + 1) k (N - (k + 1))) (va_cpy g1 g1 (k + 1) k (N - (k + 1))) (va_cpy g2 g2 (k + 1) k (N - (k + 1))) (by omega)) (cwV 0 hts gL_law_X1_thrown rfl rfl rfl kv_X1_thrown ⟨Nat.le_of_ble_eq_true rfl, Nat.le_of_ble_eq_true rfl⟩) (va_recv hK hP (ci := 1) (q0 := 7) rfl rfl) (hP.sub [7, 8, 9, 10] rfl) (hK.sub [0, 2] rfl) rfl hl.1 rfl (Nat.le_of_ble_eq_true rfl) dL_law_350 (show cells ≤ 650192 by omega) (show slots ≤ 7145529 by omega) hS (fun H locs hsm hS => ?_)
        have hP := hsm.P hP
        refine lv_iload hx hb dL_law_353 (lv_at hl 1 rfl) ?_
        refine lv_icmp_eq (tgt := 360) hx hb dL_law_355 (by decide) (fun _ => ?_) (fun h9 => absurd rfl h9)
        refine lv_iload hx hb dL_law_360 (lv_at hl 1 rfl) ?_
        refine lv_if_ne (tgt := 377) hx hb dL_law_362 (by decide) (fun h9 => absurd (by decide) h9) (fun _ => ?_)
        refine lv_aload_n hx hb dL_law_365 rfl (lv_at hl 3 rfl) ?_
        refine lv_iconst (v := 0) hx hb dL_law_366 (by decide) ?_
        refine va_lald hx hb hK hP 6 1 rfl rfl (vp_in_nI (n := 0) (by decide) (by decide)) dL_law_367 ?_
        rw [upd0]
        refine lv_iload hx hb dL_law_368 (lv_at hl 0 rfl) ?_
        refine lv_i2l (v := ((nI (N - 1))).toInt64) hx hb dL_law_370 rfl ?_
        refine l_lcmp0 hx hb (rfl) dL_law_371 ?_
        refine lv_if_eq (tgt := 377) hx hb dL_law_372 (by decide) (fun _ => ?_) (fun h9 => absurd rfl h9)
        refine lv_goto (tgt := 1808) hx hb dL_law_377 (by decide) ?_
        refine W.widen (k := cells + 24) (n := slots + 125) (by omega) (by omega) ?_
        exact kk _ _ _ _ _ _ _ _ _ _ _ _ _ _ _ H locs ls (h2) (h2.recount rfl) hP hD hS (lv_sub hl [2, 3, 4, 5, 6] rfl)
      · refine lv_aload_n hx hb dL_law_324 rfl (lv_at hl 3 rfl) ?_
        refine l_arg (k := 1) hx hb hX hbl hS (by omega) hL rfl e1 (lv_at hl 4 rfl) (lv_at hl 0 rfl) dL_law_325 dL_law_326 dL_law_328 dL_law_329 dL_law_330 ?_
        refine lv_aload_n hx hb dL_law_331 rfl (lv_at hl 1 rfl) ?_
        refine l_callE (As := [.ref (ad 0), .int (nI k), .ref o]) (rest := []) ⟨hx, hb, hml, hown, hts⟩ (t_L_removeCough_3 l D sa hst cI cJ ad o N (nI (m_n g0 N)) (nI (m_tn g0 g1 g2 N)) pa pe f0 f1 f2 f3 f4 (nI k) hi9.1 hi9.2 (h.cs1 hk hz) hp fo) (vx_cwSW 3 hts gL_law_L_removeCough rfl rfl rfl kq_L_removeCough ⟨Nat.le_of_ble_eq_true rfl, Nat.le_of_ble_eq_true rfl⟩) (hP.sub [0, 1, 2, 3, 4, 5, 6] rfl) (hK.sub [0, 1] rfl) (hZ.kept fun a ha => hS.2.1 a ha (Nat.not_le.mpr ha)) hN9 rfl hl.1 rfl (Nat.le_of_ble_eq_true rfl) dL_law_332 (show cells + 1 ≤ 650192 by omega) (show slots + 6 ≤ 7145529 by omega) hS (fun H locs hsm hS => ?_)
        have hP := hsm.P hP
        refine lv_istore (lv' := [(5, .int 2), (4, .int (nI i)), (3, .ref o), (2, .ref (ad2 0)), (1, .ref (ad 0)), (0, .ref b)]) hx hb dL_law_335 hl (by decide) rfl (fun ls hl => ?_)
        refine lv_aload_n hx hb dL_law_337 rfl (lv_at hl 3 rfl) ?_
        refine l_arg (k := 1) hx hb hX hbl hS (by omega) hL rfl e1 (lv_at hl 5 rfl) (lv_at hl 1 rfl) dL_law_338 dL_law_339 dL_law_341 dL_law_342 dL_law_343 ?_
        refine m_callVI (As := [.int (nI k)]) (rest := []) (Wr := (lw cI cJ ad o (nI N) (nI (m_n g0 N)) (nI (m_tn g0 g1 g2 N)) pa pe f0 f1 f2 f3 f4 fo)) (W2 := (lw cI cJ ad o (nI N) (nI (m_n g0 N)) (nI (m_tn g0 g1 g2 N)) pa pe f0 f1 f2 f3 f4 fo ++ mw cI cZ ad2 2 (nI N) pa pe g0 g1 g2)) ⟨hx, hb, hml, hown, hts⟩ (c_X1_removeCough_3 l D cI cZ ad2 th N pa pe g0 g1 g2 hN k hk hm hz hp) (cwV 1 hts gL_law_X1_removeCough rfl rfl rfl kv_X1_removeCough ⟨Nat.le_of_ble_eq_true rfl, Nat.le_of_ble_eq_true rfl⟩) (va_recv hK hP (ci := 1) (q0 := 7) rfl rfl) hP hD (hK.sub [0, 2] rfl) hA [7, 8, 9, 10] [0, 1, 2, 3, 4, 5, 6] [0, 1, 2, 3, 4, 5, 6, 7, 8, 9, 10] rfl rfl rfl rfl rfl (by decide) rfl rfl rfl hl.1 rfl (Nat.le_of_ble_eq_true rfl) dL_law_344 (show cells + 1 ≤ 650192 by omega) (show slots + 6 ≤ 7145529 by omega) hS (fun H locs hP hS => ?_)
        have hD : va_D (lA s) (lw cI cJ ad o (nI N) (nI (m_n g0 N)) (nI (m_tn g0 g1 g2 N)) pa pe f0 f1 f2 f3 f4 fo ++ mw cI cZ ad2 2 (nI N) pa pe g0 g1 g2) := q_Dc (L := [ad 0, ad 1, ad 2, ad 3, ad 4, ad 5, o, ad2 0, ad2 1, ad2 2, ad2 3]) hD rfl rfl
        refine lv_istore (lv' := [(6, .int 0), (5, .int 2), (4, .int (nI i)), (3, .ref o), (2, .ref (ad2 0)), (1, .ref (ad 0)), (0, .ref b)]) hx hb dL_law_347 hl (by decide) rfl (fun ls hl => ?_)
        refine lv_aload_n hx hb dL_law_349 rfl (lv_at hl 4 rfl) ?_
        refine q_callV (As := []) (rest := []) ⟨hx, hb, hml, hown, hts⟩ (c_X1_thrown l D cI cZ ad2 2 N pa pe g0 g1 g2 (by omega)) (cwV 0 hts gL_law_X1_thrown rfl rfl rfl kv_X1_thrown ⟨Nat.le_of_ble_eq_true rfl, Nat.le_of_ble_eq_true rfl⟩) (va_recv hK hP (ci := 1) (q0 := 7) rfl rfl) (hP.sub [7, 8, 9, 10] rfl) (hK.sub [0, 2] rfl) rfl hl.1 rfl (Nat.le_of_ble_eq_true rfl) dL_law_350 (show cells + 1 ≤ 650192 by omega) (show slots + 6 ≤ 7145529 by omega) hS (fun H locs hsm hS => ?_)
        have hP := hsm.P hP
        refine lv_iload hx hb dL_law_353 (lv_at hl 1 rfl) ?_
        refine lv_icmp_eq (tgt := 360) hx hb dL_law_355 (by decide) (fun _ => ?_) (fun h9 => absurd rfl h9)
        refine lv_iload hx hb dL_law_360 (lv_at hl 1 rfl) ?_
        refine lv_if_ne (tgt := 377) hx hb dL_law_362 (by decide) (fun _ => ?_) (fun h9 => absurd h9 (by decide))
        refine lv_goto (tgt := 1808) hx hb dL_law_377 (by decide) ?_
        refine W.widen (k := cells + 24) (n := slots + 125) (by omega) (by omega) ?_
        exact kk _ _ _ _ _ _ _ _ _ _ _ _ _ _ _ H locs ls (h) (r) hP hD hS (lv_sub hl [2, 3, 4, 5, 6] rfl)

set_option maxHeartbeats 4000000 in
set_option maxRecDepth 100000 in
theorem law_tie {p : Program} {l : Launch} {e : Env} {s : State} {m : MethodId} {args : Array Value} {below : List Frame} {meth : Method} {c : Code} {b L : Nat} {xs : Nat → Int32} {D : va_G} {cI cJ cZ : ClassId} {sa ad ad2 : Nat → Nat} {o cells slots i : Nat} {Q : State → Prop}
    (C : law_C p l s m c args b L xs D cI cJ cZ sa) (kk : law_K p l e s m args below meth c b D cI cJ cZ ad ad2 o cells slots Q i) {N : Nat} {w t pa pe : Int32} {f0 f1 f2 f3 f4 : Nat → Int32} {fo : Nat → Int64} {th : Int32} {g0 g1 g2 : Nat → Int32} {H : Heap} {locs : List Loc} {ls : Array Slot}
    (h : Ra N f0 f1 f2 g0 g1 g2) (r : Rw N f3 f4 g0 g1 g2 w t) (hP : va_P D vwCl (lW cI cJ cZ ad ad2 o (nI N) w t pa pe f0 f1 f2 f3 f4 fo th g0 g1 g2) H) (hD : va_D (lA s) (lW cI cJ cZ ad ad2 o (nI N) w t pa pe f0 f1 f2 f3 f4 fo th g0 g1 g2)) (hS : va_S (lA s) s.heap H locs) (hl : lv_has ls 9 (law_L b ad ad2 o i))
    (hi : i + 2 < L) (hc : cells + 24 ≤ 650192) (hs : slots + 125 ≤ 7145529) : W p l e room_1 s m args below meth c H locs cells slots Q (F0 m 380 ls []) := by
  obtain ⟨hx, hb, hml, hown, hts, hX, hbl, hK, hZ, hN9, hst, hL⟩ := C
  have ew := r.ww
  have et := r.tt
  subst ew
  subst et
  have q := r.rp
  have hN := h.n
  have hn : m_n g0 N ≤ 24 := Nat.le_trans (m_n_le g0 N) hN
  have ht : m_tn g0 g1 g2 N ≤ 24 := by
    have h9 := m_ab_lt (g0 := g0) (g1 := g1) (g2 := g2) hN
    unfold m_tn
    split <;> omega
  have hA : ∀ q : Nat, s.heap.size ≤ q → lA s q := fun _ h => h
  obtain ⟨x1, e1⟩ : ∃ x1, xs (i + 1) = x1 := ⟨_, rfl⟩
  obtain ⟨x2, e2⟩ : ∃ x2, xs (i + 2) = x2 := ⟨_, rfl⟩
  have hl : lv_has ls 9 [(4, .int (nI i)), (3, .ref o), (2, .ref (ad2 0)), (1, .ref (ad 0)), (0, .ref b)] := hl
  cases hm : m_in x1 0 (nI (m_n g0 N) - 2) with
  | false =>
    refine lv_aload_n hx hb dL_law_380 rfl (lv_at hl 3 rfl) ?_
    refine l_arg (k := 1) hx hb hX hbl hS (by omega) hL rfl e1 (lv_at hl 4 rfl) (lv_at hl 0 rfl) dL_law_381 dL_law_382 dL_law_384 dL_law_385 dL_law_386 ?_
    refine lv_aload_n hx hb dL_law_387 rfl (lv_at hl 1 rfl) ?_
    refine l_callE (As := [.ref (ad 0), .int x1, .ref o]) (rest := []) ⟨hx, hb, hml, hown, hts⟩ (t_L_tie_1 l D sa hst cI cJ ad o N (nI (m_n g0 N)) (nI (m_tn g0 g1 g2 N)) pa pe f0 f1 f2 f3 f4 x1 (in_gap0 hn hm) hN fo) (vx_cwSW 3 hts gL_law_L_tie rfl rfl rfl kq_L_tie ⟨Nat.le_of_ble_eq_true rfl, Nat.le_of_ble_eq_true rfl⟩) (hP.sub [0, 1, 2, 3, 4, 5, 6] rfl) (hK.sub [0, 1] rfl) (hZ.kept fun a ha => hS.2.1 a ha (Nat.not_le.mpr ha)) hN9 rfl hl.1 rfl (Nat.le_of_ble_eq_true rfl) dL_law_388 (show cells + 1 ≤ 650192 by omega) (show slots + 6 ≤ 7145529 by omega) hS (fun H locs hsm hS => ?_)
    have hP := hsm.P hP
    refine lv_istore (lv' := [(5, .int 1), (4, .int (nI i)), (3, .ref o), (2, .ref (ad2 0)), (1, .ref (ad 0)), (0, .ref b)]) hx hb dL_law_391 hl (by decide) rfl (fun ls hl => ?_)
    refine lv_aload_n hx hb dL_law_393 rfl (lv_at hl 3 rfl) ?_
    refine l_arg (k := 1) hx hb hX hbl hS (by omega) hL rfl e1 (lv_at hl 5 rfl) (lv_at hl 1 rfl) dL_law_394 dL_law_395 dL_law_397 dL_law_398 dL_law_399 ?_
    refine m_callVI (As := [.int x1]) (rest := []) (Wr := (lw cI cJ ad o (nI N) (nI (m_n g0 N)) (nI (m_tn g0 g1 g2 N)) pa pe f0 f1 f2 f3 f4 fo)) (W2 := (lw cI cJ ad o (nI N) (nI (m_n g0 N)) (nI (m_tn g0 g1 g2 N)) pa pe f0 f1 f2 f3 f4 fo ++ mw cI cZ ad2 1 (nI N) pa pe g0 g1 g2)) ⟨hx, hb, hml, hown, hts⟩ (c_X1_tie_1 l D cI cZ ad2 th N pa pe g0 g1 g2 hN x1 hm) (cwV 1 hts gL_law_X1_tie rfl rfl rfl kv_X1_tie ⟨Nat.le_of_ble_eq_true rfl, Nat.le_of_ble_eq_true rfl⟩) (va_recv hK hP (ci := 1) (q0 := 7) rfl rfl) hP hD (hK.sub [0, 2] rfl) hA [7, 8, 9, 10] [0, 1, 2, 3, 4, 5, 6] [0, 1, 2, 3, 4, 5, 6, 7, 8, 9, 10] rfl rfl rfl rfl rfl (by decide) rfl rfl rfl hl.1 rfl (Nat.le_of_ble_eq_true rfl) dL_law_400 (show cells + 1 ≤ 650192 by omega) (show slots + 6 ≤ 7145529 by omega) hS (fun H locs hP hS => ?_)
    have hD : va_D (lA s) (lw cI cJ ad o (nI N) (nI (m_n g0 N)) (nI (m_tn g0 g1 g2 N)) pa pe f0 f1 f2 f3 f4 fo ++ mw cI cZ ad2 1 (nI N) pa pe g0 g1 g2) := q_Dc (L := [ad 0, ad 1, ad 2, ad 3, ad 4, ad 5, o, ad2 0, ad2 1, ad2 2, ad2 3]) hD rfl rfl
    refine lv_istore (lv' := [(6, .int 0), (5, .int 1), (4, .int (nI i)), (3, .ref o), (2, .ref (ad2 0)), (1, .ref (ad 0)), (0, .ref b)]) hx hb dL_law_403 hl (by decide) rfl (fun ls hl => ?_)
    refine lv_aload_n hx hb dL_law_405 rfl (lv_at hl 4 rfl) ?_
    refine q_callV (As := []) (rest := []) ⟨hx, hb, hml, hown, hts⟩ (c_X1_thrown l D cI cZ ad2 1 N pa pe g0 g1 g2 (by omega)) (cwV 0 hts gL_law_X1_thrown rfl rfl rfl kv_X1_thrown ⟨Nat.le_of_ble_eq_true rfl, Nat.le_of_ble_eq_true rfl⟩) (va_recv hK hP (ci := 1) (q0 := 7) rfl rfl) (hP.sub [7, 8, 9, 10] rfl) (hK.sub [0, 2] rfl) rfl hl.1 rfl (Nat.le_of_ble_eq_true rfl) dL_law_406 (show cells + 1 ≤ 650192 by omega) (show slots + 6 ≤ 7145529 by omega) hS (fun H locs hsm hS => ?_)
    have hP := hsm.P hP
    refine lv_iload hx hb dL_law_409 (lv_at hl 1 rfl) ?_
    refine lv_icmp_eq (tgt := 416) hx hb dL_law_411 (by decide) (fun _ => ?_) (fun h9 => absurd rfl h9)
    refine lv_iload hx hb dL_law_416 (lv_at hl 1 rfl) ?_
    refine lv_if_ne (tgt := 433) hx hb dL_law_418 (by decide) (fun _ => ?_) (fun h9 => absurd h9 (by decide))
    refine lv_goto (tgt := 1808) hx hb dL_law_433 (by decide) ?_
    refine W.widen (k := cells + 24) (n := slots + 125) (by omega) (by omega) ?_
    exact kk _ _ _ _ _ _ _ _ _ _ _ _ _ _ _ H locs ls (h) (r) hP hD hS (lv_sub hl [2, 3, 4, 5, 6] rfl)
  | true =>
    obtain ⟨g, hg, rfl⟩ := in_gap1 hn hm
    have hi9 := gap_in hn hg
    by_cases hz : g2 (m_P g0 N g) = 0
    · by_cases hp : 3 ≤ pa
      · have e9 : rd f3 (nI g) = nI (m_P g0 N g) := q.rd hN (by omega)
        have h2 : Ra N f0 f1 (wr f2 (rd f3 (nI g)) 1) g0 g1 (upd g2 (m_P g0 N g) 1) := by rw [e9]; exact h.tied (m_P_lt (by omega))
        have r2 := h2.recount (f3 := f3) (f4 := f4) rfl
        refine lv_aload_n hx hb dL_law_380 rfl (lv_at hl 3 rfl) ?_
        refine l_arg (k := 1) hx hb hX hbl hS (by omega) hL rfl e1 (lv_at hl 4 rfl) (lv_at hl 0 rfl) dL_law_381 dL_law_382 dL_law_384 dL_law_385 dL_law_386 ?_
        refine lv_aload_n hx hb dL_law_387 rfl (lv_at hl 1 rfl) ?_
        refine l_callI (As := [.ref (ad 0), .int (nI g), .ref o]) (rest := []) (Wr := [(ad2 0, .inr (1, [.int th, .int (nI N), .int pa, .int pe, .ref (ad2 1), .ref (ad2 2), .ref (ad2 3)])), (ad2 1, .inl (cI, 25, .inl g0)), (ad2 2, .inl (cI, 25, .inl g1)), (ad2 3, .inl (cZ, 25, .inl g2))]) (W2 := (lw cI cJ ad o (nI N) (nI (x_wn f1 N)) (nI (x_tcn f0 f1 (wr f2 (rd f3 (nI g)) 1) (x_wp f1 f3 N) (x_wn f1 N))) (pa - 3) (pe + 3) f0 f1 (wr f2 (rd f3 (nI g)) 1) (x_wp f1 f3 N) (x_wh f0 f1 (wr f2 (rd f3 (nI g)) 1) (x_wp f1 f3 N) f4 (x_wn f1 N)) (vp_updL fo 0 (((nI (x_tcn f0 f1 (wr f2 (rd f3 (nI g)) 1) (x_wp f1 f3 N) (x_wn f1 N)))).toInt64)) ++ [(ad2 0, .inr (1, [.int th, .int (nI N), .int pa, .int pe, .ref (ad2 1), .ref (ad2 2), .ref (ad2 3)])), (ad2 1, .inl (cI, 25, .inl g0)), (ad2 2, .inl (cI, 25, .inl g1)), (ad2 3, .inl (cZ, 25, .inl g2))])) ⟨hx, hb, hml, hown, hts⟩ (c_L_tie l D cI cJ ad o N (nI (m_n g0 N)) (nI (m_tn g0 g1 g2 N)) pa pe f0 f1 f2 f3 f4 (nI g) hi9.1 hi9.2 (h.ti0 q (by omega) hz) hp hN fo) (vx_cwSW 3 hts gL_law_L_tie rfl rfl rfl kq_L_tie ⟨Nat.le_of_ble_eq_true rfl, Nat.le_of_ble_eq_true rfl⟩) hP hD (hK.sub [0, 1] rfl) hA [0, 1, 2, 3, 4, 5, 6] [7, 8, 9, 10] [4, 5, 6, 7, 8, 9, 10, 0, 1, 2, 3] rfl rfl rfl rfl rfl (by decide) rfl rfl rfl hl.1 rfl (Nat.le_of_ble_eq_true rfl) dL_law_388 (show cells ≤ 650192 by omega) (show slots ≤ 7145529 by omega) hS (fun H locs hP hS => ?_)
        have hD : va_D (lA s) (lw cI cJ ad o (nI N) (nI (x_wn f1 N)) (nI (x_tcn f0 f1 (wr f2 (rd f3 (nI g)) 1) (x_wp f1 f3 N) (x_wn f1 N))) (pa - 3) (pe + 3) f0 f1 (wr f2 (rd f3 (nI g)) 1) (x_wp f1 f3 N) (x_wh f0 f1 (wr f2 (rd f3 (nI g)) 1) (x_wp f1 f3 N) f4 (x_wn f1 N)) (vp_updL fo 0 (((nI (x_tcn f0 f1 (wr f2 (rd f3 (nI g)) 1) (x_wp f1 f3 N) (x_wn f1 N)))).toInt64)) ++ [(ad2 0, .inr (1, [.int th, .int (nI N), .int pa, .int pe, .ref (ad2 1), .ref (ad2 2), .ref (ad2 3)])), (ad2 1, .inl (cI, 25, .inl g0)), (ad2 2, .inl (cI, 25, .inl g1)), (ad2 3, .inl (cZ, 25, .inl g2))]) := q_Dc (L := [ad 0, ad 1, ad 2, ad 3, ad 4, ad 5, o, ad2 0, ad2 1, ad2 2, ad2 3]) hD rfl rfl
        refine lv_istore (lv' := [(5, .int 0), (4, .int (nI i)), (3, .ref o), (2, .ref (ad2 0)), (1, .ref (ad 0)), (0, .ref b)]) hx hb dL_law_391 hl (by decide) rfl (fun ls hl => ?_)
        refine lv_aload_n hx hb dL_law_393 rfl (lv_at hl 3 rfl) ?_
        refine l_arg (k := 1) hx hb hX hbl hS (by omega) hL rfl e1 (lv_at hl 5 rfl) (lv_at hl 1 rfl) dL_law_394 dL_law_395 dL_law_397 dL_law_398 dL_law_399 ?_
        refine m_callVI (As := [.int (nI g)]) (rest := []) (Wr := (lw cI cJ ad o (nI N) (nI (x_wn f1 N)) (nI (x_tcn f0 f1 (wr f2 (rd f3 (nI g)) 1) (x_wp f1 f3 N) (x_wn f1 N))) (pa - 3) (pe + 3) f0 f1 (wr f2 (rd f3 (nI g)) 1) (x_wp f1 f3 N) (x_wh f0 f1 (wr f2 (rd f3 (nI g)) 1) (x_wp f1 f3 N) f4 (x_wn f1 N)) (vp_updL fo 0 (((nI (x_tcn f0 f1 (wr f2 (rd f3 (nI g)) 1) (x_wp f1 f3 N) (x_wn f1 N)))).toInt64)))) (W2 := (lw cI cJ ad o (nI N) (nI (x_wn f1 N)) (nI (x_tcn f0 f1 (wr f2 (rd f3 (nI g)) 1) (x_wp f1 f3 N) (x_wn f1 N))) (pa - 3) (pe + 3) f0 f1 (wr f2 (rd f3 (nI g)) 1) (x_wp f1 f3 N) (x_wh f0 f1 (wr f2 (rd f3 (nI g)) 1) (x_wp f1 f3 N) f4 (x_wn f1 N)) (vp_updL fo 0 (((nI (x_tcn f0 f1 (wr f2 (rd f3 (nI g)) 1) (x_wp f1 f3 N) (x_wn f1 N)))).toInt64)) ++ mw cI cZ ad2 0 (nI N) (pa - 3) (pe + 3) g0 g1 (upd g2 (m_P g0 N g) 1))) ⟨hx, hb, hml, hown, hts⟩ (c_X1_tie_ok l D cI cZ ad2 th N pa pe g0 g1 g2 hN g hg hm hz hp) (cwV 1 hts gL_law_X1_tie rfl rfl rfl kv_X1_tie ⟨Nat.le_of_ble_eq_true rfl, Nat.le_of_ble_eq_true rfl⟩) (va_recv hK hP (ci := 1) (q0 := 7) rfl rfl) hP hD (hK.sub [0, 2] rfl) hA [7, 8, 9, 10] [0, 1, 2, 3, 4, 5, 6] [0, 1, 2, 3, 4, 5, 6, 7, 8, 9, 10] rfl rfl rfl rfl rfl (by decide) rfl rfl rfl hl.1 rfl (Nat.le_of_ble_eq_true rfl) dL_law_400 (show cells ≤ 650192 by omega) (show slots ≤ 7145529 by omega) hS (fun H locs hP hS => ?_)
        have hD : va_D (lA s) (lw cI cJ ad o (nI N) (nI (x_wn f1 N)) (nI (x_tcn f0 f1 (wr f2 (rd f3 (nI g)) 1) (x_wp f1 f3 N) (x_wn f1 N))) (pa - 3) (pe + 3) f0 f1 (wr f2 (rd f3 (nI g)) 1) (x_wp f1 f3 N) (x_wh f0 f1 (wr f2 (rd f3 (nI g)) 1) (x_wp f1 f3 N) f4 (x_wn f1 N)) (vp_updL fo 0 (((nI (x_tcn f0 f1 (wr f2 (rd f3 (nI g)) 1) (x_wp f1 f3 N) (x_wn f1 N)))).toInt64)) ++ mw cI cZ ad2 0 (nI N) (pa - 3) (pe + 3) g0 g1 (upd g2 (m_P g0 N g) 1)) := q_Dc (L := [ad 0, ad 1, ad 2, ad 3, ad 4, ad 5, o, ad2 0, ad2 1, ad2 2, ad2 3]) hD rfl rfl
        refine lv_istore (lv' := [(6, .int (nI (m_tn g0 g1 (upd g2 (m_P g0 N g) 1) N))), (5, .int 0), (4, .int (nI i)), (3, .ref o), (2, .ref (ad2 0)), (1, .ref (ad 0)), (0, .ref b)]) hx hb dL_law_403 hl (by decide) rfl (fun ls hl => ?_)
        refine lv_aload_n hx hb dL_law_405 rfl (lv_at hl 4 rfl) ?_
        refine q_callV (As := []) (rest := []) ⟨hx, hb, hml, hown, hts⟩ (c_X1_thrown l D cI cZ ad2 0 N (pa - 3) (pe + 3) g0 g1 (upd g2 (m_P g0 N g) 1) (by omega)) (cwV 0 hts gL_law_X1_thrown rfl rfl rfl kv_X1_thrown ⟨Nat.le_of_ble_eq_true rfl, Nat.le_of_ble_eq_true rfl⟩) (va_recv hK hP (ci := 1) (q0 := 7) rfl rfl) (hP.sub [7, 8, 9, 10] rfl) (hK.sub [0, 2] rfl) rfl hl.1 rfl (Nat.le_of_ble_eq_true rfl) dL_law_406 (show cells ≤ 650192 by omega) (show slots ≤ 7145529 by omega) hS (fun H locs hsm hS => ?_)
        have hP := hsm.P hP
        refine lv_iload hx hb dL_law_409 (lv_at hl 1 rfl) ?_
        refine lv_icmp_eq (tgt := 416) hx hb dL_law_411 (by decide) (fun _ => ?_) (fun h9 => absurd rfl h9)
        refine lv_iload hx hb dL_law_416 (lv_at hl 1 rfl) ?_
        refine lv_if_ne (tgt := 433) hx hb dL_law_418 (by decide) (fun h9 => absurd (by decide) h9) (fun _ => ?_)
        refine lv_aload_n hx hb dL_law_421 rfl (lv_at hl 3 rfl) ?_
        refine lv_iconst (v := 0) hx hb dL_law_422 (by decide) ?_
        refine va_lald hx hb hK hP 6 1 rfl rfl (vp_in_nI (n := 0) (by decide) (by decide)) dL_law_423 ?_
        rw [upd0]
        refine lv_iload hx hb dL_law_424 (lv_at hl 0 rfl) ?_
        refine lv_i2l (v := ((nI (m_tn g0 g1 (upd g2 (m_P g0 N g) 1) N))).toInt64) hx hb dL_law_426 rfl ?_
        refine l_lcmp0 hx hb (by rw [r2.tt]) dL_law_427 ?_
        refine lv_if_eq (tgt := 433) hx hb dL_law_428 (by decide) (fun _ => ?_) (fun h9 => absurd rfl h9)
        refine lv_goto (tgt := 1808) hx hb dL_law_433 (by decide) ?_
        refine W.widen (k := cells + 24) (n := slots + 125) (by omega) (by omega) ?_
        exact kk _ _ _ _ _ _ _ _ _ _ _ _ _ _ _ H locs ls (h2) (r2) hP hD hS (lv_sub hl [2, 3, 4, 5, 6] rfl)
      · refine lv_aload_n hx hb dL_law_380 rfl (lv_at hl 3 rfl) ?_
        refine l_arg (k := 1) hx hb hX hbl hS (by omega) hL rfl e1 (lv_at hl 4 rfl) (lv_at hl 0 rfl) dL_law_381 dL_law_382 dL_law_384 dL_law_385 dL_law_386 ?_
        refine lv_aload_n hx hb dL_law_387 rfl (lv_at hl 1 rfl) ?_
        refine l_callE (As := [.ref (ad 0), .int (nI g), .ref o]) (rest := []) ⟨hx, hb, hml, hown, hts⟩ (t_L_tie_3 l D sa hst cI cJ ad o N (nI (m_n g0 N)) (nI (m_tn g0 g1 g2 N)) pa pe f0 f1 f2 f3 f4 (nI g) hi9.1 hi9.2 (h.ti0 q (by omega) hz) hp hN fo) (vx_cwSW 3 hts gL_law_L_tie rfl rfl rfl kq_L_tie ⟨Nat.le_of_ble_eq_true rfl, Nat.le_of_ble_eq_true rfl⟩) (hP.sub [0, 1, 2, 3, 4, 5, 6] rfl) (hK.sub [0, 1] rfl) (hZ.kept fun a ha => hS.2.1 a ha (Nat.not_le.mpr ha)) hN9 rfl hl.1 rfl (Nat.le_of_ble_eq_true rfl) dL_law_388 (show cells + 1 ≤ 650192 by omega) (show slots + 6 ≤ 7145529 by omega) hS (fun H locs hsm hS => ?_)
        have hP := hsm.P hP
        refine lv_istore (lv' := [(5, .int 2), (4, .int (nI i)), (3, .ref o), (2, .ref (ad2 0)), (1, .ref (ad 0)), (0, .ref b)]) hx hb dL_law_391 hl (by decide) rfl (fun ls hl => ?_)
        refine lv_aload_n hx hb dL_law_393 rfl (lv_at hl 3 rfl) ?_
        refine l_arg (k := 1) hx hb hX hbl hS (by omega) hL rfl e1 (lv_at hl 5 rfl) (lv_at hl 1 rfl) dL_law_394 dL_law_395 dL_law_397 dL_law_398 dL_law_399 ?_
        refine m_callVI (As := [.int (nI g)]) (rest := []) (Wr := (lw cI cJ ad o (nI N) (nI (m_n g0 N)) (nI (m_tn g0 g1 g2 N)) pa pe f0 f1 f2 f3 f4 fo)) (W2 := (lw cI cJ ad o (nI N) (nI (m_n g0 N)) (nI (m_tn g0 g1 g2 N)) pa pe f0 f1 f2 f3 f4 fo ++ mw cI cZ ad2 2 (nI N) pa pe g0 g1 g2)) ⟨hx, hb, hml, hown, hts⟩ (c_X1_tie_3 l D cI cZ ad2 th N pa pe g0 g1 g2 hN g hg hm hz hp) (cwV 1 hts gL_law_X1_tie rfl rfl rfl kv_X1_tie ⟨Nat.le_of_ble_eq_true rfl, Nat.le_of_ble_eq_true rfl⟩) (va_recv hK hP (ci := 1) (q0 := 7) rfl rfl) hP hD (hK.sub [0, 2] rfl) hA [7, 8, 9, 10] [0, 1, 2, 3, 4, 5, 6] [0, 1, 2, 3, 4, 5, 6, 7, 8, 9, 10] rfl rfl rfl rfl rfl (by decide) rfl rfl rfl hl.1 rfl (Nat.le_of_ble_eq_true rfl) dL_law_400 (show cells + 1 ≤ 650192 by omega) (show slots + 6 ≤ 7145529 by omega) hS (fun H locs hP hS => ?_)
        have hD : va_D (lA s) (lw cI cJ ad o (nI N) (nI (m_n g0 N)) (nI (m_tn g0 g1 g2 N)) pa pe f0 f1 f2 f3 f4 fo ++ mw cI cZ ad2 2 (nI N) pa pe g0 g1 g2) := q_Dc (L := [ad 0, ad 1, ad 2, ad 3, ad 4, ad 5, o, ad2 0, ad2 1, ad2 2, ad2 3]) hD rfl rfl
        refine lv_istore (lv' := [(6, .int 0), (5, .int 2), (4, .int (nI i)), (3, .ref o), (2, .ref (ad2 0)), (1, .ref (ad 0)), (0, .ref b)]) hx hb dL_law_403 hl (by decide) rfl (fun ls hl => ?_)
        refine lv_aload_n hx hb dL_law_405 rfl (lv_at hl 4 rfl) ?_
        refine q_callV (As := []) (rest := []) ⟨hx, hb, hml, hown, hts⟩ (c_X1_thrown l D cI cZ ad2 2 N pa pe g0 g1 g2 (by omega)) (cwV 0 hts gL_law_X1_thrown rfl rfl rfl kv_X1_thrown ⟨Nat.le_of_ble_eq_true rfl, Nat.le_of_ble_eq_true rfl⟩) (va_recv hK hP (ci := 1) (q0 := 7) rfl rfl) (hP.sub [7, 8, 9, 10] rfl) (hK.sub [0, 2] rfl) rfl hl.1 rfl (Nat.le_of_ble_eq_true rfl) dL_law_406 (show cells + 1 ≤ 650192 by omega) (show slots + 6 ≤ 7145529 by omega) hS (fun H locs hsm hS => ?_)
        have hP := hsm.P hP
        refine lv_iload hx hb dL_law_409 (lv_at hl 1 rfl) ?_
        refine lv_icmp_eq (tgt := 416) hx hb dL_law_411 (by decide) (fun _ => ?_) (fun h9 => absurd rfl h9)
        refine lv_iload hx hb dL_law_416 (lv_at hl 1 rfl) ?_
        refine lv_if_ne (tgt := 433) hx hb dL_law_418 (by decide) (fun _ => ?_) (fun h9 => absurd h9 (by decide))
        refine lv_goto (tgt := 1808) hx hb dL_law_433 (by decide) ?_
        refine W.widen (k := cells + 24) (n := slots + 125) (by omega) (by omega) ?_
        exact kk _ _ _ _ _ _ _ _ _ _ _ _ _ _ _ H locs ls (h) (r) hP hD hS (lv_sub hl [2, 3, 4, 5, 6] rfl)
    · refine lv_aload_n hx hb dL_law_380 rfl (lv_at hl 3 rfl) ?_
      refine l_arg (k := 1) hx hb hX hbl hS (by omega) hL rfl e1 (lv_at hl 4 rfl) (lv_at hl 0 rfl) dL_law_381 dL_law_382 dL_law_384 dL_law_385 dL_law_386 ?_
      refine lv_aload_n hx hb dL_law_387 rfl (lv_at hl 1 rfl) ?_
      refine l_callE (As := [.ref (ad 0), .int (nI g), .ref o]) (rest := []) ⟨hx, hb, hml, hown, hts⟩ (t_L_tie_2 l D sa hst cI cJ ad o N (nI (m_n g0 N)) (nI (m_tn g0 g1 g2 N)) pa pe f0 f1 f2 f3 f4 (nI g) hi9.1 hi9.2 (h.ti1 q (by omega) hz) hN fo) (vx_cwSW 3 hts gL_law_L_tie rfl rfl rfl kq_L_tie ⟨Nat.le_of_ble_eq_true rfl, Nat.le_of_ble_eq_true rfl⟩) (hP.sub [0, 1, 2, 3, 4, 5, 6] rfl) (hK.sub [0, 1] rfl) (hZ.kept fun a ha => hS.2.1 a ha (Nat.not_le.mpr ha)) hN9 rfl hl.1 rfl (Nat.le_of_ble_eq_true rfl) dL_law_388 (show cells + 1 ≤ 650192 by omega) (show slots + 6 ≤ 7145529 by omega) hS (fun H locs hsm hS => ?_)
      have hP := hsm.P hP
      refine lv_istore (lv' := [(5, .int 2), (4, .int (nI i)), (3, .ref o), (2, .ref (ad2 0)), (1, .ref (ad 0)), (0, .ref b)]) hx hb dL_law_391 hl (by decide) rfl (fun ls hl => ?_)
      refine lv_aload_n hx hb dL_law_393 rfl (lv_at hl 3 rfl) ?_
      refine l_arg (k := 1) hx hb hX hbl hS (by omega) hL rfl e1 (lv_at hl 5 rfl) (lv_at hl 1 rfl) dL_law_394 dL_law_395 dL_law_397 dL_law_398 dL_law_399 ?_
      refine m_callVI (As := [.int (nI g)]) (rest := []) (Wr := (lw cI cJ ad o (nI N) (nI (m_n g0 N)) (nI (m_tn g0 g1 g2 N)) pa pe f0 f1 f2 f3 f4 fo)) (W2 := (lw cI cJ ad o (nI N) (nI (m_n g0 N)) (nI (m_tn g0 g1 g2 N)) pa pe f0 f1 f2 f3 f4 fo ++ mw cI cZ ad2 2 (nI N) pa pe g0 g1 g2)) ⟨hx, hb, hml, hown, hts⟩ (c_X1_tie_2 l D cI cZ ad2 th N pa pe g0 g1 g2 hN g hg hm hz) (cwV 1 hts gL_law_X1_tie rfl rfl rfl kv_X1_tie ⟨Nat.le_of_ble_eq_true rfl, Nat.le_of_ble_eq_true rfl⟩) (va_recv hK hP (ci := 1) (q0 := 7) rfl rfl) hP hD (hK.sub [0, 2] rfl) hA [7, 8, 9, 10] [0, 1, 2, 3, 4, 5, 6] [0, 1, 2, 3, 4, 5, 6, 7, 8, 9, 10] rfl rfl rfl rfl rfl (by decide) rfl rfl rfl hl.1 rfl (Nat.le_of_ble_eq_true rfl) dL_law_400 (show cells + 1 ≤ 650192 by omega) (show slots + 6 ≤ 7145529 by omega) hS (fun H locs hP hS => ?_)
      have hD : va_D (lA s) (lw cI cJ ad o (nI N) (nI (m_n g0 N)) (nI (m_tn g0 g1 g2 N)) pa pe f0 f1 f2 f3 f4 fo ++ mw cI cZ ad2 2 (nI N) pa pe g0 g1 g2) := q_Dc (L := [ad 0, ad 1, ad 2, ad 3, ad 4, ad 5, o, ad2 0, ad2 1, ad2 2, ad2 3]) hD rfl rfl
      refine lv_istore (lv' := [(6, .int 0), (5, .int 2), (4, .int (nI i)), (3, .ref o), (2, .ref (ad2 0)), (1, .ref (ad 0)), (0, .ref b)]) hx hb dL_law_403 hl (by decide) rfl (fun ls hl => ?_)
      refine lv_aload_n hx hb dL_law_405 rfl (lv_at hl 4 rfl) ?_
      refine q_callV (As := []) (rest := []) ⟨hx, hb, hml, hown, hts⟩ (c_X1_thrown l D cI cZ ad2 2 N pa pe g0 g1 g2 (by omega)) (cwV 0 hts gL_law_X1_thrown rfl rfl rfl kv_X1_thrown ⟨Nat.le_of_ble_eq_true rfl, Nat.le_of_ble_eq_true rfl⟩) (va_recv hK hP (ci := 1) (q0 := 7) rfl rfl) (hP.sub [7, 8, 9, 10] rfl) (hK.sub [0, 2] rfl) rfl hl.1 rfl (Nat.le_of_ble_eq_true rfl) dL_law_406 (show cells + 1 ≤ 650192 by omega) (show slots + 6 ≤ 7145529 by omega) hS (fun H locs hsm hS => ?_)
      have hP := hsm.P hP
      refine lv_iload hx hb dL_law_409 (lv_at hl 1 rfl) ?_
      refine lv_icmp_eq (tgt := 416) hx hb dL_law_411 (by decide) (fun _ => ?_) (fun h9 => absurd rfl h9)
      refine lv_iload hx hb dL_law_416 (lv_at hl 1 rfl) ?_
      refine lv_if_ne (tgt := 433) hx hb dL_law_418 (by decide) (fun _ => ?_) (fun h9 => absurd h9 (by decide))
      refine lv_goto (tgt := 1808) hx hb dL_law_433 (by decide) ?_
      refine W.widen (k := cells + 24) (n := slots + 125) (by omega) (by omega) ?_
      exact kk _ _ _ _ _ _ _ _ _ _ _ _ _ _ _ H locs ls (h) (r) hP hD hS (lv_sub hl [2, 3, 4, 5, 6] rfl)

set_option maxHeartbeats 4000000 in
set_option maxRecDepth 100000 in
theorem law_splice {p : Program} {l : Launch} {e : Env} {s : State} {m : MethodId} {args : Array Value} {below : List Frame} {meth : Method} {c : Code} {b L : Nat} {xs : Nat → Int32} {D : va_G} {cI cJ cZ : ClassId} {sa ad ad2 : Nat → Nat} {o cells slots i : Nat} {Q : State → Prop}
    (C : law_C p l s m c args b L xs D cI cJ cZ sa) (kk : law_K p l e s m args below meth c b D cI cJ cZ ad ad2 o cells slots Q i) {N : Nat} {w t pa pe : Int32} {f0 f1 f2 f3 f4 : Nat → Int32} {fo : Nat → Int64} {th : Int32} {g0 g1 g2 : Nat → Int32} {H : Heap} {locs : List Loc} {ls : Array Slot}
    (h : Ra N f0 f1 f2 g0 g1 g2) (r : Rw N f3 f4 g0 g1 g2 w t) (hP : va_P D vwCl (lW cI cJ cZ ad ad2 o (nI N) w t pa pe f0 f1 f2 f3 f4 fo th g0 g1 g2) H) (hD : va_D (lA s) (lW cI cJ cZ ad ad2 o (nI N) w t pa pe f0 f1 f2 f3 f4 fo th g0 g1 g2)) (hS : va_S (lA s) s.heap H locs) (hl : lv_has ls 9 (law_L b ad ad2 o i))
    (hi : i + 2 < L) (hc : cells + 24 ≤ 650192) (hs : slots + 125 ≤ 7145529) : W p l e room_1 s m args below meth c H locs cells slots Q (F0 m 436 ls []) := by
  obtain ⟨hx, hb, hml, hown, hts, hX, hbl, hK, hZ, hN9, hst, hL⟩ := C
  have ew := r.ww
  have et := r.tt
  subst ew
  subst et
  have q := r.rp
  have hN := h.n
  have hn : m_n g0 N ≤ 24 := Nat.le_trans (m_n_le g0 N) hN
  have ht : m_tn g0 g1 g2 N ≤ 24 := by
    have h9 := m_ab_lt (g0 := g0) (g1 := g1) (g2 := g2) hN
    unfold m_tn
    split <;> omega
  have hA : ∀ q : Nat, s.heap.size ≤ q → lA s q := fun _ h => h
  obtain ⟨x1, e1⟩ : ∃ x1, xs (i + 1) = x1 := ⟨_, rfl⟩
  obtain ⟨x2, e2⟩ : ∃ x2, xs (i + 2) = x2 := ⟨_, rfl⟩
  have hl : lv_has ls 9 [(4, .int (nI i)), (3, .ref o), (2, .ref (ad2 0)), (1, .ref (ad 0)), (0, .ref b)] := hl
  cases hm : m_in x1 0 (nI (m_n g0 N) - 2) with
  | false =>
    refine lv_aload_n hx hb dL_law_436 rfl (lv_at hl 3 rfl) ?_
    refine l_arg (k := 1) hx hb hX hbl hS (by omega) hL rfl e1 (lv_at hl 4 rfl) (lv_at hl 0 rfl) dL_law_437 dL_law_438 dL_law_440 dL_law_441 dL_law_442 ?_
    refine lv_aload_n hx hb dL_law_443 rfl (lv_at hl 1 rfl) ?_
    refine l_callE (As := [.ref (ad 0), .int x1, .ref o]) (rest := []) ⟨hx, hb, hml, hown, hts⟩ (t_L_splice_1 l D sa hst cI cJ ad o N (nI (m_n g0 N)) (nI (m_tn g0 g1 g2 N)) pa pe f0 f1 f2 f3 f4 x1 (in_gap0 hn hm) fo) (vx_cwSW 3 hts gL_law_L_splice rfl rfl rfl kq_L_splice ⟨Nat.le_of_ble_eq_true rfl, Nat.le_of_ble_eq_true rfl⟩) (hP.sub [0, 1, 2, 3, 4, 5, 6] rfl) (hK.sub [0, 1] rfl) (hZ.kept fun a ha => hS.2.1 a ha (Nat.not_le.mpr ha)) hN9 rfl hl.1 rfl (Nat.le_of_ble_eq_true rfl) dL_law_444 (show cells + 1 ≤ 650192 by omega) (show slots + 6 ≤ 7145529 by omega) hS (fun H locs hsm hS => ?_)
    have hP := hsm.P hP
    refine lv_istore (lv' := [(5, .int 1), (4, .int (nI i)), (3, .ref o), (2, .ref (ad2 0)), (1, .ref (ad 0)), (0, .ref b)]) hx hb dL_law_447 hl (by decide) rfl (fun ls hl => ?_)
    refine lv_aload_n hx hb dL_law_449 rfl (lv_at hl 3 rfl) ?_
    refine l_arg (k := 1) hx hb hX hbl hS (by omega) hL rfl e1 (lv_at hl 5 rfl) (lv_at hl 1 rfl) dL_law_450 dL_law_451 dL_law_453 dL_law_454 dL_law_455 ?_
    refine m_callVI (As := [.int x1]) (rest := []) (Wr := (lw cI cJ ad o (nI N) (nI (m_n g0 N)) (nI (m_tn g0 g1 g2 N)) pa pe f0 f1 f2 f3 f4 fo)) (W2 := (lw cI cJ ad o (nI N) (nI (m_n g0 N)) (nI (m_tn g0 g1 g2 N)) pa pe f0 f1 f2 f3 f4 fo ++ mw cI cZ ad2 1 (nI N) pa pe g0 g1 g2)) ⟨hx, hb, hml, hown, hts⟩ (c_X1_splice_1 l D cI cZ ad2 th N pa pe g0 g1 g2 hN x1 hm) (cwV 1 hts gL_law_X1_splice rfl rfl rfl kv_X1_splice ⟨Nat.le_of_ble_eq_true rfl, Nat.le_of_ble_eq_true rfl⟩) (va_recv hK hP (ci := 1) (q0 := 7) rfl rfl) hP hD (hK.sub [0, 2] rfl) hA [7, 8, 9, 10] [0, 1, 2, 3, 4, 5, 6] [0, 1, 2, 3, 4, 5, 6, 7, 8, 9, 10] rfl rfl rfl rfl rfl (by decide) rfl rfl rfl hl.1 rfl (Nat.le_of_ble_eq_true rfl) dL_law_456 (show cells + 1 ≤ 650192 by omega) (show slots + 6 ≤ 7145529 by omega) hS (fun H locs hP hS => ?_)
    have hD : va_D (lA s) (lw cI cJ ad o (nI N) (nI (m_n g0 N)) (nI (m_tn g0 g1 g2 N)) pa pe f0 f1 f2 f3 f4 fo ++ mw cI cZ ad2 1 (nI N) pa pe g0 g1 g2) := q_Dc (L := [ad 0, ad 1, ad 2, ad 3, ad 4, ad 5, o, ad2 0, ad2 1, ad2 2, ad2 3]) hD rfl rfl
    refine lv_istore (lv' := [(6, .int 0), (5, .int 1), (4, .int (nI i)), (3, .ref o), (2, .ref (ad2 0)), (1, .ref (ad 0)), (0, .ref b)]) hx hb dL_law_459 hl (by decide) rfl (fun ls hl => ?_)
    refine lv_aload_n hx hb dL_law_461 rfl (lv_at hl 4 rfl) ?_
    refine q_callV (As := []) (rest := []) ⟨hx, hb, hml, hown, hts⟩ (c_X1_thrown l D cI cZ ad2 1 N pa pe g0 g1 g2 (by omega)) (cwV 0 hts gL_law_X1_thrown rfl rfl rfl kv_X1_thrown ⟨Nat.le_of_ble_eq_true rfl, Nat.le_of_ble_eq_true rfl⟩) (va_recv hK hP (ci := 1) (q0 := 7) rfl rfl) (hP.sub [7, 8, 9, 10] rfl) (hK.sub [0, 2] rfl) rfl hl.1 rfl (Nat.le_of_ble_eq_true rfl) dL_law_462 (show cells + 1 ≤ 650192 by omega) (show slots + 6 ≤ 7145529 by omega) hS (fun H locs hsm hS => ?_)
    have hP := hsm.P hP
    refine lv_iload hx hb dL_law_465 (lv_at hl 1 rfl) ?_
    refine lv_icmp_eq (tgt := 472) hx hb dL_law_467 (by decide) (fun _ => ?_) (fun h9 => absurd rfl h9)
    refine lv_iload hx hb dL_law_472 (lv_at hl 1 rfl) ?_
    refine lv_if_ne (tgt := 489) hx hb dL_law_474 (by decide) (fun _ => ?_) (fun h9 => absurd h9 (by decide))
    refine lv_goto (tgt := 1808) hx hb dL_law_489 (by decide) ?_
    refine W.widen (k := cells + 24) (n := slots + 125) (by omega) (by omega) ?_
    exact kk _ _ _ _ _ _ _ _ _ _ _ _ _ _ _ H locs ls (h) (r) hP hD hS (lv_sub hl [2, 3, 4, 5, 6] rfl)
  | true =>
    obtain ⟨g, hg, rfl⟩ := in_gap1 hn hm
    have hi9 := gap_in hn hg
    by_cases hz : g2 (m_P g0 N g) = 0
    · by_cases hq : N = 24
      · refine lv_aload_n hx hb dL_law_436 rfl (lv_at hl 3 rfl) ?_
        refine l_arg (k := 1) hx hb hX hbl hS (by omega) hL rfl e1 (lv_at hl 4 rfl) (lv_at hl 0 rfl) dL_law_437 dL_law_438 dL_law_440 dL_law_441 dL_law_442 ?_
        refine lv_aload_n hx hb dL_law_443 rfl (lv_at hl 1 rfl) ?_
        refine l_callE (As := [.ref (ad 0), .int (nI g), .ref o]) (rest := []) ⟨hx, hb, hml, hown, hts⟩ (t_L_splice_3 l D sa hst cI cJ ad o N (nI (m_n g0 N)) (nI (m_tn g0 g1 g2 N)) pa pe f0 f1 f2 f3 f4 (nI g) hi9.1 hi9.2 (h.ti0 q (by omega) hz) (by rw [hq]; decide) fo) (vx_cwSW 3 hts gL_law_L_splice rfl rfl rfl kq_L_splice ⟨Nat.le_of_ble_eq_true rfl, Nat.le_of_ble_eq_true rfl⟩) (hP.sub [0, 1, 2, 3, 4, 5, 6] rfl) (hK.sub [0, 1] rfl) (hZ.kept fun a ha => hS.2.1 a ha (Nat.not_le.mpr ha)) hN9 rfl hl.1 rfl (Nat.le_of_ble_eq_true rfl) dL_law_444 (show cells + 1 ≤ 650192 by omega) (show slots + 6 ≤ 7145529 by omega) hS (fun H locs hsm hS => ?_)
        have hP := hsm.P hP
        refine lv_istore (lv' := [(5, .int 2), (4, .int (nI i)), (3, .ref o), (2, .ref (ad2 0)), (1, .ref (ad 0)), (0, .ref b)]) hx hb dL_law_447 hl (by decide) rfl (fun ls hl => ?_)
        refine lv_aload_n hx hb dL_law_449 rfl (lv_at hl 3 rfl) ?_
        refine l_arg (k := 1) hx hb hX hbl hS (by omega) hL rfl e1 (lv_at hl 5 rfl) (lv_at hl 1 rfl) dL_law_450 dL_law_451 dL_law_453 dL_law_454 dL_law_455 ?_
        refine m_callVI (As := [.int (nI g)]) (rest := []) (Wr := (lw cI cJ ad o (nI N) (nI (m_n g0 N)) (nI (m_tn g0 g1 g2 N)) pa pe f0 f1 f2 f3 f4 fo)) (W2 := (lw cI cJ ad o (nI N) (nI (m_n g0 N)) (nI (m_tn g0 g1 g2 N)) pa pe f0 f1 f2 f3 f4 fo ++ mw cI cZ ad2 2 (nI N) pa pe g0 g1 g2)) ⟨hx, hb, hml, hown, hts⟩ (c_X1_splice_3 l D cI cZ ad2 th N pa pe g0 g1 g2 hN g hg hm hz hq) (cwV 1 hts gL_law_X1_splice rfl rfl rfl kv_X1_splice ⟨Nat.le_of_ble_eq_true rfl, Nat.le_of_ble_eq_true rfl⟩) (va_recv hK hP (ci := 1) (q0 := 7) rfl rfl) hP hD (hK.sub [0, 2] rfl) hA [7, 8, 9, 10] [0, 1, 2, 3, 4, 5, 6] [0, 1, 2, 3, 4, 5, 6, 7, 8, 9, 10] rfl rfl rfl rfl rfl (by decide) rfl rfl rfl hl.1 rfl (Nat.le_of_ble_eq_true rfl) dL_law_456 (show cells + 1 ≤ 650192 by omega) (show slots + 6 ≤ 7145529 by omega) hS (fun H locs hP hS => ?_)
        have hD : va_D (lA s) (lw cI cJ ad o (nI N) (nI (m_n g0 N)) (nI (m_tn g0 g1 g2 N)) pa pe f0 f1 f2 f3 f4 fo ++ mw cI cZ ad2 2 (nI N) pa pe g0 g1 g2) := q_Dc (L := [ad 0, ad 1, ad 2, ad 3, ad 4, ad 5, o, ad2 0, ad2 1, ad2 2, ad2 3]) hD rfl rfl
        refine lv_istore (lv' := [(6, .int 0), (5, .int 2), (4, .int (nI i)), (3, .ref o), (2, .ref (ad2 0)), (1, .ref (ad 0)), (0, .ref b)]) hx hb dL_law_459 hl (by decide) rfl (fun ls hl => ?_)
        refine lv_aload_n hx hb dL_law_461 rfl (lv_at hl 4 rfl) ?_
        refine q_callV (As := []) (rest := []) ⟨hx, hb, hml, hown, hts⟩ (c_X1_thrown l D cI cZ ad2 2 N pa pe g0 g1 g2 (by omega)) (cwV 0 hts gL_law_X1_thrown rfl rfl rfl kv_X1_thrown ⟨Nat.le_of_ble_eq_true rfl, Nat.le_of_ble_eq_true rfl⟩) (va_recv hK hP (ci := 1) (q0 := 7) rfl rfl) (hP.sub [7, 8, 9, 10] rfl) (hK.sub [0, 2] rfl) rfl hl.1 rfl (Nat.le_of_ble_eq_true rfl) dL_law_462 (show cells + 1 ≤ 650192 by omega) (show slots + 6 ≤ 7145529 by omega) hS (fun H locs hsm hS => ?_)
        have hP := hsm.P hP
        refine lv_iload hx hb dL_law_465 (lv_at hl 1 rfl) ?_
        refine lv_icmp_eq (tgt := 472) hx hb dL_law_467 (by decide) (fun _ => ?_) (fun h9 => absurd rfl h9)
        refine lv_iload hx hb dL_law_472 (lv_at hl 1 rfl) ?_
        refine lv_if_ne (tgt := 489) hx hb dL_law_474 (by decide) (fun _ => ?_) (fun h9 => absurd h9 (by decide))
        refine lv_goto (tgt := 1808) hx hb dL_law_489 (by decide) ?_
        refine W.widen (k := cells + 24) (n := slots + 125) (by omega) (by omega) ?_
        exact kk _ _ _ _ _ _ _ _ _ _ _ _ _ _ _ H locs ls (h) (r) hP hD hS (lv_sub hl [2, 3, 4, 5, 6] rfl)
      · have hlt : N < 24 := by omega
        by_cases hp : 2 ≤ pa
        · have hPl : m_P g0 N g < N := m_P_lt (by omega)
          have e9 : rd f3 (nI g) + 1 = nI (m_P g0 N g + 1) := by rw [q.rd hN (by omega), nI_1]
          have h2 := h.spl (P := (m_P g0 N g + 1)) (a := va_cpy g1 g1 (m_P g0 N g + 1) ((m_P g0 N g + 1) + 1) (N - (m_P g0 N g + 1)) (m_P g0 N g)) hlt (by omega) (Or.inr (h.halfT hg))
          have es : x_sp f0 f3 (nI g) = va_cpy g1 g1 (m_P g0 N g + 1) ((m_P g0 N g + 1) + 1) (N - (m_P g0 N g + 1)) (m_P g0 N g) := by rw [cpy_v, if_neg (by omega), h.spg q (by omega)]
          have eb := h.btw q hg
          rw [← es, ← eb] at h2
          refine lv_aload_n hx hb dL_law_436 rfl (lv_at hl 3 rfl) ?_
          refine l_arg (k := 1) hx hb hX hbl hS (by omega) hL rfl e1 (lv_at hl 4 rfl) (lv_at hl 0 rfl) dL_law_437 dL_law_438 dL_law_440 dL_law_441 dL_law_442 ?_
          refine lv_aload_n hx hb dL_law_443 rfl (lv_at hl 1 rfl) ?_
          refine l_callI (As := [.ref (ad 0), .int (nI g), .ref o]) (rest := []) (Wr := [(ad2 0, .inr (1, [.int th, .int (nI N), .int pa, .int pe, .ref (ad2 1), .ref (ad2 2), .ref (ad2 3)])), (ad2 1, .inl (cI, 25, .inl g0)), (ad2 2, .inl (cI, 25, .inl g1)), (ad2 3, .inl (cZ, 25, .inl g2))]) (W2 := (lw cI cJ ad o (nI (N + 1)) (nI (x_wn (wr (x_mk f1 N (N - (m_P g0 N g + 1))) (nI (m_P g0 N g + 1)) (x_btw (x_tp f1 f3 (nI g)) (x_tp f1 f3 ((nI g) + 1)))) (N + 1))) (nI (x_tcn (wr (x_mk f0 N (N - (m_P g0 N g + 1))) (nI (m_P g0 N g + 1)) (x_sp f0 f3 (nI g))) (wr (x_mk f1 N (N - (m_P g0 N g + 1))) (nI (m_P g0 N g + 1)) (x_btw (x_tp f1 f3 (nI g)) (x_tp f1 f3 ((nI g) + 1)))) (wr (x_mk f2 N (N - (m_P g0 N g + 1))) (nI (m_P g0 N g + 1)) 0) (x_wp (wr (x_mk f1 N (N - (m_P g0 N g + 1))) (nI (m_P g0 N g + 1)) (x_btw (x_tp f1 f3 (nI g)) (x_tp f1 f3 ((nI g) + 1)))) f3 (N + 1)) (x_wn (wr (x_mk f1 N (N - (m_P g0 N g + 1))) (nI (m_P g0 N g + 1)) (x_btw (x_tp f1 f3 (nI g)) (x_tp f1 f3 ((nI g) + 1)))) (N + 1)))) (pa - 2) (pe + 2) (wr (x_mk f0 N (N - (m_P g0 N g + 1))) (nI (m_P g0 N g + 1)) (x_sp f0 f3 (nI g))) (wr (x_mk f1 N (N - (m_P g0 N g + 1))) (nI (m_P g0 N g + 1)) (x_btw (x_tp f1 f3 (nI g)) (x_tp f1 f3 ((nI g) + 1)))) (wr (x_mk f2 N (N - (m_P g0 N g + 1))) (nI (m_P g0 N g + 1)) 0) (x_wp (wr (x_mk f1 N (N - (m_P g0 N g + 1))) (nI (m_P g0 N g + 1)) (x_btw (x_tp f1 f3 (nI g)) (x_tp f1 f3 ((nI g) + 1)))) f3 (N + 1)) (x_wh (wr (x_mk f0 N (N - (m_P g0 N g + 1))) (nI (m_P g0 N g + 1)) (x_sp f0 f3 (nI g))) (wr (x_mk f1 N (N - (m_P g0 N g + 1))) (nI (m_P g0 N g + 1)) (x_btw (x_tp f1 f3 (nI g)) (x_tp f1 f3 ((nI g) + 1)))) (wr (x_mk f2 N (N - (m_P g0 N g + 1))) (nI (m_P g0 N g + 1)) 0) (x_wp (wr (x_mk f1 N (N - (m_P g0 N g + 1))) (nI (m_P g0 N g + 1)) (x_btw (x_tp f1 f3 (nI g)) (x_tp f1 f3 ((nI g) + 1)))) f3 (N + 1)) f4 (x_wn (wr (x_mk f1 N (N - (m_P g0 N g + 1))) (nI (m_P g0 N g + 1)) (x_btw (x_tp f1 f3 (nI g)) (x_tp f1 f3 ((nI g) + 1)))) (N + 1))) (vp_updL fo 0 (((x_btw (x_tp f1 f3 (nI g)) (x_tp f1 f3 ((nI g) + 1)))).toInt64)) ++ [(ad2 0, .inr (1, [.int th, .int (nI N), .int pa, .int pe, .ref (ad2 1), .ref (ad2 2), .ref (ad2 3)])), (ad2 1, .inl (cI, 25, .inl g0)), (ad2 2, .inl (cI, 25, .inl g1)), (ad2 3, .inl (cZ, 25, .inl g2))])) ⟨hx, hb, hml, hown, hts⟩ (c_L_splice l D cI cJ ad o N (nI (m_n g0 N)) (nI (m_tn g0 g1 g2 N)) pa pe f0 f1 f2 f3 f4 (nI g) hi9.1 hi9.2 (h.ti0 q (by omega) hz) (nI_lt hlt (by decide)) hp (m_P g0 N g + 1) e9 (by omega) hlt fo) (vx_cwSW 3 hts gL_law_L_splice rfl rfl rfl kq_L_splice ⟨Nat.le_of_ble_eq_true rfl, Nat.le_of_ble_eq_true rfl⟩) hP hD (hK.sub [0, 1] rfl) hA [0, 1, 2, 3, 4, 5, 6] [7, 8, 9, 10] [4, 5, 6, 7, 8, 9, 10, 0, 1, 2, 3] rfl rfl rfl rfl rfl (by decide) rfl rfl rfl hl.1 rfl (Nat.le_of_ble_eq_true rfl) dL_law_444 (show cells ≤ 650192 by omega) (show slots ≤ 7145529 by omega) hS (fun H locs hP hS => ?_)
          have hD : va_D (lA s) (lw cI cJ ad o (nI (N + 1)) (nI (x_wn (wr (x_mk f1 N (N - (m_P g0 N g + 1))) (nI (m_P g0 N g + 1)) (x_btw (x_tp f1 f3 (nI g)) (x_tp f1 f3 ((nI g) + 1)))) (N + 1))) (nI (x_tcn (wr (x_mk f0 N (N - (m_P g0 N g + 1))) (nI (m_P g0 N g + 1)) (x_sp f0 f3 (nI g))) (wr (x_mk f1 N (N - (m_P g0 N g + 1))) (nI (m_P g0 N g + 1)) (x_btw (x_tp f1 f3 (nI g)) (x_tp f1 f3 ((nI g) + 1)))) (wr (x_mk f2 N (N - (m_P g0 N g + 1))) (nI (m_P g0 N g + 1)) 0) (x_wp (wr (x_mk f1 N (N - (m_P g0 N g + 1))) (nI (m_P g0 N g + 1)) (x_btw (x_tp f1 f3 (nI g)) (x_tp f1 f3 ((nI g) + 1)))) f3 (N + 1)) (x_wn (wr (x_mk f1 N (N - (m_P g0 N g + 1))) (nI (m_P g0 N g + 1)) (x_btw (x_tp f1 f3 (nI g)) (x_tp f1 f3 ((nI g) + 1)))) (N + 1)))) (pa - 2) (pe + 2) (wr (x_mk f0 N (N - (m_P g0 N g + 1))) (nI (m_P g0 N g + 1)) (x_sp f0 f3 (nI g))) (wr (x_mk f1 N (N - (m_P g0 N g + 1))) (nI (m_P g0 N g + 1)) (x_btw (x_tp f1 f3 (nI g)) (x_tp f1 f3 ((nI g) + 1)))) (wr (x_mk f2 N (N - (m_P g0 N g + 1))) (nI (m_P g0 N g + 1)) 0) (x_wp (wr (x_mk f1 N (N - (m_P g0 N g + 1))) (nI (m_P g0 N g + 1)) (x_btw (x_tp f1 f3 (nI g)) (x_tp f1 f3 ((nI g) + 1)))) f3 (N + 1)) (x_wh (wr (x_mk f0 N (N - (m_P g0 N g + 1))) (nI (m_P g0 N g + 1)) (x_sp f0 f3 (nI g))) (wr (x_mk f1 N (N - (m_P g0 N g + 1))) (nI (m_P g0 N g + 1)) (x_btw (x_tp f1 f3 (nI g)) (x_tp f1 f3 ((nI g) + 1)))) (wr (x_mk f2 N (N - (m_P g0 N g + 1))) (nI (m_P g0 N g + 1)) 0) (x_wp (wr (x_mk f1 N (N - (m_P g0 N g + 1))) (nI (m_P g0 N g + 1)) (x_btw (x_tp f1 f3 (nI g)) (x_tp f1 f3 ((nI g) + 1)))) f3 (N + 1)) f4 (x_wn (wr (x_mk f1 N (N - (m_P g0 N g + 1))) (nI (m_P g0 N g + 1)) (x_btw (x_tp f1 f3 (nI g)) (x_tp f1 f3 ((nI g) + 1)))) (N + 1))) (vp_updL fo 0 (((x_btw (x_tp f1 f3 (nI g)) (x_tp f1 f3 ((nI g) + 1)))).toInt64)) ++ [(ad2 0, .inr (1, [.int th, .int (nI N), .int pa, .int pe, .ref (ad2 1), .ref (ad2 2), .ref (ad2 3)])), (ad2 1, .inl (cI, 25, .inl g0)), (ad2 2, .inl (cI, 25, .inl g1)), (ad2 3, .inl (cZ, 25, .inl g2))]) := q_Dc (L := [ad 0, ad 1, ad 2, ad 3, ad 4, ad 5, o, ad2 0, ad2 1, ad2 2, ad2 3]) hD rfl rfl
          refine lv_istore (lv' := [(5, .int 0), (4, .int (nI i)), (3, .ref o), (2, .ref (ad2 0)), (1, .ref (ad 0)), (0, .ref b)]) hx hb dL_law_447 hl (by decide) rfl (fun ls hl => ?_)
          refine lv_aload_n hx hb dL_law_449 rfl (lv_at hl 3 rfl) ?_
          refine l_arg (k := 1) hx hb hX hbl hS (by omega) hL rfl e1 (lv_at hl 5 rfl) (lv_at hl 1 rfl) dL_law_450 dL_law_451 dL_law_453 dL_law_454 dL_law_455 ?_
          refine m_callVI (As := [.int (nI g)]) (rest := []) (Wr := (lw cI cJ ad o (nI (N + 1)) (nI (x_wn (wr (x_mk f1 N (N - (m_P g0 N g + 1))) (nI (m_P g0 N g + 1)) (x_btw (x_tp f1 f3 (nI g)) (x_tp f1 f3 ((nI g) + 1)))) (N + 1))) (nI (x_tcn (wr (x_mk f0 N (N - (m_P g0 N g + 1))) (nI (m_P g0 N g + 1)) (x_sp f0 f3 (nI g))) (wr (x_mk f1 N (N - (m_P g0 N g + 1))) (nI (m_P g0 N g + 1)) (x_btw (x_tp f1 f3 (nI g)) (x_tp f1 f3 ((nI g) + 1)))) (wr (x_mk f2 N (N - (m_P g0 N g + 1))) (nI (m_P g0 N g + 1)) 0) (x_wp (wr (x_mk f1 N (N - (m_P g0 N g + 1))) (nI (m_P g0 N g + 1)) (x_btw (x_tp f1 f3 (nI g)) (x_tp f1 f3 ((nI g) + 1)))) f3 (N + 1)) (x_wn (wr (x_mk f1 N (N - (m_P g0 N g + 1))) (nI (m_P g0 N g + 1)) (x_btw (x_tp f1 f3 (nI g)) (x_tp f1 f3 ((nI g) + 1)))) (N + 1)))) (pa - 2) (pe + 2) (wr (x_mk f0 N (N - (m_P g0 N g + 1))) (nI (m_P g0 N g + 1)) (x_sp f0 f3 (nI g))) (wr (x_mk f1 N (N - (m_P g0 N g + 1))) (nI (m_P g0 N g + 1)) (x_btw (x_tp f1 f3 (nI g)) (x_tp f1 f3 ((nI g) + 1)))) (wr (x_mk f2 N (N - (m_P g0 N g + 1))) (nI (m_P g0 N g + 1)) 0) (x_wp (wr (x_mk f1 N (N - (m_P g0 N g + 1))) (nI (m_P g0 N g + 1)) (x_btw (x_tp f1 f3 (nI g)) (x_tp f1 f3 ((nI g) + 1)))) f3 (N + 1)) (x_wh (wr (x_mk f0 N (N - (m_P g0 N g + 1))) (nI (m_P g0 N g + 1)) (x_sp f0 f3 (nI g))) (wr (x_mk f1 N (N - (m_P g0 N g + 1))) (nI (m_P g0 N g + 1)) (x_btw (x_tp f1 f3 (nI g)) (x_tp f1 f3 ((nI g) + 1)))) (wr (x_mk f2 N (N - (m_P g0 N g + 1))) (nI (m_P g0 N g + 1)) 0) (x_wp (wr (x_mk f1 N (N - (m_P g0 N g + 1))) (nI (m_P g0 N g + 1)) (x_btw (x_tp f1 f3 (nI g)) (x_tp f1 f3 ((nI g) + 1)))) f3 (N + 1)) f4 (x_wn (wr (x_mk f1 N (N - (m_P g0 N g + 1))) (nI (m_P g0 N g + 1)) (x_btw (x_tp f1 f3 (nI g)) (x_tp f1 f3 ((nI g) + 1)))) (N + 1))) (vp_updL fo 0 (((x_btw (x_tp f1 f3 (nI g)) (x_tp f1 f3 ((nI g) + 1)))).toInt64)))) (W2 := (lw cI cJ ad o (nI (N + 1)) (nI (x_wn (wr (x_mk f1 N (N - (m_P g0 N g + 1))) (nI (m_P g0 N g + 1)) (x_btw (x_tp f1 f3 (nI g)) (x_tp f1 f3 ((nI g) + 1)))) (N + 1))) (nI (x_tcn (wr (x_mk f0 N (N - (m_P g0 N g + 1))) (nI (m_P g0 N g + 1)) (x_sp f0 f3 (nI g))) (wr (x_mk f1 N (N - (m_P g0 N g + 1))) (nI (m_P g0 N g + 1)) (x_btw (x_tp f1 f3 (nI g)) (x_tp f1 f3 ((nI g) + 1)))) (wr (x_mk f2 N (N - (m_P g0 N g + 1))) (nI (m_P g0 N g + 1)) 0) (x_wp (wr (x_mk f1 N (N - (m_P g0 N g + 1))) (nI (m_P g0 N g + 1)) (x_btw (x_tp f1 f3 (nI g)) (x_tp f1 f3 ((nI g) + 1)))) f3 (N + 1)) (x_wn (wr (x_mk f1 N (N - (m_P g0 N g + 1))) (nI (m_P g0 N g + 1)) (x_btw (x_tp f1 f3 (nI g)) (x_tp f1 f3 ((nI g) + 1)))) (N + 1)))) (pa - 2) (pe + 2) (wr (x_mk f0 N (N - (m_P g0 N g + 1))) (nI (m_P g0 N g + 1)) (x_sp f0 f3 (nI g))) (wr (x_mk f1 N (N - (m_P g0 N g + 1))) (nI (m_P g0 N g + 1)) (x_btw (x_tp f1 f3 (nI g)) (x_tp f1 f3 ((nI g) + 1)))) (wr (x_mk f2 N (N - (m_P g0 N g + 1))) (nI (m_P g0 N g + 1)) 0) (x_wp (wr (x_mk f1 N (N - (m_P g0 N g + 1))) (nI (m_P g0 N g + 1)) (x_btw (x_tp f1 f3 (nI g)) (x_tp f1 f3 ((nI g) + 1)))) f3 (N + 1)) (x_wh (wr (x_mk f0 N (N - (m_P g0 N g + 1))) (nI (m_P g0 N g + 1)) (x_sp f0 f3 (nI g))) (wr (x_mk f1 N (N - (m_P g0 N g + 1))) (nI (m_P g0 N g + 1)) (x_btw (x_tp f1 f3 (nI g)) (x_tp f1 f3 ((nI g) + 1)))) (wr (x_mk f2 N (N - (m_P g0 N g + 1))) (nI (m_P g0 N g + 1)) 0) (x_wp (wr (x_mk f1 N (N - (m_P g0 N g + 1))) (nI (m_P g0 N g + 1)) (x_btw (x_tp f1 f3 (nI g)) (x_tp f1 f3 ((nI g) + 1)))) f3 (N + 1)) f4 (x_wn (wr (x_mk f1 N (N - (m_P g0 N g + 1))) (nI (m_P g0 N g + 1)) (x_btw (x_tp f1 f3 (nI g)) (x_tp f1 f3 ((nI g) + 1)))) (N + 1))) (vp_updL fo 0 (((x_btw (x_tp f1 f3 (nI g)) (x_tp f1 f3 ((nI g) + 1)))).toInt64)) ++ mw cI cZ ad2 0 (nI (N + 1)) (pa - 2) (pe + 2) (upd (va_cpy g0 g0 ((m_P g0 N g) + 1) ((m_P g0 N g) + 1 + 1) (N - ((m_P g0 N g) + 1))) ((m_P g0 N g) + 1) (m_half (g0 (m_P g0 N g)) (g0 (m_P g0 N (g + 1))))) (upd (va_cpy g1 g1 ((m_P g0 N g) + 1) ((m_P g0 N g) + 1 + 1) (N - ((m_P g0 N g) + 1))) ((m_P g0 N g) + 1) ((va_cpy g1 g1 ((m_P g0 N g) + 1) ((m_P g0 N g) + 1 + 1) (N - ((m_P g0 N g) + 1))) (m_P g0 N g))) (upd (va_cpy g2 g2 ((m_P g0 N g) + 1) ((m_P g0 N g) + 1 + 1) (N - ((m_P g0 N g) + 1))) ((m_P g0 N g) + 1) 0))) ⟨hx, hb, hml, hown, hts⟩ (c_X1_splice_ok l D cI cZ ad2 th N pa pe g0 g1 g2 hN g hg hm hz hlt hp h.fit) (cwV 1 hts gL_law_X1_splice rfl rfl rfl kv_X1_splice ⟨Nat.le_of_ble_eq_true rfl, Nat.le_of_ble_eq_true rfl⟩) (va_recv hK hP (ci := 1) (q0 := 7) rfl rfl) hP hD (hK.sub [0, 2] rfl) hA [7, 8, 9, 10] [0, 1, 2, 3, 4, 5, 6] [0, 1, 2, 3, 4, 5, 6, 7, 8, 9, 10] rfl rfl rfl rfl rfl (by decide) rfl rfl rfl hl.1 rfl (Nat.le_of_ble_eq_true rfl) dL_law_456 (show cells ≤ 650192 by omega) (show slots ≤ 7145529 by omega) hS (fun H locs hP hS => ?_)
          have hD : va_D (lA s) (lw cI cJ ad o (nI (N + 1)) (nI (x_wn (wr (x_mk f1 N (N - (m_P g0 N g + 1))) (nI (m_P g0 N g + 1)) (x_btw (x_tp f1 f3 (nI g)) (x_tp f1 f3 ((nI g) + 1)))) (N + 1))) (nI (x_tcn (wr (x_mk f0 N (N - (m_P g0 N g + 1))) (nI (m_P g0 N g + 1)) (x_sp f0 f3 (nI g))) (wr (x_mk f1 N (N - (m_P g0 N g + 1))) (nI (m_P g0 N g + 1)) (x_btw (x_tp f1 f3 (nI g)) (x_tp f1 f3 ((nI g) + 1)))) (wr (x_mk f2 N (N - (m_P g0 N g + 1))) (nI (m_P g0 N g + 1)) 0) (x_wp (wr (x_mk f1 N (N - (m_P g0 N g + 1))) (nI (m_P g0 N g + 1)) (x_btw (x_tp f1 f3 (nI g)) (x_tp f1 f3 ((nI g) + 1)))) f3 (N + 1)) (x_wn (wr (x_mk f1 N (N - (m_P g0 N g + 1))) (nI (m_P g0 N g + 1)) (x_btw (x_tp f1 f3 (nI g)) (x_tp f1 f3 ((nI g) + 1)))) (N + 1)))) (pa - 2) (pe + 2) (wr (x_mk f0 N (N - (m_P g0 N g + 1))) (nI (m_P g0 N g + 1)) (x_sp f0 f3 (nI g))) (wr (x_mk f1 N (N - (m_P g0 N g + 1))) (nI (m_P g0 N g + 1)) (x_btw (x_tp f1 f3 (nI g)) (x_tp f1 f3 ((nI g) + 1)))) (wr (x_mk f2 N (N - (m_P g0 N g + 1))) (nI (m_P g0 N g + 1)) 0) (x_wp (wr (x_mk f1 N (N - (m_P g0 N g + 1))) (nI (m_P g0 N g + 1)) (x_btw (x_tp f1 f3 (nI g)) (x_tp f1 f3 ((nI g) + 1)))) f3 (N + 1)) (x_wh (wr (x_mk f0 N (N - (m_P g0 N g + 1))) (nI (m_P g0 N g + 1)) (x_sp f0 f3 (nI g))) (wr (x_mk f1 N (N - (m_P g0 N g + 1))) (nI (m_P g0 N g + 1)) (x_btw (x_tp f1 f3 (nI g)) (x_tp f1 f3 ((nI g) + 1)))) (wr (x_mk f2 N (N - (m_P g0 N g + 1))) (nI (m_P g0 N g + 1)) 0) (x_wp (wr (x_mk f1 N (N - (m_P g0 N g + 1))) (nI (m_P g0 N g + 1)) (x_btw (x_tp f1 f3 (nI g)) (x_tp f1 f3 ((nI g) + 1)))) f3 (N + 1)) f4 (x_wn (wr (x_mk f1 N (N - (m_P g0 N g + 1))) (nI (m_P g0 N g + 1)) (x_btw (x_tp f1 f3 (nI g)) (x_tp f1 f3 ((nI g) + 1)))) (N + 1))) (vp_updL fo 0 (((x_btw (x_tp f1 f3 (nI g)) (x_tp f1 f3 ((nI g) + 1)))).toInt64)) ++ mw cI cZ ad2 0 (nI (N + 1)) (pa - 2) (pe + 2) (upd (va_cpy g0 g0 ((m_P g0 N g) + 1) ((m_P g0 N g) + 1 + 1) (N - ((m_P g0 N g) + 1))) ((m_P g0 N g) + 1) (m_half (g0 (m_P g0 N g)) (g0 (m_P g0 N (g + 1))))) (upd (va_cpy g1 g1 ((m_P g0 N g) + 1) ((m_P g0 N g) + 1 + 1) (N - ((m_P g0 N g) + 1))) ((m_P g0 N g) + 1) ((va_cpy g1 g1 ((m_P g0 N g) + 1) ((m_P g0 N g) + 1 + 1) (N - ((m_P g0 N g) + 1))) (m_P g0 N g))) (upd (va_cpy g2 g2 ((m_P g0 N g) + 1) ((m_P g0 N g) + 1 + 1) (N - ((m_P g0 N g) + 1))) ((m_P g0 N g) + 1) 0)) := q_Dc (L := [ad 0, ad 1, ad 2, ad 3, ad 4, ad 5, o, ad2 0, ad2 1, ad2 2, ad2 3]) hD rfl rfl
          refine lv_istore (lv' := [(6, .int (m_half (g0 (m_P g0 N g)) (g0 (m_P g0 N (g + 1))))), (5, .int 0), (4, .int (nI i)), (3, .ref o), (2, .ref (ad2 0)), (1, .ref (ad 0)), (0, .ref b)]) hx hb dL_law_459 hl (by decide) rfl (fun ls hl => ?_)
          refine lv_aload_n hx hb dL_law_461 rfl (lv_at hl 4 rfl) ?_
          refine q_callV (As := []) (rest := []) ⟨hx, hb, hml, hown, hts⟩ (c_X1_thrown l D cI cZ ad2 0 (N + 1) (pa - 2) (pe + 2) (upd (va_cpy g0 g0 ((m_P g0 N g) + 1) ((m_P g0 N g) + 1 + 1) (N - ((m_P g0 N g) + 1))) ((m_P g0 N g) + 1) (m_half (g0 (m_P g0 N g)) (g0 (m_P g0 N (g + 1))))) (upd (va_cpy g1 g1 ((m_P g0 N g) + 1) ((m_P g0 N g) + 1 + 1) (N - ((m_P g0 N g) + 1))) ((m_P g0 N g) + 1) ((va_cpy g1 g1 ((m_P g0 N g) + 1) ((m_P g0 N g) + 1 + 1) (N - ((m_P g0 N g) + 1))) (m_P g0 N g))) (upd (va_cpy g2 g2 ((m_P g0 N g) + 1) ((m_P g0 N g) + 1 + 1) (N - ((m_P g0 N g) + 1))) ((m_P g0 N g) + 1) 0) (by omega)) (cwV 0 hts gL_law_X1_thrown rfl rfl rfl kv_X1_thrown ⟨Nat.le_of_ble_eq_true rfl, Nat.le_of_ble_eq_true rfl⟩) (va_recv hK hP (ci := 1) (q0 := 7) rfl rfl) (hP.sub [7, 8, 9, 10] rfl) (hK.sub [0, 2] rfl) rfl hl.1 rfl (Nat.le_of_ble_eq_true rfl) dL_law_462 (show cells ≤ 650192 by omega) (show slots ≤ 7145529 by omega) hS (fun H locs hsm hS => ?_)
          have hP := hsm.P hP
          refine lv_iload hx hb dL_law_465 (lv_at hl 1 rfl) ?_
          refine lv_icmp_eq (tgt := 472) hx hb dL_law_467 (by decide) (fun _ => ?_) (fun h9 => absurd rfl h9)
          refine lv_iload hx hb dL_law_472 (lv_at hl 1 rfl) ?_
          refine lv_if_ne (tgt := 489) hx hb dL_law_474 (by decide) (fun h9 => absurd (by decide) h9) (fun _ => ?_)
          refine lv_aload_n hx hb dL_law_477 rfl (lv_at hl 3 rfl) ?_
          refine lv_iconst (v := 0) hx hb dL_law_478 (by decide) ?_
          refine va_lald hx hb hK hP 6 1 rfl rfl (vp_in_nI (n := 0) (by decide) (by decide)) dL_law_479 ?_
          rw [upd0]
          refine lv_iload hx hb dL_law_480 (lv_at hl 0 rfl) ?_
          refine lv_i2l (v := ((m_half (g0 (m_P g0 N g)) (g0 (m_P g0 N (g + 1))))).toInt64) hx hb dL_law_482 rfl ?_
          refine l_lcmp0 hx hb (by rw [eb]) dL_law_483 ?_
          refine lv_if_eq (tgt := 489) hx hb dL_law_484 (by decide) (fun _ => ?_) (fun h9 => absurd rfl h9)
          refine lv_goto (tgt := 1808) hx hb dL_law_489 (by decide) ?_
          refine W.widen (k := cells + 24) (n := slots + 125) (by omega) (by omega) ?_
          exact kk _ _ _ _ _ _ _ _ _ _ _ _ _ _ _ H locs ls (by rw [← es, ← eb]; exact h2) (by rw [← es, ← eb]; exact h2.recount rfl) hP hD hS (lv_sub hl [2, 3, 4, 5, 6] rfl)
        · refine lv_aload_n hx hb dL_law_436 rfl (lv_at hl 3 rfl) ?_
          refine l_arg (k := 1) hx hb hX hbl hS (by omega) hL rfl e1 (lv_at hl 4 rfl) (lv_at hl 0 rfl) dL_law_437 dL_law_438 dL_law_440 dL_law_441 dL_law_442 ?_
          refine lv_aload_n hx hb dL_law_443 rfl (lv_at hl 1 rfl) ?_
          refine l_callE (As := [.ref (ad 0), .int (nI g), .ref o]) (rest := []) ⟨hx, hb, hml, hown, hts⟩ (t_L_splice_4 l D sa hst cI cJ ad o N (nI (m_n g0 N)) (nI (m_tn g0 g1 g2 N)) pa pe f0 f1 f2 f3 f4 (nI g) hi9.1 hi9.2 (h.ti0 q (by omega) hz) (nI_lt hlt (by decide)) hp fo) (vx_cwSW 3 hts gL_law_L_splice rfl rfl rfl kq_L_splice ⟨Nat.le_of_ble_eq_true rfl, Nat.le_of_ble_eq_true rfl⟩) (hP.sub [0, 1, 2, 3, 4, 5, 6] rfl) (hK.sub [0, 1] rfl) (hZ.kept fun a ha => hS.2.1 a ha (Nat.not_le.mpr ha)) hN9 rfl hl.1 rfl (Nat.le_of_ble_eq_true rfl) dL_law_444 (show cells + 1 ≤ 650192 by omega) (show slots + 6 ≤ 7145529 by omega) hS (fun H locs hsm hS => ?_)
          have hP := hsm.P hP
          refine lv_istore (lv' := [(5, .int 2), (4, .int (nI i)), (3, .ref o), (2, .ref (ad2 0)), (1, .ref (ad 0)), (0, .ref b)]) hx hb dL_law_447 hl (by decide) rfl (fun ls hl => ?_)
          refine lv_aload_n hx hb dL_law_449 rfl (lv_at hl 3 rfl) ?_
          refine l_arg (k := 1) hx hb hX hbl hS (by omega) hL rfl e1 (lv_at hl 5 rfl) (lv_at hl 1 rfl) dL_law_450 dL_law_451 dL_law_453 dL_law_454 dL_law_455 ?_
          refine m_callVI (As := [.int (nI g)]) (rest := []) (Wr := (lw cI cJ ad o (nI N) (nI (m_n g0 N)) (nI (m_tn g0 g1 g2 N)) pa pe f0 f1 f2 f3 f4 fo)) (W2 := (lw cI cJ ad o (nI N) (nI (m_n g0 N)) (nI (m_tn g0 g1 g2 N)) pa pe f0 f1 f2 f3 f4 fo ++ mw cI cZ ad2 2 (nI N) pa pe g0 g1 g2)) ⟨hx, hb, hml, hown, hts⟩ (c_X1_splice_4 l D cI cZ ad2 th N pa pe g0 g1 g2 hN g hg hm hz hlt hp) (cwV 1 hts gL_law_X1_splice rfl rfl rfl kv_X1_splice ⟨Nat.le_of_ble_eq_true rfl, Nat.le_of_ble_eq_true rfl⟩) (va_recv hK hP (ci := 1) (q0 := 7) rfl rfl) hP hD (hK.sub [0, 2] rfl) hA [7, 8, 9, 10] [0, 1, 2, 3, 4, 5, 6] [0, 1, 2, 3, 4, 5, 6, 7, 8, 9, 10] rfl rfl rfl rfl rfl (by decide) rfl rfl rfl hl.1 rfl (Nat.le_of_ble_eq_true rfl) dL_law_456 (show cells + 1 ≤ 650192 by omega) (show slots + 6 ≤ 7145529 by omega) hS (fun H locs hP hS => ?_)
          have hD : va_D (lA s) (lw cI cJ ad o (nI N) (nI (m_n g0 N)) (nI (m_tn g0 g1 g2 N)) pa pe f0 f1 f2 f3 f4 fo ++ mw cI cZ ad2 2 (nI N) pa pe g0 g1 g2) := q_Dc (L := [ad 0, ad 1, ad 2, ad 3, ad 4, ad 5, o, ad2 0, ad2 1, ad2 2, ad2 3]) hD rfl rfl
          refine lv_istore (lv' := [(6, .int 0), (5, .int 2), (4, .int (nI i)), (3, .ref o), (2, .ref (ad2 0)), (1, .ref (ad 0)), (0, .ref b)]) hx hb dL_law_459 hl (by decide) rfl (fun ls hl => ?_)
          refine lv_aload_n hx hb dL_law_461 rfl (lv_at hl 4 rfl) ?_
          refine q_callV (As := []) (rest := []) ⟨hx, hb, hml, hown, hts⟩ (c_X1_thrown l D cI cZ ad2 2 N pa pe g0 g1 g2 (by omega)) (cwV 0 hts gL_law_X1_thrown rfl rfl rfl kv_X1_thrown ⟨Nat.le_of_ble_eq_true rfl, Nat.le_of_ble_eq_true rfl⟩) (va_recv hK hP (ci := 1) (q0 := 7) rfl rfl) (hP.sub [7, 8, 9, 10] rfl) (hK.sub [0, 2] rfl) rfl hl.1 rfl (Nat.le_of_ble_eq_true rfl) dL_law_462 (show cells + 1 ≤ 650192 by omega) (show slots + 6 ≤ 7145529 by omega) hS (fun H locs hsm hS => ?_)
          have hP := hsm.P hP
          refine lv_iload hx hb dL_law_465 (lv_at hl 1 rfl) ?_
          refine lv_icmp_eq (tgt := 472) hx hb dL_law_467 (by decide) (fun _ => ?_) (fun h9 => absurd rfl h9)
          refine lv_iload hx hb dL_law_472 (lv_at hl 1 rfl) ?_
          refine lv_if_ne (tgt := 489) hx hb dL_law_474 (by decide) (fun _ => ?_) (fun h9 => absurd h9 (by decide))
          refine lv_goto (tgt := 1808) hx hb dL_law_489 (by decide) ?_
          refine W.widen (k := cells + 24) (n := slots + 125) (by omega) (by omega) ?_
          exact kk _ _ _ _ _ _ _ _ _ _ _ _ _ _ _ H locs ls (h) (r) hP hD hS (lv_sub hl [2, 3, 4, 5, 6] rfl)
    · refine lv_aload_n hx hb dL_law_436 rfl (lv_at hl 3 rfl) ?_
      refine l_arg (k := 1) hx hb hX hbl hS (by omega) hL rfl e1 (lv_at hl 4 rfl) (lv_at hl 0 rfl) dL_law_437 dL_law_438 dL_law_440 dL_law_441 dL_law_442 ?_
      refine lv_aload_n hx hb dL_law_443 rfl (lv_at hl 1 rfl) ?_
      refine l_callE (As := [.ref (ad 0), .int (nI g), .ref o]) (rest := []) ⟨hx, hb, hml, hown, hts⟩ (t_L_splice_2 l D sa hst cI cJ ad o N (nI (m_n g0 N)) (nI (m_tn g0 g1 g2 N)) pa pe f0 f1 f2 f3 f4 (nI g) hi9.1 hi9.2 (h.ti1 q (by omega) hz) fo) (vx_cwSW 3 hts gL_law_L_splice rfl rfl rfl kq_L_splice ⟨Nat.le_of_ble_eq_true rfl, Nat.le_of_ble_eq_true rfl⟩) (hP.sub [0, 1, 2, 3, 4, 5, 6] rfl) (hK.sub [0, 1] rfl) (hZ.kept fun a ha => hS.2.1 a ha (Nat.not_le.mpr ha)) hN9 rfl hl.1 rfl (Nat.le_of_ble_eq_true rfl) dL_law_444 (show cells + 1 ≤ 650192 by omega) (show slots + 6 ≤ 7145529 by omega) hS (fun H locs hsm hS => ?_)
      have hP := hsm.P hP
      refine lv_istore (lv' := [(5, .int 2), (4, .int (nI i)), (3, .ref o), (2, .ref (ad2 0)), (1, .ref (ad 0)), (0, .ref b)]) hx hb dL_law_447 hl (by decide) rfl (fun ls hl => ?_)
      refine lv_aload_n hx hb dL_law_449 rfl (lv_at hl 3 rfl) ?_
      refine l_arg (k := 1) hx hb hX hbl hS (by omega) hL rfl e1 (lv_at hl 5 rfl) (lv_at hl 1 rfl) dL_law_450 dL_law_451 dL_law_453 dL_law_454 dL_law_455 ?_
      refine m_callVI (As := [.int (nI g)]) (rest := []) (Wr := (lw cI cJ ad o (nI N) (nI (m_n g0 N)) (nI (m_tn g0 g1 g2 N)) pa pe f0 f1 f2 f3 f4 fo)) (W2 := (lw cI cJ ad o (nI N) (nI (m_n g0 N)) (nI (m_tn g0 g1 g2 N)) pa pe f0 f1 f2 f3 f4 fo ++ mw cI cZ ad2 2 (nI N) pa pe g0 g1 g2)) ⟨hx, hb, hml, hown, hts⟩ (c_X1_splice_2 l D cI cZ ad2 th N pa pe g0 g1 g2 hN g hg hm hz) (cwV 1 hts gL_law_X1_splice rfl rfl rfl kv_X1_splice ⟨Nat.le_of_ble_eq_true rfl, Nat.le_of_ble_eq_true rfl⟩) (va_recv hK hP (ci := 1) (q0 := 7) rfl rfl) hP hD (hK.sub [0, 2] rfl) hA [7, 8, 9, 10] [0, 1, 2, 3, 4, 5, 6] [0, 1, 2, 3, 4, 5, 6, 7, 8, 9, 10] rfl rfl rfl rfl rfl (by decide) rfl rfl rfl hl.1 rfl (Nat.le_of_ble_eq_true rfl) dL_law_456 (show cells + 1 ≤ 650192 by omega) (show slots + 6 ≤ 7145529 by omega) hS (fun H locs hP hS => ?_)
      have hD : va_D (lA s) (lw cI cJ ad o (nI N) (nI (m_n g0 N)) (nI (m_tn g0 g1 g2 N)) pa pe f0 f1 f2 f3 f4 fo ++ mw cI cZ ad2 2 (nI N) pa pe g0 g1 g2) := q_Dc (L := [ad 0, ad 1, ad 2, ad 3, ad 4, ad 5, o, ad2 0, ad2 1, ad2 2, ad2 3]) hD rfl rfl
      refine lv_istore (lv' := [(6, .int 0), (5, .int 2), (4, .int (nI i)), (3, .ref o), (2, .ref (ad2 0)), (1, .ref (ad 0)), (0, .ref b)]) hx hb dL_law_459 hl (by decide) rfl (fun ls hl => ?_)
      refine lv_aload_n hx hb dL_law_461 rfl (lv_at hl 4 rfl) ?_
      refine q_callV (As := []) (rest := []) ⟨hx, hb, hml, hown, hts⟩ (c_X1_thrown l D cI cZ ad2 2 N pa pe g0 g1 g2 (by omega)) (cwV 0 hts gL_law_X1_thrown rfl rfl rfl kv_X1_thrown ⟨Nat.le_of_ble_eq_true rfl, Nat.le_of_ble_eq_true rfl⟩) (va_recv hK hP (ci := 1) (q0 := 7) rfl rfl) (hP.sub [7, 8, 9, 10] rfl) (hK.sub [0, 2] rfl) rfl hl.1 rfl (Nat.le_of_ble_eq_true rfl) dL_law_462 (show cells + 1 ≤ 650192 by omega) (show slots + 6 ≤ 7145529 by omega) hS (fun H locs hsm hS => ?_)
      have hP := hsm.P hP
      refine lv_iload hx hb dL_law_465 (lv_at hl 1 rfl) ?_
      refine lv_icmp_eq (tgt := 472) hx hb dL_law_467 (by decide) (fun _ => ?_) (fun h9 => absurd rfl h9)
      refine lv_iload hx hb dL_law_472 (lv_at hl 1 rfl) ?_
      refine lv_if_ne (tgt := 489) hx hb dL_law_474 (by decide) (fun _ => ?_) (fun h9 => absurd h9 (by decide))
      refine lv_goto (tgt := 1808) hx hb dL_law_489 (by decide) ?_
      refine W.widen (k := cells + 24) (n := slots + 125) (by omega) (by omega) ?_
      exact kk _ _ _ _ _ _ _ _ _ _ _ _ _ _ _ H locs ls (h) (r) hP hD hS (lv_sub hl [2, 3, 4, 5, 6] rfl)

set_option maxHeartbeats 4000000 in
set_option maxRecDepth 100000 in
theorem law_rest {p : Program} {l : Launch} {e : Env} {s : State} {m : MethodId} {args : Array Value} {below : List Frame} {meth : Method} {c : Code} {b L : Nat} {xs : Nat → Int32} {D : va_G} {cI cJ cZ : ClassId} {sa ad ad2 : Nat → Nat} {o cells slots i : Nat} {Q : State → Prop}
    (C : law_C p l s m c args b L xs D cI cJ cZ sa) (kk : law_K p l e s m args below meth c b D cI cJ cZ ad ad2 o cells slots Q i) {N : Nat} {w t pa pe : Int32} {f0 f1 f2 f3 f4 : Nat → Int32} {fo : Nat → Int64} {th : Int32} {g0 g1 g2 : Nat → Int32} {H : Heap} {locs : List Loc} {ls : Array Slot}
    (h : Ra N f0 f1 f2 g0 g1 g2) (r : Rw N f3 f4 g0 g1 g2 w t) (hP : va_P D vwCl (lW cI cJ cZ ad ad2 o (nI N) w t pa pe f0 f1 f2 f3 f4 fo th g0 g1 g2) H) (hD : va_D (lA s) (lW cI cJ cZ ad ad2 o (nI N) w t pa pe f0 f1 f2 f3 f4 fo th g0 g1 g2)) (hS : va_S (lA s) s.heap H locs) (hl : lv_has ls 9 (law_L b ad ad2 o i))
    (hi : i + 2 < L) (hc : cells + 24 ≤ 650192) (hs : slots + 125 ≤ 7145529) : W p l e room_1 s m args below meth c H locs cells slots Q (F0 m 492 ls []) := by
  obtain ⟨hx, hb, hml, hown, hts, hX, hbl, hK, hZ, hN9, hst, hL⟩ := C
  have ew := r.ww
  have et := r.tt
  subst ew
  subst et
  have q := r.rp
  have hN := h.n
  have hn : m_n g0 N ≤ 24 := Nat.le_trans (m_n_le g0 N) hN
  have ht : m_tn g0 g1 g2 N ≤ 24 := by
    have h9 := m_ab_lt (g0 := g0) (g1 := g1) (g2 := g2) hN
    unfold m_tn
    split <;> omega
  have hA : ∀ q : Nat, s.heap.size ≤ q → lA s q := fun _ h => h
  obtain ⟨x1, e1⟩ : ∃ x1, xs (i + 1) = x1 := ⟨_, rfl⟩
  obtain ⟨x2, e2⟩ : ∃ x2, xs (i + 2) = x2 := ⟨_, rfl⟩
  have hl : lv_has ls 9 [(4, .int (nI i)), (3, .ref o), (2, .ref (ad2 0)), (1, .ref (ad 0)), (0, .ref b)] := hl
  cases hm : m_in x1 1 60 with
  | false =>
    refine lv_aload_n hx hb dL_law_492 rfl (lv_at hl 3 rfl) ?_
    refine l_arg (k := 1) hx hb hX hbl hS (by omega) hL rfl e1 (lv_at hl 4 rfl) (lv_at hl 0 rfl) dL_law_493 dL_law_494 dL_law_496 dL_law_497 dL_law_498 ?_
    refine lv_aload_n hx hb dL_law_499 rfl (lv_at hl 1 rfl) ?_
    refine l_callE (As := [.ref (ad 0), .int x1, .ref o]) (rest := []) ⟨hx, hb, hml, hown, hts⟩ (t_L_rest_1 l D sa hst cI cJ ad o (nI N) (nI (m_n g0 N)) (nI (m_tn g0 g1 g2 N)) pa pe f0 f1 f2 f3 f4 x1 (in_rs0 hm) fo) (vx_cwSW 3 hts gL_law_L_rest rfl rfl rfl kq_L_rest ⟨Nat.le_of_ble_eq_true rfl, Nat.le_of_ble_eq_true rfl⟩) (hP.sub [0, 1, 2, 3, 4, 5, 6] rfl) (hK.sub [0, 1] rfl) (hZ.kept fun a ha => hS.2.1 a ha (Nat.not_le.mpr ha)) hN9 rfl hl.1 rfl (Nat.le_of_ble_eq_true rfl) dL_law_500 (show cells + 1 ≤ 650192 by omega) (show slots + 6 ≤ 7145529 by omega) hS (fun H locs hsm hS => ?_)
    have hP := hsm.P hP
    refine lv_istore (lv' := [(5, .int 1), (4, .int (nI i)), (3, .ref o), (2, .ref (ad2 0)), (1, .ref (ad 0)), (0, .ref b)]) hx hb dL_law_503 hl (by decide) rfl (fun ls hl => ?_)
    refine lv_aload_n hx hb dL_law_505 rfl (lv_at hl 3 rfl) ?_
    refine l_arg (k := 1) hx hb hX hbl hS (by omega) hL rfl e1 (lv_at hl 5 rfl) (lv_at hl 1 rfl) dL_law_506 dL_law_507 dL_law_509 dL_law_510 dL_law_511 ?_
    refine m_callVI (As := [.int x1]) (rest := []) (Wr := (lw cI cJ ad o (nI N) (nI (m_n g0 N)) (nI (m_tn g0 g1 g2 N)) pa pe f0 f1 f2 f3 f4 fo)) (W2 := (lw cI cJ ad o (nI N) (nI (m_n g0 N)) (nI (m_tn g0 g1 g2 N)) pa pe f0 f1 f2 f3 f4 fo ++ mw cI cZ ad2 1 (nI N) pa pe g0 g1 g2)) ⟨hx, hb, hml, hown, hts⟩ (c_X1_rest_1 l D cI cZ ad2 th N pa pe g0 g1 g2 hN x1 hm) (cwV 1 hts gL_law_X1_rest rfl rfl rfl kv_X1_rest ⟨Nat.le_of_ble_eq_true rfl, Nat.le_of_ble_eq_true rfl⟩) (va_recv hK hP (ci := 1) (q0 := 7) rfl rfl) hP hD (hK.sub [0, 2] rfl) hA [7, 8, 9, 10] [0, 1, 2, 3, 4, 5, 6] [0, 1, 2, 3, 4, 5, 6, 7, 8, 9, 10] rfl rfl rfl rfl rfl (by decide) rfl rfl rfl hl.1 rfl (Nat.le_of_ble_eq_true rfl) dL_law_512 (show cells + 1 ≤ 650192 by omega) (show slots + 6 ≤ 7145529 by omega) hS (fun H locs hP hS => ?_)
    have hD : va_D (lA s) (lw cI cJ ad o (nI N) (nI (m_n g0 N)) (nI (m_tn g0 g1 g2 N)) pa pe f0 f1 f2 f3 f4 fo ++ mw cI cZ ad2 1 (nI N) pa pe g0 g1 g2) := q_Dc (L := [ad 0, ad 1, ad 2, ad 3, ad 4, ad 5, o, ad2 0, ad2 1, ad2 2, ad2 3]) hD rfl rfl
    refine lv_istore (lv' := [(6, .int 0), (5, .int 1), (4, .int (nI i)), (3, .ref o), (2, .ref (ad2 0)), (1, .ref (ad 0)), (0, .ref b)]) hx hb dL_law_515 hl (by decide) rfl (fun ls hl => ?_)
    refine lv_aload_n hx hb dL_law_517 rfl (lv_at hl 4 rfl) ?_
    refine q_callV (As := []) (rest := []) ⟨hx, hb, hml, hown, hts⟩ (c_X1_thrown l D cI cZ ad2 1 N pa pe g0 g1 g2 (by omega)) (cwV 0 hts gL_law_X1_thrown rfl rfl rfl kv_X1_thrown ⟨Nat.le_of_ble_eq_true rfl, Nat.le_of_ble_eq_true rfl⟩) (va_recv hK hP (ci := 1) (q0 := 7) rfl rfl) (hP.sub [7, 8, 9, 10] rfl) (hK.sub [0, 2] rfl) rfl hl.1 rfl (Nat.le_of_ble_eq_true rfl) dL_law_518 (show cells + 1 ≤ 650192 by omega) (show slots + 6 ≤ 7145529 by omega) hS (fun H locs hsm hS => ?_)
    have hP := hsm.P hP
    refine lv_iload hx hb dL_law_521 (lv_at hl 1 rfl) ?_
    refine lv_icmp_eq (tgt := 528) hx hb dL_law_523 (by decide) (fun _ => ?_) (fun h9 => absurd rfl h9)
    refine lv_iload hx hb dL_law_528 (lv_at hl 1 rfl) ?_
    refine lv_if_ne (tgt := 545) hx hb dL_law_530 (by decide) (fun _ => ?_) (fun h9 => absurd h9 (by decide))
    refine lv_goto (tgt := 1808) hx hb dL_law_545 (by decide) ?_
    refine W.widen (k := cells + 24) (n := slots + 125) (by omega) (by omega) ?_
    exact kk _ _ _ _ _ _ _ _ _ _ _ _ _ _ _ H locs ls (h) (r) hP hD hS (lv_sub hl [2, 3, 4, 5, 6] rfl)
  | true =>
    have hi9 := in_rs1 hm
    refine lv_aload_n hx hb dL_law_492 rfl (lv_at hl 3 rfl) ?_
    refine l_arg (k := 1) hx hb hX hbl hS (by omega) hL rfl e1 (lv_at hl 4 rfl) (lv_at hl 0 rfl) dL_law_493 dL_law_494 dL_law_496 dL_law_497 dL_law_498 ?_
    refine lv_aload_n hx hb dL_law_499 rfl (lv_at hl 1 rfl) ?_
    refine l_callI (As := [.ref (ad 0), .int x1, .ref o]) (rest := []) (Wr := [(ad2 0, .inr (1, [.int th, .int (nI N), .int pa, .int pe, .ref (ad2 1), .ref (ad2 2), .ref (ad2 3)])), (ad2 1, .inl (cI, 25, .inl g0)), (ad2 2, .inl (cI, 25, .inl g1)), (ad2 3, .inl (cZ, 25, .inl g2))]) (W2 := (lw cI cJ ad o (nI N) (nI (m_n g0 N)) (nI (m_tn g0 g1 g2 N)) (i_min 99 (pa + x1)) pe f0 f1 f2 f3 f4 (vp_updL fo 0 (((i_min 99 (pa + x1))).toInt64)) ++ [(ad2 0, .inr (1, [.int th, .int (nI N), .int pa, .int pe, .ref (ad2 1), .ref (ad2 2), .ref (ad2 3)])), (ad2 1, .inl (cI, 25, .inl g0)), (ad2 2, .inl (cI, 25, .inl g1)), (ad2 3, .inl (cZ, 25, .inl g2))])) ⟨hx, hb, hml, hown, hts⟩ (c_L_rest l D cI cJ ad o (nI N) (nI (m_n g0 N)) (nI (m_tn g0 g1 g2 N)) pa pe f0 f1 f2 f3 f4 x1 hi9.1 hi9.2 fo) (vx_cwSW 3 hts gL_law_L_rest rfl rfl rfl kq_L_rest ⟨Nat.le_of_ble_eq_true rfl, Nat.le_of_ble_eq_true rfl⟩) hP hD (hK.sub [0, 1] rfl) hA [0, 1, 2, 3, 4, 5, 6] [7, 8, 9, 10] [4, 5, 6, 7, 8, 9, 10, 0, 1, 2, 3] rfl rfl rfl rfl rfl (by decide) rfl rfl rfl hl.1 rfl (Nat.le_of_ble_eq_true rfl) dL_law_500 (show cells ≤ 650192 by omega) (show slots ≤ 7145529 by omega) hS (fun H locs hP hS => ?_)
    have hD : va_D (lA s) (lw cI cJ ad o (nI N) (nI (m_n g0 N)) (nI (m_tn g0 g1 g2 N)) (i_min 99 (pa + x1)) pe f0 f1 f2 f3 f4 (vp_updL fo 0 (((i_min 99 (pa + x1))).toInt64)) ++ [(ad2 0, .inr (1, [.int th, .int (nI N), .int pa, .int pe, .ref (ad2 1), .ref (ad2 2), .ref (ad2 3)])), (ad2 1, .inl (cI, 25, .inl g0)), (ad2 2, .inl (cI, 25, .inl g1)), (ad2 3, .inl (cZ, 25, .inl g2))]) := q_Dc (L := [ad 0, ad 1, ad 2, ad 3, ad 4, ad 5, o, ad2 0, ad2 1, ad2 2, ad2 3]) hD rfl rfl
    refine lv_istore (lv' := [(5, .int 0), (4, .int (nI i)), (3, .ref o), (2, .ref (ad2 0)), (1, .ref (ad 0)), (0, .ref b)]) hx hb dL_law_503 hl (by decide) rfl (fun ls hl => ?_)
    refine lv_aload_n hx hb dL_law_505 rfl (lv_at hl 3 rfl) ?_
    refine l_arg (k := 1) hx hb hX hbl hS (by omega) hL rfl e1 (lv_at hl 5 rfl) (lv_at hl 1 rfl) dL_law_506 dL_law_507 dL_law_509 dL_law_510 dL_law_511 ?_
    refine m_callVI (As := [.int x1]) (rest := []) (Wr := (lw cI cJ ad o (nI N) (nI (m_n g0 N)) (nI (m_tn g0 g1 g2 N)) (i_min 99 (pa + x1)) pe f0 f1 f2 f3 f4 (vp_updL fo 0 (((i_min 99 (pa + x1))).toInt64)))) (W2 := (lw cI cJ ad o (nI N) (nI (m_n g0 N)) (nI (m_tn g0 g1 g2 N)) (i_min 99 (pa + x1)) pe f0 f1 f2 f3 f4 (vp_updL fo 0 (((i_min 99 (pa + x1))).toInt64)) ++ mw cI cZ ad2 0 (nI N) (i_min 99 (pa + x1)) pe g0 g1 g2)) ⟨hx, hb, hml, hown, hts⟩ (c_X1_rest_ok l D cI cZ ad2 th N pa pe g0 g1 g2 hN x1 hm) (cwV 1 hts gL_law_X1_rest rfl rfl rfl kv_X1_rest ⟨Nat.le_of_ble_eq_true rfl, Nat.le_of_ble_eq_true rfl⟩) (va_recv hK hP (ci := 1) (q0 := 7) rfl rfl) hP hD (hK.sub [0, 2] rfl) hA [7, 8, 9, 10] [0, 1, 2, 3, 4, 5, 6] [0, 1, 2, 3, 4, 5, 6, 7, 8, 9, 10] rfl rfl rfl rfl rfl (by decide) rfl rfl rfl hl.1 rfl (Nat.le_of_ble_eq_true rfl) dL_law_512 (show cells ≤ 650192 by omega) (show slots ≤ 7145529 by omega) hS (fun H locs hP hS => ?_)
    have hD : va_D (lA s) (lw cI cJ ad o (nI N) (nI (m_n g0 N)) (nI (m_tn g0 g1 g2 N)) (i_min 99 (pa + x1)) pe f0 f1 f2 f3 f4 (vp_updL fo 0 (((i_min 99 (pa + x1))).toInt64)) ++ mw cI cZ ad2 0 (nI N) (i_min 99 (pa + x1)) pe g0 g1 g2) := q_Dc (L := [ad 0, ad 1, ad 2, ad 3, ad 4, ad 5, o, ad2 0, ad2 1, ad2 2, ad2 3]) hD rfl rfl
    refine lv_istore (lv' := [(6, .int (i_min 99 (pa + x1))), (5, .int 0), (4, .int (nI i)), (3, .ref o), (2, .ref (ad2 0)), (1, .ref (ad 0)), (0, .ref b)]) hx hb dL_law_515 hl (by decide) rfl (fun ls hl => ?_)
    refine lv_aload_n hx hb dL_law_517 rfl (lv_at hl 4 rfl) ?_
    refine q_callV (As := []) (rest := []) ⟨hx, hb, hml, hown, hts⟩ (c_X1_thrown l D cI cZ ad2 0 N (i_min 99 (pa + x1)) pe g0 g1 g2 (by omega)) (cwV 0 hts gL_law_X1_thrown rfl rfl rfl kv_X1_thrown ⟨Nat.le_of_ble_eq_true rfl, Nat.le_of_ble_eq_true rfl⟩) (va_recv hK hP (ci := 1) (q0 := 7) rfl rfl) (hP.sub [7, 8, 9, 10] rfl) (hK.sub [0, 2] rfl) rfl hl.1 rfl (Nat.le_of_ble_eq_true rfl) dL_law_518 (show cells ≤ 650192 by omega) (show slots ≤ 7145529 by omega) hS (fun H locs hsm hS => ?_)
    have hP := hsm.P hP
    refine lv_iload hx hb dL_law_521 (lv_at hl 1 rfl) ?_
    refine lv_icmp_eq (tgt := 528) hx hb dL_law_523 (by decide) (fun _ => ?_) (fun h9 => absurd rfl h9)
    refine lv_iload hx hb dL_law_528 (lv_at hl 1 rfl) ?_
    refine lv_if_ne (tgt := 545) hx hb dL_law_530 (by decide) (fun h9 => absurd (by decide) h9) (fun _ => ?_)
    refine lv_aload_n hx hb dL_law_533 rfl (lv_at hl 3 rfl) ?_
    refine lv_iconst (v := 0) hx hb dL_law_534 (by decide) ?_
    refine va_lald hx hb hK hP 6 1 rfl rfl (vp_in_nI (n := 0) (by decide) (by decide)) dL_law_535 ?_
    rw [upd0]
    refine lv_iload hx hb dL_law_536 (lv_at hl 0 rfl) ?_
    refine lv_i2l (v := ((i_min 99 (pa + x1))).toInt64) hx hb dL_law_538 rfl ?_
    refine l_lcmp0 hx hb (rfl) dL_law_539 ?_
    refine lv_if_eq (tgt := 545) hx hb dL_law_540 (by decide) (fun _ => ?_) (fun h9 => absurd rfl h9)
    refine lv_goto (tgt := 1808) hx hb dL_law_545 (by decide) ?_
    refine W.widen (k := cells + 24) (n := slots + 125) (by omega) (by omega) ?_
    exact kk _ _ _ _ _ _ _ _ _ _ _ _ _ _ _ H locs ls (h) (r) hP hD hS (lv_sub hl [2, 3, 4, 5, 6] rfl)
