/-! own rows, written by wip/whole/law.py: the law's turns that only read, through a wrapper -/
set_option maxHeartbeats 4000000 in
set_option maxRecDepth 100000 in
theorem law_isCough {p : Program} {l : Launch} {e : Env} {s : State} {m : MethodId} {args : Array Value} {below : List Frame} {meth : Method} {c : Code} {b L : Nat} {xs : Nat → Int32} {D : va_G} {cI cJ cZ : ClassId} {sa ad ad2 : Nat → Nat} {o cells slots i : Nat} {Q : State → Prop}
    (C : law_C p l s m c args b L xs D cI cJ cZ sa) (kk : law_K p l e s m args below meth c b D cI cJ cZ ad ad2 o cells slots Q i) {N : Nat} {w t pa pe : Int32} {f0 f1 f2 f3 f4 : Nat → Int32} {fo : Nat → Int64} {th : Int32} {g0 g1 g2 : Nat → Int32} {H : Heap} {locs : List Loc} {ls : Array Slot}
    (h : Ra N f0 f1 f2 g0 g1 g2) (r : Rw N f3 f4 g0 g1 g2 w t) (hP : va_P D vwCl (lW cI cJ cZ ad ad2 o (nI N) w t pa pe f0 f1 f2 f3 f4 fo th g0 g1 g2) H) (hD : va_D (lA s) (lW cI cJ cZ ad ad2 o (nI N) w t pa pe f0 f1 f2 f3 f4 fo th g0 g1 g2)) (hS : va_S (lA s) s.heap H locs) (hl : lv_has ls 9 (law_L b ad ad2 o i))
    (hi : i + 2 < L) (hc : cells + 24 ≤ 650192) (hs : slots + 125 ≤ 7145529) : W p l e room_1 s m args below meth c H locs cells slots Q (F0 m 613 ls []) := by
  obtain ⟨hx, hb, hml, hown, hts, hX, hbl, hK, hZ, hN9, hst, hL⟩ := C
  have ew := r.ww
  have et := r.tt
  subst ew
  subst et
  have q := r.rp
  have hN := h.n
  have hn : m_n g0 N ≤ 24 := Nat.le_trans (m_n_le g0 N) hN
  have ht : m_tn g0 g1 g2 N ≤ 24 := by
    have h9 := m_ab_lt (g0 := g0) (g1 := g1) (g2 := g2) hN
    unfold m_tn
    split <;> omega
  have hA : ∀ q : Nat, s.heap.size ≤ q → lA s q := fun _ h => h
  obtain ⟨x1, e1⟩ : ∃ x1, xs (i + 1) = x1 := ⟨_, rfl⟩
  obtain ⟨x2, e2⟩ : ∃ x2, xs (i + 2) = x2 := ⟨_, rfl⟩
  have hl : lv_has ls 9 [(4, .int (nI i)), (3, .ref o), (2, .ref (ad2 0)), (1, .ref (ad 0)), (0, .ref b)] := hl
  cases hm : m_in x1 0 (nI N - 1) with
  | false =>
    refine lv_aload_n hx hb dL_law_613 rfl (lv_at hl 3 rfl) ?_
    refine l_arg (k := 1) hx hb hX hbl hS (by omega) hL rfl e1 (lv_at hl 4 rfl) (lv_at hl 0 rfl) dL_law_614 dL_law_615 dL_law_617 dL_law_618 dL_law_619 ?_
    refine lv_aload_n hx hb dL_law_620 rfl (lv_at hl 1 rfl) ?_
    refine l_callE (As := [.ref (ad 0), .int x1, .ref o]) (rest := []) ⟨hx, hb, hml, hown, hts⟩ (t_L_isCough_1 l D sa hst cI cJ ad o (nI N) (nI (m_n g0 N)) (nI (m_tn g0 g1 g2 N)) pa pe f0 f1 f2 f3 f4 x1 (in_place0 hN hm) fo) (vx_cwSW 3 hts gL_law_L_isCough rfl rfl rfl kq_L_isCough ⟨Nat.le_of_ble_eq_true rfl, Nat.le_of_ble_eq_true rfl⟩) (hP.sub [0, 1, 2, 3, 4, 5, 6] rfl) (hK.sub [0, 1] rfl) (hZ.kept fun a ha => hS.2.1 a ha (Nat.not_le.mpr ha)) hN9 rfl hl.1 rfl (Nat.le_of_ble_eq_true rfl) dL_law_621 (show cells + 1 ≤ 650192 by omega) (show slots + 6 ≤ 7145529 by omega) hS (fun H locs hsm hS => ?_)
    have hP := hsm.P hP
    refine lv_istore (lv' := [(5, .int 1), (4, .int (nI i)), (3, .ref o), (2, .ref (ad2 0)), (1, .ref (ad 0)), (0, .ref b)]) hx hb dL_law_624 hl (by decide) rfl (fun ls hl => ?_)
    refine lv_aload_n hx hb dL_law_626 rfl (lv_at hl 3 rfl) ?_
    refine l_arg (k := 1) hx hb hX hbl hS (by omega) hL rfl e1 (lv_at hl 5 rfl) (lv_at hl 1 rfl) dL_law_627 dL_law_628 dL_law_630 dL_law_631 dL_law_632 ?_
    refine m_callVI (As := [.int x1]) (rest := []) (Wr := (lw cI cJ ad o (nI N) (nI (m_n g0 N)) (nI (m_tn g0 g1 g2 N)) pa pe f0 f1 f2 f3 f4 fo)) (W2 := (lw cI cJ ad o (nI N) (nI (m_n g0 N)) (nI (m_tn g0 g1 g2 N)) pa pe f0 f1 f2 f3 f4 fo ++ mw cI cZ ad2 1 (nI N) pa pe g0 g1 g2)) ⟨hx, hb, hml, hown, hts⟩ (c_X1_isCough_1 l D cI cZ ad2 th N pa pe g0 g1 g2 hN x1 hm) (cwV 1 hts gL_law_X1_isCough rfl rfl rfl kv_X1_isCough ⟨Nat.le_of_ble_eq_true rfl, Nat.le_of_ble_eq_true rfl⟩) (va_recv hK hP (ci := 1) (q0 := 7) rfl rfl) hP hD (hK.sub [0, 2] rfl) hA [7, 8, 9, 10] [0, 1, 2, 3, 4, 5, 6] [0, 1, 2, 3, 4, 5, 6, 7, 8, 9, 10] rfl rfl rfl rfl rfl (by decide) rfl rfl rfl hl.1 rfl (Nat.le_of_ble_eq_true rfl) dL_law_633 (show cells + 1 ≤ 650192 by omega) (show slots + 6 ≤ 7145529 by omega) hS (fun H locs hP hS => ?_)
    have hD : va_D (lA s) (lw cI cJ ad o (nI N) (nI (m_n g0 N)) (nI (m_tn g0 g1 g2 N)) pa pe f0 f1 f2 f3 f4 fo ++ mw cI cZ ad2 1 (nI N) pa pe g0 g1 g2) := q_Dc (L := [ad 0, ad 1, ad 2, ad 3, ad 4, ad 5, o, ad2 0, ad2 1, ad2 2, ad2 3]) hD rfl rfl
    refine lv_istore (lv' := [(6, .int 0), (5, .int 1), (4, .int (nI i)), (3, .ref o), (2, .ref (ad2 0)), (1, .ref (ad 0)), (0, .ref b)]) hx hb dL_law_636 hl (by decide) rfl (fun ls hl => ?_)
    refine lv_aload_n hx hb dL_law_638 rfl (lv_at hl 4 rfl) ?_
    refine q_callV (As := []) (rest := []) ⟨hx, hb, hml, hown, hts⟩ (c_X1_thrown l D cI cZ ad2 1 N pa pe g0 g1 g2 (by omega)) (cwV 0 hts gL_law_X1_thrown rfl rfl rfl kv_X1_thrown ⟨Nat.le_of_ble_eq_true rfl, Nat.le_of_ble_eq_true rfl⟩) (va_recv hK hP (ci := 1) (q0 := 7) rfl rfl) (hP.sub [7, 8, 9, 10] rfl) (hK.sub [0, 2] rfl) rfl hl.1 rfl (Nat.le_of_ble_eq_true rfl) dL_law_639 (show cells + 1 ≤ 650192 by omega) (show slots + 6 ≤ 7145529 by omega) hS (fun H locs hsm hS => ?_)
    have hP := hsm.P hP
    refine lv_iload hx hb dL_law_642 (lv_at hl 1 rfl) ?_
    refine lv_icmp_eq (tgt := 649) hx hb dL_law_644 (by decide) (fun _ => ?_) (fun h9 => absurd rfl h9)
    refine lv_iload hx hb dL_law_649 (lv_at hl 1 rfl) ?_
    refine lv_if_ne (tgt := 673) hx hb dL_law_651 (by decide) (fun _ => ?_) (fun h9 => absurd h9 (by decide))
    refine lv_goto (tgt := 1808) hx hb dL_law_673 (by decide) ?_
    refine W.widen (k := cells + 24) (n := slots + 125) (by omega) (by omega) ?_
    exact kk _ _ _ _ _ _ _ _ _ _ _ _ _ _ _ H locs ls (h) (r) hP hD hS (lv_sub hl [2, 3, 4, 5, 6] rfl)
  | true =>
    obtain ⟨k, hk, rfl⟩ := in_place1 hN hm
    have hi9 := place_in hN hk
    refine lv_aload_n hx hb dL_law_613 rfl (lv_at hl 3 rfl) ?_
    refine l_arg (k := 1) hx hb hX hbl hS (by omega) hL rfl e1 (lv_at hl 4 rfl) (lv_at hl 0 rfl) dL_law_614 dL_law_615 dL_law_617 dL_law_618 dL_law_619 ?_
    refine lv_aload_n hx hb dL_law_620 rfl (lv_at hl 1 rfl) ?_
    refine l_callI (As := [.ref (ad 0), .int (nI k), .ref o]) (rest := []) (Wr := [(ad2 0, .inr (1, [.int th, .int (nI N), .int pa, .int pe, .ref (ad2 1), .ref (ad2 2), .ref (ad2 3)])), (ad2 1, .inl (cI, 25, .inl g0)), (ad2 2, .inl (cI, 25, .inl g1)), (ad2 3, .inl (cZ, 25, .inl g2))]) (W2 := (lw cI cJ ad o (nI N) (nI (m_n g0 N)) (nI (m_tn g0 g1 g2 N)) pa pe f0 f1 f2 f3 f4 (vp_updL fo 0 (bL (x_cs f1 (nI k)))) ++ [(ad2 0, .inr (1, [.int th, .int (nI N), .int pa, .int pe, .ref (ad2 1), .ref (ad2 2), .ref (ad2 3)])), (ad2 1, .inl (cI, 25, .inl g0)), (ad2 2, .inl (cI, 25, .inl g1)), (ad2 3, .inl (cZ, 25, .inl g2))])) ⟨hx, hb, hml, hown, hts⟩ (c_L_isCough l D cI cJ ad o (nI N) (nI (m_n g0 N)) (nI (m_tn g0 g1 g2 N)) pa pe f0 f1 f2 f3 f4 (nI k) hi9.1 hi9.2 fo) (vx_cwSW 3 hts gL_law_L_isCough rfl rfl rfl kq_L_isCough ⟨Nat.le_of_ble_eq_true rfl, Nat.le_of_ble_eq_true rfl⟩) hP hD (hK.sub [0, 1] rfl) hA [0, 1, 2, 3, 4, 5, 6] [7, 8, 9, 10] [4, 5, 6, 7, 8, 9, 10, 0, 1, 2, 3] rfl rfl rfl rfl rfl (by decide) rfl rfl rfl hl.1 rfl (Nat.le_of_ble_eq_true rfl) dL_law_621 (show cells ≤ 650192 by omega) (show slots ≤ 7145529 by omega) hS (fun H locs hP hS => ?_)
    have hD : va_D (lA s) (lw cI cJ ad o (nI N) (nI (m_n g0 N)) (nI (m_tn g0 g1 g2 N)) pa pe f0 f1 f2 f3 f4 (vp_updL fo 0 (bL (x_cs f1 (nI k)))) ++ [(ad2 0, .inr (1, [.int th, .int (nI N), .int pa, .int pe, .ref (ad2 1), .ref (ad2 2), .ref (ad2 3)])), (ad2 1, .inl (cI, 25, .inl g0)), (ad2 2, .inl (cI, 25, .inl g1)), (ad2 3, .inl (cZ, 25, .inl g2))]) := q_Dc (L := [ad 0, ad 1, ad 2, ad 3, ad 4, ad 5, o, ad2 0, ad2 1, ad2 2, ad2 3]) hD rfl rfl
    refine lv_istore (lv' := [(5, .int 0), (4, .int (nI i)), (3, .ref o), (2, .ref (ad2 0)), (1, .ref (ad 0)), (0, .ref b)]) hx hb dL_law_624 hl (by decide) rfl (fun ls hl => ?_)
    refine lv_aload_n hx hb dL_law_626 rfl (lv_at hl 3 rfl) ?_
    refine l_arg (k := 1) hx hb hX hbl hS (by omega) hL rfl e1 (lv_at hl 5 rfl) (lv_at hl 1 rfl) dL_law_627 dL_law_628 dL_law_630 dL_law_631 dL_law_632 ?_
    refine m_callVI (As := [.int (nI k)]) (rest := []) (Wr := (lw cI cJ ad o (nI N) (nI (m_n g0 N)) (nI (m_tn g0 g1 g2 N)) pa pe f0 f1 f2 f3 f4 (vp_updL fo 0 (bL (x_cs f1 (nI k)))))) (W2 := (lw cI cJ ad o (nI N) (nI (m_n g0 N)) (nI (m_tn g0 g1 g2 N)) pa pe f0 f1 f2 f3 f4 (vp_updL fo 0 (bL (x_cs f1 (nI k)))) ++ mw cI cZ ad2 0 (nI N) pa pe g0 g1 g2)) ⟨hx, hb, hml, hown, hts⟩ (c_X1_isCough_ok l D cI cZ ad2 th N pa pe g0 g1 g2 hN k hk hm) (cwV 1 hts gL_law_X1_isCough rfl rfl rfl kv_X1_isCough ⟨Nat.le_of_ble_eq_true rfl, Nat.le_of_ble_eq_true rfl⟩) (va_recv hK hP (ci := 1) (q0 := 7) rfl rfl) hP hD (hK.sub [0, 2] rfl) hA [7, 8, 9, 10] [0, 1, 2, 3, 4, 5, 6] [0, 1, 2, 3, 4, 5, 6, 7, 8, 9, 10] rfl rfl rfl rfl rfl (by decide) rfl rfl rfl hl.1 rfl (Nat.le_of_ble_eq_true rfl) dL_law_633 (show cells ≤ 650192 by omega) (show slots ≤ 7145529 by omega) hS (fun H locs hP hS => ?_)
    have hD : va_D (lA s) (lw cI cJ ad o (nI N) (nI (m_n g0 N)) (nI (m_tn g0 g1 g2 N)) pa pe f0 f1 f2 f3 f4 (vp_updL fo 0 (bL (x_cs f1 (nI k)))) ++ mw cI cZ ad2 0 (nI N) pa pe g0 g1 g2) := q_Dc (L := [ad 0, ad 1, ad 2, ad 3, ad 4, ad 5, o, ad2 0, ad2 1, ad2 2, ad2 3]) hD rfl rfl
    refine lv_istore (lv' := [(6, .int (bI (!decide (0 ≤ g0 k)))), (5, .int 0), (4, .int (nI i)), (3, .ref o), (2, .ref (ad2 0)), (1, .ref (ad 0)), (0, .ref b)]) hx hb dL_law_636 hl (by decide) rfl (fun ls hl => ?_)
    refine lv_aload_n hx hb dL_law_638 rfl (lv_at hl 4 rfl) ?_
    refine q_callV (As := []) (rest := []) ⟨hx, hb, hml, hown, hts⟩ (c_X1_thrown l D cI cZ ad2 0 N pa pe g0 g1 g2 (by omega)) (cwV 0 hts gL_law_X1_thrown rfl rfl rfl kv_X1_thrown ⟨Nat.le_of_ble_eq_true rfl, Nat.le_of_ble_eq_true rfl⟩) (va_recv hK hP (ci := 1) (q0 := 7) rfl rfl) (hP.sub [7, 8, 9, 10] rfl) (hK.sub [0, 2] rfl) rfl hl.1 rfl (Nat.le_of_ble_eq_true rfl) dL_law_639 (show cells ≤ 650192 by omega) (show slots ≤ 7145529 by omega) hS (fun H locs hsm hS => ?_)
    have hP := hsm.P hP
    refine lv_iload hx hb dL_law_642 (lv_at hl 1 rfl) ?_
    refine lv_icmp_eq (tgt := 649) hx hb dL_law_644 (by decide) (fun _ => ?_) (fun h9 => absurd rfl h9)
    refine lv_iload hx hb dL_law_649 (lv_at hl 1 rfl) ?_
    refine lv_if_ne (tgt := 673) hx hb dL_law_651 (by decide) (fun h9 => absurd (by decide) h9) (fun _ => ?_)
    refine lv_aload_n hx hb dL_law_654 rfl (lv_at hl 3 rfl) ?_
    refine lv_iconst (v := 0) hx hb dL_law_655 (by decide) ?_
    refine va_lald hx hb hK hP 6 1 rfl rfl (vp_in_nI (n := 0) (by decide) (by decide)) dL_law_656 ?_
    rw [upd0]
    refine lv_iload hx hb dL_law_657 (lv_at hl 0 rfl) ?_
    suffices K : ∀ v9 : Int64, v9 = bL (!decide (0 ≤ g0 k)) → W p l e room_1 s m args below meth c H locs (cells) (slots) Q (F0 m 667 ls [.long v9, .long (bL (x_cs f1 (nI k)))]) from by
      refine lv_if_eq (tgt := 666) hx hb dL_law_659 (by decide) (fun h9 => ?_) (fun h9 => ?_)
      · refine lv_lconst (v := 0) hx hb dL_law_666 (by decide) ?_
        exact K _ (by rw [bI_0.mp h9]; rfl)
      · refine lv_lconst (v := 1) hx hb dL_law_662 (by decide) ?_
        refine lv_goto (tgt := 667) hx hb dL_law_663 (by decide) ?_
        exact K _ (by rw [bI_n0.mp h9]; rfl)
    intro v9 hv9
    refine l_lcmp0 hx hb (by rw [hv9, show x_cs f1 (nI k) = !decide (0 ≤ g0 k) from h.cs hk]) dL_law_667 ?_
    refine lv_if_eq (tgt := 673) hx hb dL_law_668 (by decide) (fun _ => ?_) (fun h9 => absurd rfl h9)
    refine lv_goto (tgt := 1808) hx hb dL_law_673 (by decide) ?_
    refine W.widen (k := cells + 24) (n := slots + 125) (by omega) (by omega) ?_
    exact kk _ _ _ _ _ _ _ _ _ _ _ _ _ _ _ H locs ls (h) (r) hP hD hS (lv_sub hl [2, 3, 4, 5, 6] rfl)

set_option maxHeartbeats 4000000 in
set_option maxRecDepth 100000 in
theorem law_speakerAt {p : Program} {l : Launch} {e : Env} {s : State} {m : MethodId} {args : Array Value} {below : List Frame} {meth : Method} {c : Code} {b L : Nat} {xs : Nat → Int32} {D : va_G} {cI cJ cZ : ClassId} {sa ad ad2 : Nat → Nat} {o cells slots i : Nat} {Q : State → Prop}
    (C : law_C p l s m c args b L xs D cI cJ cZ sa) (kk : law_K p l e s m args below meth c b D cI cJ cZ ad ad2 o cells slots Q i) {N : Nat} {w t pa pe : Int32} {f0 f1 f2 f3 f4 : Nat → Int32} {fo : Nat → Int64} {th : Int32} {g0 g1 g2 : Nat → Int32} {H : Heap} {locs : List Loc} {ls : Array Slot}
    (h : Ra N f0 f1 f2 g0 g1 g2) (r : Rw N f3 f4 g0 g1 g2 w t) (hP : va_P D vwCl (lW cI cJ cZ ad ad2 o (nI N) w t pa pe f0 f1 f2 f3 f4 fo th g0 g1 g2) H) (hD : va_D (lA s) (lW cI cJ cZ ad ad2 o (nI N) w t pa pe f0 f1 f2 f3 f4 fo th g0 g1 g2)) (hS : va_S (lA s) s.heap H locs) (hl : lv_has ls 9 (law_L b ad ad2 o i))
    (hi : i + 2 < L) (hc : cells + 24 ≤ 650192) (hs : slots + 125 ≤ 7145529) : W p l e room_1 s m args below meth c H locs cells slots Q (F0 m 676 ls []) := by
  obtain ⟨hx, hb, hml, hown, hts, hX, hbl, hK, hZ, hN9, hst, hL⟩ := C
  have ew := r.ww
  have et := r.tt
  subst ew
  subst et
  have q := r.rp
  have hN := h.n
  have hn : m_n g0 N ≤ 24 := Nat.le_trans (m_n_le g0 N) hN
  have ht : m_tn g0 g1 g2 N ≤ 24 := by
    have h9 := m_ab_lt (g0 := g0) (g1 := g1) (g2 := g2) hN
    unfold m_tn
    split <;> omega
  have hA : ∀ q : Nat, s.heap.size ≤ q → lA s q := fun _ h => h
  obtain ⟨x1, e1⟩ : ∃ x1, xs (i + 1) = x1 := ⟨_, rfl⟩
  obtain ⟨x2, e2⟩ : ∃ x2, xs (i + 2) = x2 := ⟨_, rfl⟩
  have hl : lv_has ls 9 [(4, .int (nI i)), (3, .ref o), (2, .ref (ad2 0)), (1, .ref (ad 0)), (0, .ref b)] := hl
  cases hm : m_in x1 0 (nI N - 1) with
  | false =>
    refine lv_aload_n hx hb dL_law_676 rfl (lv_at hl 3 rfl) ?_
    refine l_arg (k := 1) hx hb hX hbl hS (by omega) hL rfl e1 (lv_at hl 4 rfl) (lv_at hl 0 rfl) dL_law_677 dL_law_678 dL_law_680 dL_law_681 dL_law_682 ?_
    refine lv_aload_n hx hb dL_law_683 rfl (lv_at hl 1 rfl) ?_
    refine l_callE (As := [.ref (ad 0), .int x1, .ref o]) (rest := []) ⟨hx, hb, hml, hown, hts⟩ (t_L_speakerAt_1 l D sa hst cI cJ ad o (nI N) (nI (m_n g0 N)) (nI (m_tn g0 g1 g2 N)) pa pe f0 f1 f2 f3 f4 x1 (in_place0 hN hm) fo) (vx_cwSW 3 hts gL_law_L_speakerAt rfl rfl rfl kq_L_speakerAt ⟨Nat.le_of_ble_eq_true rfl, Nat.le_of_ble_eq_true rfl⟩) (hP.sub [0, 1, 2, 3, 4, 5, 6] rfl) (hK.sub [0, 1] rfl) (hZ.kept fun a ha => hS.2.1 a ha (Nat.not_le.mpr ha)) hN9 rfl hl.1 rfl (Nat.le_of_ble_eq_true rfl) dL_law_684 (show cells + 1 ≤ 650192 by omega) (show slots + 6 ≤ 7145529 by omega) hS (fun H locs hsm hS => ?_)
    have hP := hsm.P hP
    refine lv_istore (lv' := [(5, .int 1), (4, .int (nI i)), (3, .ref o), (2, .ref (ad2 0)), (1, .ref (ad 0)), (0, .ref b)]) hx hb dL_law_687 hl (by decide) rfl (fun ls hl => ?_)
    refine lv_aload_n hx hb dL_law_689 rfl (lv_at hl 3 rfl) ?_
    refine l_arg (k := 1) hx hb hX hbl hS (by omega) hL rfl e1 (lv_at hl 5 rfl) (lv_at hl 1 rfl) dL_law_690 dL_law_691 dL_law_693 dL_law_694 dL_law_695 ?_
    refine m_callVI (As := [.int x1]) (rest := []) (Wr := (lw cI cJ ad o (nI N) (nI (m_n g0 N)) (nI (m_tn g0 g1 g2 N)) pa pe f0 f1 f2 f3 f4 fo)) (W2 := (lw cI cJ ad o (nI N) (nI (m_n g0 N)) (nI (m_tn g0 g1 g2 N)) pa pe f0 f1 f2 f3 f4 fo ++ mw cI cZ ad2 1 (nI N) pa pe g0 g1 g2)) ⟨hx, hb, hml, hown, hts⟩ (c_X1_speakerAt_1 l D cI cZ ad2 th N pa pe g0 g1 g2 hN x1 hm) (cwV 1 hts gL_law_X1_speakerAt rfl rfl rfl kv_X1_speakerAt ⟨Nat.le_of_ble_eq_true rfl, Nat.le_of_ble_eq_true rfl⟩) (va_recv hK hP (ci := 1) (q0 := 7) rfl rfl) hP hD (hK.sub [0, 2] rfl) hA [7, 8, 9, 10] [0, 1, 2, 3, 4, 5, 6] [0, 1, 2, 3, 4, 5, 6, 7, 8, 9, 10] rfl rfl rfl rfl rfl (by decide) rfl rfl rfl hl.1 rfl (Nat.le_of_ble_eq_true rfl) dL_law_696 (show cells + 1 ≤ 650192 by omega) (show slots + 6 ≤ 7145529 by omega) hS (fun H locs hP hS => ?_)
    have hD : va_D (lA s) (lw cI cJ ad o (nI N) (nI (m_n g0 N)) (nI (m_tn g0 g1 g2 N)) pa pe f0 f1 f2 f3 f4 fo ++ mw cI cZ ad2 1 (nI N) pa pe g0 g1 g2) := q_Dc (L := [ad 0, ad 1, ad 2, ad 3, ad 4, ad 5, o, ad2 0, ad2 1, ad2 2, ad2 3]) hD rfl rfl
    refine lv_istore (lv' := [(6, .int 0), (5, .int 1), (4, .int (nI i)), (3, .ref o), (2, .ref (ad2 0)), (1, .ref (ad 0)), (0, .ref b)]) hx hb dL_law_699 hl (by decide) rfl (fun ls hl => ?_)
    refine lv_aload_n hx hb dL_law_701 rfl (lv_at hl 4 rfl) ?_
    refine q_callV (As := []) (rest := []) ⟨hx, hb, hml, hown, hts⟩ (c_X1_thrown l D cI cZ ad2 1 N pa pe g0 g1 g2 (by omega)) (cwV 0 hts gL_law_X1_thrown rfl rfl rfl kv_X1_thrown ⟨Nat.le_of_ble_eq_true rfl, Nat.le_of_ble_eq_true rfl⟩) (va_recv hK hP (ci := 1) (q0 := 7) rfl rfl) (hP.sub [7, 8, 9, 10] rfl) (hK.sub [0, 2] rfl) rfl hl.1 rfl (Nat.le_of_ble_eq_true rfl) dL_law_702 (show cells + 1 ≤ 650192 by omega) (show slots + 6 ≤ 7145529 by omega) hS (fun H locs hsm hS => ?_)
    have hP := hsm.P hP
    refine lv_iload hx hb dL_law_705 (lv_at hl 1 rfl) ?_
    refine lv_icmp_eq (tgt := 712) hx hb dL_law_707 (by decide) (fun _ => ?_) (fun h9 => absurd rfl h9)
    refine lv_iload hx hb dL_law_712 (lv_at hl 1 rfl) ?_
    refine lv_if_ne (tgt := 729) hx hb dL_law_714 (by decide) (fun _ => ?_) (fun h9 => absurd h9 (by decide))
    refine lv_goto (tgt := 1808) hx hb dL_law_729 (by decide) ?_
    refine W.widen (k := cells + 24) (n := slots + 125) (by omega) (by omega) ?_
    exact kk _ _ _ _ _ _ _ _ _ _ _ _ _ _ _ H locs ls (h) (r) hP hD hS (lv_sub hl [2, 3, 4, 5, 6] rfl)
  | true =>
    obtain ⟨k, hk, rfl⟩ := in_place1 hN hm
    have hi9 := place_in hN hk
    refine lv_aload_n hx hb dL_law_676 rfl (lv_at hl 3 rfl) ?_
    refine l_arg (k := 1) hx hb hX hbl hS (by omega) hL rfl e1 (lv_at hl 4 rfl) (lv_at hl 0 rfl) dL_law_677 dL_law_678 dL_law_680 dL_law_681 dL_law_682 ?_
    refine lv_aload_n hx hb dL_law_683 rfl (lv_at hl 1 rfl) ?_
    refine l_callI (As := [.ref (ad 0), .int (nI k), .ref o]) (rest := []) (Wr := [(ad2 0, .inr (1, [.int th, .int (nI N), .int pa, .int pe, .ref (ad2 1), .ref (ad2 2), .ref (ad2 3)])), (ad2 1, .inl (cI, 25, .inl g0)), (ad2 2, .inl (cI, 25, .inl g1)), (ad2 3, .inl (cZ, 25, .inl g2))]) (W2 := (lw cI cJ ad o (nI N) (nI (m_n g0 N)) (nI (m_tn g0 g1 g2 N)) pa pe f0 f1 f2 f3 f4 (vp_updL fo 0 (((rd f0 (nI k))).toInt64)) ++ [(ad2 0, .inr (1, [.int th, .int (nI N), .int pa, .int pe, .ref (ad2 1), .ref (ad2 2), .ref (ad2 3)])), (ad2 1, .inl (cI, 25, .inl g0)), (ad2 2, .inl (cI, 25, .inl g1)), (ad2 3, .inl (cZ, 25, .inl g2))])) ⟨hx, hb, hml, hown, hts⟩ (c_L_speakerAt l D cI cJ ad o (nI N) (nI (m_n g0 N)) (nI (m_tn g0 g1 g2 N)) pa pe f0 f1 f2 f3 f4 (nI k) hi9.1 hi9.2 fo) (vx_cwSW 3 hts gL_law_L_speakerAt rfl rfl rfl kq_L_speakerAt ⟨Nat.le_of_ble_eq_true rfl, Nat.le_of_ble_eq_true rfl⟩) hP hD (hK.sub [0, 1] rfl) hA [0, 1, 2, 3, 4, 5, 6] [7, 8, 9, 10] [4, 5, 6, 7, 8, 9, 10, 0, 1, 2, 3] rfl rfl rfl rfl rfl (by decide) rfl rfl rfl hl.1 rfl (Nat.le_of_ble_eq_true rfl) dL_law_684 (show cells ≤ 650192 by omega) (show slots ≤ 7145529 by omega) hS (fun H locs hP hS => ?_)
    have hD : va_D (lA s) (lw cI cJ ad o (nI N) (nI (m_n g0 N)) (nI (m_tn g0 g1 g2 N)) pa pe f0 f1 f2 f3 f4 (vp_updL fo 0 (((rd f0 (nI k))).toInt64)) ++ [(ad2 0, .inr (1, [.int th, .int (nI N), .int pa, .int pe, .ref (ad2 1), .ref (ad2 2), .ref (ad2 3)])), (ad2 1, .inl (cI, 25, .inl g0)), (ad2 2, .inl (cI, 25, .inl g1)), (ad2 3, .inl (cZ, 25, .inl g2))]) := q_Dc (L := [ad 0, ad 1, ad 2, ad 3, ad 4, ad 5, o, ad2 0, ad2 1, ad2 2, ad2 3]) hD rfl rfl
    refine lv_istore (lv' := [(5, .int 0), (4, .int (nI i)), (3, .ref o), (2, .ref (ad2 0)), (1, .ref (ad 0)), (0, .ref b)]) hx hb dL_law_687 hl (by decide) rfl (fun ls hl => ?_)
    refine lv_aload_n hx hb dL_law_689 rfl (lv_at hl 3 rfl) ?_
    refine l_arg (k := 1) hx hb hX hbl hS (by omega) hL rfl e1 (lv_at hl 5 rfl) (lv_at hl 1 rfl) dL_law_690 dL_law_691 dL_law_693 dL_law_694 dL_law_695 ?_
    refine m_callVI (As := [.int (nI k)]) (rest := []) (Wr := (lw cI cJ ad o (nI N) (nI (m_n g0 N)) (nI (m_tn g0 g1 g2 N)) pa pe f0 f1 f2 f3 f4 (vp_updL fo 0 (((rd f0 (nI k))).toInt64)))) (W2 := (lw cI cJ ad o (nI N) (nI (m_n g0 N)) (nI (m_tn g0 g1 g2 N)) pa pe f0 f1 f2 f3 f4 (vp_updL fo 0 (((rd f0 (nI k))).toInt64)) ++ mw cI cZ ad2 0 (nI N) pa pe g0 g1 g2)) ⟨hx, hb, hml, hown, hts⟩ (c_X1_speakerAt_ok l D cI cZ ad2 th N pa pe g0 g1 g2 hN k hk hm) (cwV 1 hts gL_law_X1_speakerAt rfl rfl rfl kv_X1_speakerAt ⟨Nat.le_of_ble_eq_true rfl, Nat.le_of_ble_eq_true rfl⟩) (va_recv hK hP (ci := 1) (q0 := 7) rfl rfl) hP hD (hK.sub [0, 2] rfl) hA [7, 8, 9, 10] [0, 1, 2, 3, 4, 5, 6] [0, 1, 2, 3, 4, 5, 6, 7, 8, 9, 10] rfl rfl rfl rfl rfl (by decide) rfl rfl rfl hl.1 rfl (Nat.le_of_ble_eq_true rfl) dL_law_696 (show cells ≤ 650192 by omega) (show slots ≤ 7145529 by omega) hS (fun H locs hP hS => ?_)
    have hD : va_D (lA s) (lw cI cJ ad o (nI N) (nI (m_n g0 N)) (nI (m_tn g0 g1 g2 N)) pa pe f0 f1 f2 f3 f4 (vp_updL fo 0 (((rd f0 (nI k))).toInt64)) ++ mw cI cZ ad2 0 (nI N) pa pe g0 g1 g2) := q_Dc (L := [ad 0, ad 1, ad 2, ad 3, ad 4, ad 5, o, ad2 0, ad2 1, ad2 2, ad2 3]) hD rfl rfl
    refine lv_istore (lv' := [(6, .int (g1 k)), (5, .int 0), (4, .int (nI i)), (3, .ref o), (2, .ref (ad2 0)), (1, .ref (ad 0)), (0, .ref b)]) hx hb dL_law_699 hl (by decide) rfl (fun ls hl => ?_)
    refine lv_aload_n hx hb dL_law_701 rfl (lv_at hl 4 rfl) ?_
    refine q_callV (As := []) (rest := []) ⟨hx, hb, hml, hown, hts⟩ (c_X1_thrown l D cI cZ ad2 0 N pa pe g0 g1 g2 (by omega)) (cwV 0 hts gL_law_X1_thrown rfl rfl rfl kv_X1_thrown ⟨Nat.le_of_ble_eq_true rfl, Nat.le_of_ble_eq_true rfl⟩) (va_recv hK hP (ci := 1) (q0 := 7) rfl rfl) (hP.sub [7, 8, 9, 10] rfl) (hK.sub [0, 2] rfl) rfl hl.1 rfl (Nat.le_of_ble_eq_true rfl) dL_law_702 (show cells ≤ 650192 by omega) (show slots ≤ 7145529 by omega) hS (fun H locs hsm hS => ?_)
    have hP := hsm.P hP
    refine lv_iload hx hb dL_law_705 (lv_at hl 1 rfl) ?_
    refine lv_icmp_eq (tgt := 712) hx hb dL_law_707 (by decide) (fun _ => ?_) (fun h9 => absurd rfl h9)
    refine lv_iload hx hb dL_law_712 (lv_at hl 1 rfl) ?_
    refine lv_if_ne (tgt := 729) hx hb dL_law_714 (by decide) (fun h9 => absurd (by decide) h9) (fun _ => ?_)
    refine lv_aload_n hx hb dL_law_717 rfl (lv_at hl 3 rfl) ?_
    refine lv_iconst (v := 0) hx hb dL_law_718 (by decide) ?_
    refine va_lald hx hb hK hP 6 1 rfl rfl (vp_in_nI (n := 0) (by decide) (by decide)) dL_law_719 ?_
    rw [upd0]
    refine lv_iload hx hb dL_law_720 (lv_at hl 0 rfl) ?_
    refine lv_i2l (v := ((g1 k)).toInt64) hx hb dL_law_722 rfl ?_
    refine l_lcmp0 hx hb (by rw [rd_k (by omega), h.e0 k hk]) dL_law_723 ?_
    refine lv_if_eq (tgt := 729) hx hb dL_law_724 (by decide) (fun _ => ?_) (fun h9 => absurd rfl h9)
    refine lv_goto (tgt := 1808) hx hb dL_law_729 (by decide) ?_
    refine W.widen (k := cells + 24) (n := slots + 125) (by omega) (by omega) ?_
    exact kk _ _ _ _ _ _ _ _ _ _ _ _ _ _ _ H locs ls (h) (r) hP hD hS (lv_sub hl [2, 3, 4, 5, 6] rfl)

set_option maxHeartbeats 4000000 in
set_option maxRecDepth 100000 in
theorem law_placeOf {p : Program} {l : Launch} {e : Env} {s : State} {m : MethodId} {args : Array Value} {below : List Frame} {meth : Method} {c : Code} {b L : Nat} {xs : Nat → Int32} {D : va_G} {cI cJ cZ : ClassId} {sa ad ad2 : Nat → Nat} {o cells slots i : Nat} {Q : State → Prop}
    (C : law_C p l s m c args b L xs D cI cJ cZ sa) (kk : law_K p l e s m args below meth c b D cI cJ cZ ad ad2 o cells slots Q i) {N : Nat} {w t pa pe : Int32} {f0 f1 f2 f3 f4 : Nat → Int32} {fo : Nat → Int64} {th : Int32} {g0 g1 g2 : Nat → Int32} {H : Heap} {locs : List Loc} {ls : Array Slot}
    (h : Ra N f0 f1 f2 g0 g1 g2) (r : Rw N f3 f4 g0 g1 g2 w t) (hP : va_P D vwCl (lW cI cJ cZ ad ad2 o (nI N) w t pa pe f0 f1 f2 f3 f4 fo th g0 g1 g2) H) (hD : va_D (lA s) (lW cI cJ cZ ad ad2 o (nI N) w t pa pe f0 f1 f2 f3 f4 fo th g0 g1 g2)) (hS : va_S (lA s) s.heap H locs) (hl : lv_has ls 9 (law_L b ad ad2 o i))
    (hi : i + 2 < L) (hc : cells + 24 ≤ 650192) (hs : slots + 125 ≤ 7145529) : W p l e room_1 s m args below meth c H locs cells slots Q (F0 m 732 ls []) := by
  obtain ⟨hx, hb, hml, hown, hts, hX, hbl, hK, hZ, hN9, hst, hL⟩ := C
  have ew := r.ww
  have et := r.tt
  subst ew
  subst et
  have q := r.rp
  have hN := h.n
  have hn : m_n g0 N ≤ 24 := Nat.le_trans (m_n_le g0 N) hN
  have ht : m_tn g0 g1 g2 N ≤ 24 := by
    have h9 := m_ab_lt (g0 := g0) (g1 := g1) (g2 := g2) hN
    unfold m_tn
    split <;> omega
  have hA : ∀ q : Nat, s.heap.size ≤ q → lA s q := fun _ h => h
  obtain ⟨x1, e1⟩ : ∃ x1, xs (i + 1) = x1 := ⟨_, rfl⟩
  obtain ⟨x2, e2⟩ : ∃ x2, xs (i + 2) = x2 := ⟨_, rfl⟩
  have hl : lv_has ls 9 [(4, .int (nI i)), (3, .ref o), (2, .ref (ad2 0)), (1, .ref (ad 0)), (0, .ref b)] := hl
  cases hm : m_in x1 0 (nI (m_n g0 N) - 1) with
  | false =>
    refine lv_aload_n hx hb dL_law_732 rfl (lv_at hl 3 rfl) ?_
    refine l_arg (k := 1) hx hb hX hbl hS (by omega) hL rfl e1 (lv_at hl 4 rfl) (lv_at hl 0 rfl) dL_law_733 dL_law_734 dL_law_736 dL_law_737 dL_law_738 ?_
    refine lv_aload_n hx hb dL_law_739 rfl (lv_at hl 1 rfl) ?_
    refine l_callE (As := [.ref (ad 0), .int x1, .ref o]) (rest := []) ⟨hx, hb, hml, hown, hts⟩ (t_L_placeOf_1 l D sa hst cI cJ ad o (nI N) (nI (m_n g0 N)) (nI (m_tn g0 g1 g2 N)) pa pe f0 f1 f2 f3 f4 x1 (in_place0 hn hm) fo) (vx_cwSW 3 hts gL_law_L_placeOf rfl rfl rfl kq_L_placeOf ⟨Nat.le_of_ble_eq_true rfl, Nat.le_of_ble_eq_true rfl⟩) (hP.sub [0, 1, 2, 3, 4, 5, 6] rfl) (hK.sub [0, 1] rfl) (hZ.kept fun a ha => hS.2.1 a ha (Nat.not_le.mpr ha)) hN9 rfl hl.1 rfl (Nat.le_of_ble_eq_true rfl) dL_law_740 (show cells + 1 ≤ 650192 by omega) (show slots + 6 ≤ 7145529 by omega) hS (fun H locs hsm hS => ?_)
    have hP := hsm.P hP
    refine lv_istore (lv' := [(5, .int 1), (4, .int (nI i)), (3, .ref o), (2, .ref (ad2 0)), (1, .ref (ad 0)), (0, .ref b)]) hx hb dL_law_743 hl (by decide) rfl (fun ls hl => ?_)
    refine lv_aload_n hx hb dL_law_745 rfl (lv_at hl 3 rfl) ?_
    refine l_arg (k := 1) hx hb hX hbl hS (by omega) hL rfl e1 (lv_at hl 5 rfl) (lv_at hl 1 rfl) dL_law_746 dL_law_747 dL_law_749 dL_law_750 dL_law_751 ?_
    refine m_callVI (As := [.int x1]) (rest := []) (Wr := (lw cI cJ ad o (nI N) (nI (m_n g0 N)) (nI (m_tn g0 g1 g2 N)) pa pe f0 f1 f2 f3 f4 fo)) (W2 := (lw cI cJ ad o (nI N) (nI (m_n g0 N)) (nI (m_tn g0 g1 g2 N)) pa pe f0 f1 f2 f3 f4 fo ++ mw cI cZ ad2 1 (nI N) pa pe g0 g1 g2)) ⟨hx, hb, hml, hown, hts⟩ (c_X1_placeOf_1 l D cI cZ ad2 th N pa pe g0 g1 g2 hN x1 hm) (cwV 1 hts gL_law_X1_placeOf rfl rfl rfl kv_X1_placeOf ⟨Nat.le_of_ble_eq_true rfl, Nat.le_of_ble_eq_true rfl⟩) (va_recv hK hP (ci := 1) (q0 := 7) rfl rfl) hP hD (hK.sub [0, 2] rfl) hA [7, 8, 9, 10] [0, 1, 2, 3, 4, 5, 6] [0, 1, 2, 3, 4, 5, 6, 7, 8, 9, 10] rfl rfl rfl rfl rfl (by decide) rfl rfl rfl hl.1 rfl (Nat.le_of_ble_eq_true rfl) dL_law_752 (show cells + 1 ≤ 650192 by omega) (show slots + 6 ≤ 7145529 by omega) hS (fun H locs hP hS => ?_)
    have hD : va_D (lA s) (lw cI cJ ad o (nI N) (nI (m_n g0 N)) (nI (m_tn g0 g1 g2 N)) pa pe f0 f1 f2 f3 f4 fo ++ mw cI cZ ad2 1 (nI N) pa pe g0 g1 g2) := q_Dc (L := [ad 0, ad 1, ad 2, ad 3, ad 4, ad 5, o, ad2 0, ad2 1, ad2 2, ad2 3]) hD rfl rfl
    refine lv_istore (lv' := [(6, .int 0), (5, .int 1), (4, .int (nI i)), (3, .ref o), (2, .ref (ad2 0)), (1, .ref (ad 0)), (0, .ref b)]) hx hb dL_law_755 hl (by decide) rfl (fun ls hl => ?_)
    refine lv_aload_n hx hb dL_law_757 rfl (lv_at hl 4 rfl) ?_
    refine q_callV (As := []) (rest := []) ⟨hx, hb, hml, hown, hts⟩ (c_X1_thrown l D cI cZ ad2 1 N pa pe g0 g1 g2 (by omega)) (cwV 0 hts gL_law_X1_thrown rfl rfl rfl kv_X1_thrown ⟨Nat.le_of_ble_eq_true rfl, Nat.le_of_ble_eq_true rfl⟩) (va_recv hK hP (ci := 1) (q0 := 7) rfl rfl) (hP.sub [7, 8, 9, 10] rfl) (hK.sub [0, 2] rfl) rfl hl.1 rfl (Nat.le_of_ble_eq_true rfl) dL_law_758 (show cells + 1 ≤ 650192 by omega) (show slots + 6 ≤ 7145529 by omega) hS (fun H locs hsm hS => ?_)
    have hP := hsm.P hP
    refine lv_iload hx hb dL_law_761 (lv_at hl 1 rfl) ?_
    refine lv_icmp_eq (tgt := 768) hx hb dL_law_763 (by decide) (fun _ => ?_) (fun h9 => absurd rfl h9)
    refine lv_iload hx hb dL_law_768 (lv_at hl 1 rfl) ?_
    refine lv_if_ne (tgt := 785) hx hb dL_law_770 (by decide) (fun _ => ?_) (fun h9 => absurd h9 (by decide))
    refine lv_goto (tgt := 1808) hx hb dL_law_785 (by decide) ?_
    refine W.widen (k := cells + 24) (n := slots + 125) (by omega) (by omega) ?_
    exact kk _ _ _ _ _ _ _ _ _ _ _ _ _ _ _ H locs ls (h) (r) hP hD hS (lv_sub hl [2, 3, 4, 5, 6] rfl)
  | true =>
    obtain ⟨k, hk, rfl⟩ := in_place1 hn hm
    have hi9 := place_in hn hk
    refine lv_aload_n hx hb dL_law_732 rfl (lv_at hl 3 rfl) ?_
    refine l_arg (k := 1) hx hb hX hbl hS (by omega) hL rfl e1 (lv_at hl 4 rfl) (lv_at hl 0 rfl) dL_law_733 dL_law_734 dL_law_736 dL_law_737 dL_law_738 ?_
    refine lv_aload_n hx hb dL_law_739 rfl (lv_at hl 1 rfl) ?_
    refine l_callI (As := [.ref (ad 0), .int (nI k), .ref o]) (rest := []) (Wr := [(ad2 0, .inr (1, [.int th, .int (nI N), .int pa, .int pe, .ref (ad2 1), .ref (ad2 2), .ref (ad2 3)])), (ad2 1, .inl (cI, 25, .inl g0)), (ad2 2, .inl (cI, 25, .inl g1)), (ad2 3, .inl (cZ, 25, .inl g2))]) (W2 := (lw cI cJ ad o (nI N) (nI (m_n g0 N)) (nI (m_tn g0 g1 g2 N)) pa pe f0 f1 f2 f3 f4 (vp_updL fo 0 (((rd f3 (nI k))).toInt64)) ++ [(ad2 0, .inr (1, [.int th, .int (nI N), .int pa, .int pe, .ref (ad2 1), .ref (ad2 2), .ref (ad2 3)])), (ad2 1, .inl (cI, 25, .inl g0)), (ad2 2, .inl (cI, 25, .inl g1)), (ad2 3, .inl (cZ, 25, .inl g2))])) ⟨hx, hb, hml, hown, hts⟩ (c_L_placeOf l D cI cJ ad o (nI N) (nI (m_n g0 N)) (nI (m_tn g0 g1 g2 N)) pa pe f0 f1 f2 f3 f4 (nI k) hi9.1 hi9.2 fo) (vx_cwSW 3 hts gL_law_L_placeOf rfl rfl rfl kq_L_placeOf ⟨Nat.le_of_ble_eq_true rfl, Nat.le_of_ble_eq_true rfl⟩) hP hD (hK.sub [0, 1] rfl) hA [0, 1, 2, 3, 4, 5, 6] [7, 8, 9, 10] [4, 5, 6, 7, 8, 9, 10, 0, 1, 2, 3] rfl rfl rfl rfl rfl (by decide) rfl rfl rfl hl.1 rfl (Nat.le_of_ble_eq_true rfl) dL_law_740 (show cells ≤ 650192 by omega) (show slots ≤ 7145529 by omega) hS (fun H locs hP hS => ?_)
    have hD : va_D (lA s) (lw cI cJ ad o (nI N) (nI (m_n g0 N)) (nI (m_tn g0 g1 g2 N)) pa pe f0 f1 f2 f3 f4 (vp_updL fo 0 (((rd f3 (nI k))).toInt64)) ++ [(ad2 0, .inr (1, [.int th, .int (nI N), .int pa, .int pe, .ref (ad2 1), .ref (ad2 2), .ref (ad2 3)])), (ad2 1, .inl (cI, 25, .inl g0)), (ad2 2, .inl (cI, 25, .inl g1)), (ad2 3, .inl (cZ, 25, .inl g2))]) := q_Dc (L := [ad 0, ad 1, ad 2, ad 3, ad 4, ad 5, o, ad2 0, ad2 1, ad2 2, ad2 3]) hD rfl rfl
    refine lv_istore (lv' := [(5, .int 0), (4, .int (nI i)), (3, .ref o), (2, .ref (ad2 0)), (1, .ref (ad 0)), (0, .ref b)]) hx hb dL_law_743 hl (by decide) rfl (fun ls hl => ?_)
    refine lv_aload_n hx hb dL_law_745 rfl (lv_at hl 3 rfl) ?_
    refine l_arg (k := 1) hx hb hX hbl hS (by omega) hL rfl e1 (lv_at hl 5 rfl) (lv_at hl 1 rfl) dL_law_746 dL_law_747 dL_law_749 dL_law_750 dL_law_751 ?_
    refine m_callVI (As := [.int (nI k)]) (rest := []) (Wr := (lw cI cJ ad o (nI N) (nI (m_n g0 N)) (nI (m_tn g0 g1 g2 N)) pa pe f0 f1 f2 f3 f4 (vp_updL fo 0 (((rd f3 (nI k))).toInt64)))) (W2 := (lw cI cJ ad o (nI N) (nI (m_n g0 N)) (nI (m_tn g0 g1 g2 N)) pa pe f0 f1 f2 f3 f4 (vp_updL fo 0 (((rd f3 (nI k))).toInt64)) ++ mw cI cZ ad2 0 (nI N) pa pe g0 g1 g2)) ⟨hx, hb, hml, hown, hts⟩ (c_X1_placeOf_ok l D cI cZ ad2 th N pa pe g0 g1 g2 hN k hk hm) (cwV 1 hts gL_law_X1_placeOf rfl rfl rfl kv_X1_placeOf ⟨Nat.le_of_ble_eq_true rfl, Nat.le_of_ble_eq_true rfl⟩) (va_recv hK hP (ci := 1) (q0 := 7) rfl rfl) hP hD (hK.sub [0, 2] rfl) hA [7, 8, 9, 10] [0, 1, 2, 3, 4, 5, 6] [0, 1, 2, 3, 4, 5, 6, 7, 8, 9, 10] rfl rfl rfl rfl rfl (by decide) rfl rfl rfl hl.1 rfl (Nat.le_of_ble_eq_true rfl) dL_law_752 (show cells ≤ 650192 by omega) (show slots ≤ 7145529 by omega) hS (fun H locs hP hS => ?_)
    have hD : va_D (lA s) (lw cI cJ ad o (nI N) (nI (m_n g0 N)) (nI (m_tn g0 g1 g2 N)) pa pe f0 f1 f2 f3 f4 (vp_updL fo 0 (((rd f3 (nI k))).toInt64)) ++ mw cI cZ ad2 0 (nI N) pa pe g0 g1 g2) := q_Dc (L := [ad 0, ad 1, ad 2, ad 3, ad 4, ad 5, o, ad2 0, ad2 1, ad2 2, ad2 3]) hD rfl rfl
    refine lv_istore (lv' := [(6, .int (nI (m_P g0 N k))), (5, .int 0), (4, .int (nI i)), (3, .ref o), (2, .ref (ad2 0)), (1, .ref (ad 0)), (0, .ref b)]) hx hb dL_law_755 hl (by decide) rfl (fun ls hl => ?_)
    refine lv_aload_n hx hb dL_law_757 rfl (lv_at hl 4 rfl) ?_
    refine q_callV (As := []) (rest := []) ⟨hx, hb, hml, hown, hts⟩ (c_X1_thrown l D cI cZ ad2 0 N pa pe g0 g1 g2 (by omega)) (cwV 0 hts gL_law_X1_thrown rfl rfl rfl kv_X1_thrown ⟨Nat.le_of_ble_eq_true rfl, Nat.le_of_ble_eq_true rfl⟩) (va_recv hK hP (ci := 1) (q0 := 7) rfl rfl) (hP.sub [7, 8, 9, 10] rfl) (hK.sub [0, 2] rfl) rfl hl.1 rfl (Nat.le_of_ble_eq_true rfl) dL_law_758 (show cells ≤ 650192 by omega) (show slots ≤ 7145529 by omega) hS (fun H locs hsm hS => ?_)
    have hP := hsm.P hP
    refine lv_iload hx hb dL_law_761 (lv_at hl 1 rfl) ?_
    refine lv_icmp_eq (tgt := 768) hx hb dL_law_763 (by decide) (fun _ => ?_) (fun h9 => absurd rfl h9)
    refine lv_iload hx hb dL_law_768 (lv_at hl 1 rfl) ?_
    refine lv_if_ne (tgt := 785) hx hb dL_law_770 (by decide) (fun h9 => absurd (by decide) h9) (fun _ => ?_)
    refine lv_aload_n hx hb dL_law_773 rfl (lv_at hl 3 rfl) ?_
    refine lv_iconst (v := 0) hx hb dL_law_774 (by decide) ?_
    refine va_lald hx hb hK hP 6 1 rfl rfl (vp_in_nI (n := 0) (by decide) (by decide)) dL_law_775 ?_
    rw [upd0]
    refine lv_iload hx hb dL_law_776 (lv_at hl 0 rfl) ?_
    refine lv_i2l (v := ((nI (m_P g0 N k))).toInt64) hx hb dL_law_778 rfl ?_
    refine l_lcmp0 hx hb (by rw [q.rd hN hk]) dL_law_779 ?_
    refine lv_if_eq (tgt := 785) hx hb dL_law_780 (by decide) (fun _ => ?_) (fun h9 => absurd rfl h9)
    refine lv_goto (tgt := 1808) hx hb dL_law_785 (by decide) ?_
    refine W.widen (k := cells + 24) (n := slots + 125) (by omega) (by omega) ?_
    exact kk _ _ _ _ _ _ _ _ _ _ _ _ _ _ _ H locs ls (h) (r) hP hD hS (lv_sub hl [2, 3, 4, 5, 6] rfl)

set_option maxHeartbeats 4000000 in
set_option maxRecDepth 100000 in
theorem law_topicOf {p : Program} {l : Launch} {e : Env} {s : State} {m : MethodId} {args : Array Value} {below : List Frame} {meth : Method} {c : Code} {b L : Nat} {xs : Nat → Int32} {D : va_G} {cI cJ cZ : ClassId} {sa ad ad2 : Nat → Nat} {o cells slots i : Nat} {Q : State → Prop}
    (C : law_C p l s m c args b L xs D cI cJ cZ sa) (kk : law_K p l e s m args below meth c b D cI cJ cZ ad ad2 o cells slots Q i) {N : Nat} {w t pa pe : Int32} {f0 f1 f2 f3 f4 : Nat → Int32} {fo : Nat → Int64} {th : Int32} {g0 g1 g2 : Nat → Int32} {H : Heap} {locs : List Loc} {ls : Array Slot}
    (h : Ra N f0 f1 f2 g0 g1 g2) (r : Rw N f3 f4 g0 g1 g2 w t) (hP : va_P D vwCl (lW cI cJ cZ ad ad2 o (nI N) w t pa pe f0 f1 f2 f3 f4 fo th g0 g1 g2) H) (hD : va_D (lA s) (lW cI cJ cZ ad ad2 o (nI N) w t pa pe f0 f1 f2 f3 f4 fo th g0 g1 g2)) (hS : va_S (lA s) s.heap H locs) (hl : lv_has ls 9 (law_L b ad ad2 o i))
    (hi : i + 2 < L) (hc : cells + 24 ≤ 650192) (hs : slots + 125 ≤ 7145529) : W p l e room_1 s m args below meth c H locs cells slots Q (F0 m 788 ls []) := by
  obtain ⟨hx, hb, hml, hown, hts, hX, hbl, hK, hZ, hN9, hst, hL⟩ := C
  have ew := r.ww
  have et := r.tt
  subst ew
  subst et
  have q := r.rp
  have hN := h.n
  have hn : m_n g0 N ≤ 24 := Nat.le_trans (m_n_le g0 N) hN
  have ht : m_tn g0 g1 g2 N ≤ 24 := by
    have h9 := m_ab_lt (g0 := g0) (g1 := g1) (g2 := g2) hN
    unfold m_tn
    split <;> omega
  have hA : ∀ q : Nat, s.heap.size ≤ q → lA s q := fun _ h => h
  obtain ⟨x1, e1⟩ : ∃ x1, xs (i + 1) = x1 := ⟨_, rfl⟩
  obtain ⟨x2, e2⟩ : ∃ x2, xs (i + 2) = x2 := ⟨_, rfl⟩
  have hl : lv_has ls 9 [(4, .int (nI i)), (3, .ref o), (2, .ref (ad2 0)), (1, .ref (ad 0)), (0, .ref b)] := hl
  cases hm : m_in x1 0 (nI (m_n g0 N) - 1) with
  | false =>
    refine lv_aload_n hx hb dL_law_788 rfl (lv_at hl 3 rfl) ?_
    refine l_arg (k := 1) hx hb hX hbl hS (by omega) hL rfl e1 (lv_at hl 4 rfl) (lv_at hl 0 rfl) dL_law_789 dL_law_790 dL_law_792 dL_law_793 dL_law_794 ?_
    refine lv_aload_n hx hb dL_law_795 rfl (lv_at hl 1 rfl) ?_
    refine l_callE (As := [.ref (ad 0), .int x1, .ref o]) (rest := []) ⟨hx, hb, hml, hown, hts⟩ (t_L_topicOf_1 l D sa hst cI cJ ad o (nI N) (nI (m_n g0 N)) (nI (m_tn g0 g1 g2 N)) pa pe f0 f1 f2 f3 f4 x1 (in_place0 hn hm) fo) (vx_cwSW 3 hts gL_law_L_topicOf rfl rfl rfl kq_L_topicOf ⟨Nat.le_of_ble_eq_true rfl, Nat.le_of_ble_eq_true rfl⟩) (hP.sub [0, 1, 2, 3, 4, 5, 6] rfl) (hK.sub [0, 1] rfl) (hZ.kept fun a ha => hS.2.1 a ha (Nat.not_le.mpr ha)) hN9 rfl hl.1 rfl (Nat.le_of_ble_eq_true rfl) dL_law_796 (show cells + 1 ≤ 650192 by omega) (show slots + 6 ≤ 7145529 by omega) hS (fun H locs hsm hS => ?_)
    have hP := hsm.P hP
    refine lv_istore (lv' := [(5, .int 1), (4, .int (nI i)), (3, .ref o), (2, .ref (ad2 0)), (1, .ref (ad 0)), (0, .ref b)]) hx hb dL_law_799 hl (by decide) rfl (fun ls hl => ?_)
    refine lv_aload_n hx hb dL_law_801 rfl (lv_at hl 3 rfl) ?_
    refine l_arg (k := 1) hx hb hX hbl hS (by omega) hL rfl e1 (lv_at hl 5 rfl) (lv_at hl 1 rfl) dL_law_802 dL_law_803 dL_law_805 dL_law_806 dL_law_807 ?_
    refine m_callVI (As := [.int x1]) (rest := []) (Wr := (lw cI cJ ad o (nI N) (nI (m_n g0 N)) (nI (m_tn g0 g1 g2 N)) pa pe f0 f1 f2 f3 f4 fo)) (W2 := (lw cI cJ ad o (nI N) (nI (m_n g0 N)) (nI (m_tn g0 g1 g2 N)) pa pe f0 f1 f2 f3 f4 fo ++ mw cI cZ ad2 1 (nI N) pa pe g0 g1 g2)) ⟨hx, hb, hml, hown, hts⟩ (c_X1_topicOf_1 l D cI cZ ad2 th N pa pe g0 g1 g2 hN x1 hm) (cwV 1 hts gL_law_X1_topicOf rfl rfl rfl kv_X1_topicOf ⟨Nat.le_of_ble_eq_true rfl, Nat.le_of_ble_eq_true rfl⟩) (va_recv hK hP (ci := 1) (q0 := 7) rfl rfl) hP hD (hK.sub [0, 2] rfl) hA [7, 8, 9, 10] [0, 1, 2, 3, 4, 5, 6] [0, 1, 2, 3, 4, 5, 6, 7, 8, 9, 10] rfl rfl rfl rfl rfl (by decide) rfl rfl rfl hl.1 rfl (Nat.le_of_ble_eq_true rfl) dL_law_808 (show cells + 1 ≤ 650192 by omega) (show slots + 6 ≤ 7145529 by omega) hS (fun H locs hP hS => ?_)
    have hD : va_D (lA s) (lw cI cJ ad o (nI N) (nI (m_n g0 N)) (nI (m_tn g0 g1 g2 N)) pa pe f0 f1 f2 f3 f4 fo ++ mw cI cZ ad2 1 (nI N) pa pe g0 g1 g2) := q_Dc (L := [ad 0, ad 1, ad 2, ad 3, ad 4, ad 5, o, ad2 0, ad2 1, ad2 2, ad2 3]) hD rfl rfl
    refine lv_istore (lv' := [(6, .int 0), (5, .int 1), (4, .int (nI i)), (3, .ref o), (2, .ref (ad2 0)), (1, .ref (ad 0)), (0, .ref b)]) hx hb dL_law_811 hl (by decide) rfl (fun ls hl => ?_)
    refine lv_aload_n hx hb dL_law_813 rfl (lv_at hl 4 rfl) ?_
    refine q_callV (As := []) (rest := []) ⟨hx, hb, hml, hown, hts⟩ (c_X1_thrown l D cI cZ ad2 1 N pa pe g0 g1 g2 (by omega)) (cwV 0 hts gL_law_X1_thrown rfl rfl rfl kv_X1_thrown ⟨Nat.le_of_ble_eq_true rfl, Nat.le_of_ble_eq_true rfl⟩) (va_recv hK hP (ci := 1) (q0 := 7) rfl rfl) (hP.sub [7, 8, 9, 10] rfl) (hK.sub [0, 2] rfl) rfl hl.1 rfl (Nat.le_of_ble_eq_true rfl) dL_law_814 (show cells + 1 ≤ 650192 by omega) (show slots + 6 ≤ 7145529 by omega) hS (fun H locs hsm hS => ?_)
    have hP := hsm.P hP
    refine lv_iload hx hb dL_law_817 (lv_at hl 1 rfl) ?_
    refine lv_icmp_eq (tgt := 824) hx hb dL_law_819 (by decide) (fun _ => ?_) (fun h9 => absurd rfl h9)
    refine lv_iload hx hb dL_law_824 (lv_at hl 1 rfl) ?_
    refine lv_if_ne (tgt := 841) hx hb dL_law_826 (by decide) (fun _ => ?_) (fun h9 => absurd h9 (by decide))
    refine lv_goto (tgt := 1808) hx hb dL_law_841 (by decide) ?_
    refine W.widen (k := cells + 24) (n := slots + 125) (by omega) (by omega) ?_
    exact kk _ _ _ _ _ _ _ _ _ _ _ _ _ _ _ H locs ls (h) (r) hP hD hS (lv_sub hl [2, 3, 4, 5, 6] rfl)
  | true =>
    obtain ⟨k, hk, rfl⟩ := in_place1 hn hm
    have hi9 := place_in hn hk
    refine lv_aload_n hx hb dL_law_788 rfl (lv_at hl 3 rfl) ?_
    refine l_arg (k := 1) hx hb hX hbl hS (by omega) hL rfl e1 (lv_at hl 4 rfl) (lv_at hl 0 rfl) dL_law_789 dL_law_790 dL_law_792 dL_law_793 dL_law_794 ?_
    refine lv_aload_n hx hb dL_law_795 rfl (lv_at hl 1 rfl) ?_
    refine l_callI (As := [.ref (ad 0), .int (nI k), .ref o]) (rest := []) (Wr := [(ad2 0, .inr (1, [.int th, .int (nI N), .int pa, .int pe, .ref (ad2 1), .ref (ad2 2), .ref (ad2 3)])), (ad2 1, .inl (cI, 25, .inl g0)), (ad2 2, .inl (cI, 25, .inl g1)), (ad2 3, .inl (cZ, 25, .inl g2))]) (W2 := (lw cI cJ ad o (nI N) (nI (m_n g0 N)) (nI (m_tn g0 g1 g2 N)) pa pe f0 f1 f2 f3 f4 (vp_updL fo 0 (((x_tp f1 f3 (nI k))).toInt64)) ++ [(ad2 0, .inr (1, [.int th, .int (nI N), .int pa, .int pe, .ref (ad2 1), .ref (ad2 2), .ref (ad2 3)])), (ad2 1, .inl (cI, 25, .inl g0)), (ad2 2, .inl (cI, 25, .inl g1)), (ad2 3, .inl (cZ, 25, .inl g2))])) ⟨hx, hb, hml, hown, hts⟩ (c_L_topicOf l D cI cJ ad o (nI N) (nI (m_n g0 N)) (nI (m_tn g0 g1 g2 N)) pa pe f0 f1 f2 f3 f4 (nI k) hi9.1 hi9.2 fo) (vx_cwSW 3 hts gL_law_L_topicOf rfl rfl rfl kq_L_topicOf ⟨Nat.le_of_ble_eq_true rfl, Nat.le_of_ble_eq_true rfl⟩) hP hD (hK.sub [0, 1] rfl) hA [0, 1, 2, 3, 4, 5, 6] [7, 8, 9, 10] [4, 5, 6, 7, 8, 9, 10, 0, 1, 2, 3] rfl rfl rfl rfl rfl (by decide) rfl rfl rfl hl.1 rfl (Nat.le_of_ble_eq_true rfl) dL_law_796 (show cells ≤ 650192 by omega) (show slots ≤ 7145529 by omega) hS (fun H locs hP hS => ?_)
    have hD : va_D (lA s) (lw cI cJ ad o (nI N) (nI (m_n g0 N)) (nI (m_tn g0 g1 g2 N)) pa pe f0 f1 f2 f3 f4 (vp_updL fo 0 (((x_tp f1 f3 (nI k))).toInt64)) ++ [(ad2 0, .inr (1, [.int th, .int (nI N), .int pa, .int pe, .ref (ad2 1), .ref (ad2 2), .ref (ad2 3)])), (ad2 1, .inl (cI, 25, .inl g0)), (ad2 2, .inl (cI, 25, .inl g1)), (ad2 3, .inl (cZ, 25, .inl g2))]) := q_Dc (L := [ad 0, ad 1, ad 2, ad 3, ad 4, ad 5, o, ad2 0, ad2 1, ad2 2, ad2 3]) hD rfl rfl
    refine lv_istore (lv' := [(5, .int 0), (4, .int (nI i)), (3, .ref o), (2, .ref (ad2 0)), (1, .ref (ad 0)), (0, .ref b)]) hx hb dL_law_799 hl (by decide) rfl (fun ls hl => ?_)
    refine lv_aload_n hx hb dL_law_801 rfl (lv_at hl 3 rfl) ?_
    refine l_arg (k := 1) hx hb hX hbl hS (by omega) hL rfl e1 (lv_at hl 5 rfl) (lv_at hl 1 rfl) dL_law_802 dL_law_803 dL_law_805 dL_law_806 dL_law_807 ?_
    refine m_callVI (As := [.int (nI k)]) (rest := []) (Wr := (lw cI cJ ad o (nI N) (nI (m_n g0 N)) (nI (m_tn g0 g1 g2 N)) pa pe f0 f1 f2 f3 f4 (vp_updL fo 0 (((x_tp f1 f3 (nI k))).toInt64)))) (W2 := (lw cI cJ ad o (nI N) (nI (m_n g0 N)) (nI (m_tn g0 g1 g2 N)) pa pe f0 f1 f2 f3 f4 (vp_updL fo 0 (((x_tp f1 f3 (nI k))).toInt64)) ++ mw cI cZ ad2 0 (nI N) pa pe g0 g1 g2)) ⟨hx, hb, hml, hown, hts⟩ (c_X1_topicOf_ok l D cI cZ ad2 th N pa pe g0 g1 g2 hN k hk hm) (cwV 1 hts gL_law_X1_topicOf rfl rfl rfl kv_X1_topicOf ⟨Nat.le_of_ble_eq_true rfl, Nat.le_of_ble_eq_true rfl⟩) (va_recv hK hP (ci := 1) (q0 := 7) rfl rfl) hP hD (hK.sub [0, 2] rfl) hA [7, 8, 9, 10] [0, 1, 2, 3, 4, 5, 6] [0, 1, 2, 3, 4, 5, 6, 7, 8, 9, 10] rfl rfl rfl rfl rfl (by decide) rfl rfl rfl hl.1 rfl (Nat.le_of_ble_eq_true rfl) dL_law_808 (show cells ≤ 650192 by omega) (show slots ≤ 7145529 by omega) hS (fun H locs hP hS => ?_)
    have hD : va_D (lA s) (lw cI cJ ad o (nI N) (nI (m_n g0 N)) (nI (m_tn g0 g1 g2 N)) pa pe f0 f1 f2 f3 f4 (vp_updL fo 0 (((x_tp f1 f3 (nI k))).toInt64)) ++ mw cI cZ ad2 0 (nI N) pa pe g0 g1 g2) := q_Dc (L := [ad 0, ad 1, ad 2, ad 3, ad 4, ad 5, o, ad2 0, ad2 1, ad2 2, ad2 3]) hD rfl rfl
    refine lv_istore (lv' := [(6, .int (g0 (m_P g0 N k))), (5, .int 0), (4, .int (nI i)), (3, .ref o), (2, .ref (ad2 0)), (1, .ref (ad 0)), (0, .ref b)]) hx hb dL_law_811 hl (by decide) rfl (fun ls hl => ?_)
    refine lv_aload_n hx hb dL_law_813 rfl (lv_at hl 4 rfl) ?_
    refine q_callV (As := []) (rest := []) ⟨hx, hb, hml, hown, hts⟩ (c_X1_thrown l D cI cZ ad2 0 N pa pe g0 g1 g2 (by omega)) (cwV 0 hts gL_law_X1_thrown rfl rfl rfl kv_X1_thrown ⟨Nat.le_of_ble_eq_true rfl, Nat.le_of_ble_eq_true rfl⟩) (va_recv hK hP (ci := 1) (q0 := 7) rfl rfl) (hP.sub [7, 8, 9, 10] rfl) (hK.sub [0, 2] rfl) rfl hl.1 rfl (Nat.le_of_ble_eq_true rfl) dL_law_814 (show cells ≤ 650192 by omega) (show slots ≤ 7145529 by omega) hS (fun H locs hsm hS => ?_)
    have hP := hsm.P hP
    refine lv_iload hx hb dL_law_817 (lv_at hl 1 rfl) ?_
    refine lv_icmp_eq (tgt := 824) hx hb dL_law_819 (by decide) (fun _ => ?_) (fun h9 => absurd rfl h9)
    refine lv_iload hx hb dL_law_824 (lv_at hl 1 rfl) ?_
    refine lv_if_ne (tgt := 841) hx hb dL_law_826 (by decide) (fun h9 => absurd (by decide) h9) (fun _ => ?_)
    refine lv_aload_n hx hb dL_law_829 rfl (lv_at hl 3 rfl) ?_
    refine lv_iconst (v := 0) hx hb dL_law_830 (by decide) ?_
    refine va_lald hx hb hK hP 6 1 rfl rfl (vp_in_nI (n := 0) (by decide) (by decide)) dL_law_831 ?_
    rw [upd0]
    refine lv_iload hx hb dL_law_832 (lv_at hl 0 rfl) ?_
    refine lv_i2l (v := ((g0 (m_P g0 N k))).toInt64) hx hb dL_law_834 rfl ?_
    refine l_lcmp0 hx hb (by rw [h.tpg q hk]) dL_law_835 ?_
    refine lv_if_eq (tgt := 841) hx hb dL_law_836 (by decide) (fun _ => ?_) (fun h9 => absurd rfl h9)
    refine lv_goto (tgt := 1808) hx hb dL_law_841 (by decide) ?_
    refine W.widen (k := cells + 24) (n := slots + 125) (by omega) (by omega) ?_
    exact kk _ _ _ _ _ _ _ _ _ _ _ _ _ _ _ H locs ls (h) (r) hP hD hS (lv_sub hl [2, 3, 4, 5, 6] rfl)

set_option maxHeartbeats 4000000 in
set_option maxRecDepth 100000 in
theorem law_threadOf {p : Program} {l : Launch} {e : Env} {s : State} {m : MethodId} {args : Array Value} {below : List Frame} {meth : Method} {c : Code} {b L : Nat} {xs : Nat → Int32} {D : va_G} {cI cJ cZ : ClassId} {sa ad ad2 : Nat → Nat} {o cells slots i : Nat} {Q : State → Prop}
    (C : law_C p l s m c args b L xs D cI cJ cZ sa) (kk : law_K p l e s m args below meth c b D cI cJ cZ ad ad2 o cells slots Q i) {N : Nat} {w t pa pe : Int32} {f0 f1 f2 f3 f4 : Nat → Int32} {fo : Nat → Int64} {th : Int32} {g0 g1 g2 : Nat → Int32} {H : Heap} {locs : List Loc} {ls : Array Slot}
    (h : Ra N f0 f1 f2 g0 g1 g2) (r : Rw N f3 f4 g0 g1 g2 w t) (hP : va_P D vwCl (lW cI cJ cZ ad ad2 o (nI N) w t pa pe f0 f1 f2 f3 f4 fo th g0 g1 g2) H) (hD : va_D (lA s) (lW cI cJ cZ ad ad2 o (nI N) w t pa pe f0 f1 f2 f3 f4 fo th g0 g1 g2)) (hS : va_S (lA s) s.heap H locs) (hl : lv_has ls 9 (law_L b ad ad2 o i))
    (hi : i + 2 < L) (hc : cells + 24 ≤ 650192) (hs : slots + 125 ≤ 7145529) : W p l e room_1 s m args below meth c H locs cells slots Q (F0 m 1303 ls []) := by
  obtain ⟨hx, hb, hml, hown, hts, hX, hbl, hK, hZ, hN9, hst, hL⟩ := C
  have ew := r.ww
  have et := r.tt
  subst ew
  subst et
  have q := r.rp
  have hN := h.n
  have hn : m_n g0 N ≤ 24 := Nat.le_trans (m_n_le g0 N) hN
  have ht : m_tn g0 g1 g2 N ≤ 24 := by
    have h9 := m_ab_lt (g0 := g0) (g1 := g1) (g2 := g2) hN
    unfold m_tn
    split <;> omega
  have hA : ∀ q : Nat, s.heap.size ≤ q → lA s q := fun _ h => h
  obtain ⟨x1, e1⟩ : ∃ x1, xs (i + 1) = x1 := ⟨_, rfl⟩
  obtain ⟨x2, e2⟩ : ∃ x2, xs (i + 2) = x2 := ⟨_, rfl⟩
  have hl : lv_has ls 9 [(4, .int (nI i)), (3, .ref o), (2, .ref (ad2 0)), (1, .ref (ad 0)), (0, .ref b)] := hl
  cases hm : m_in x1 0 (nI (m_n g0 N) - 1) with
  | false =>
    refine lv_aload_n hx hb dL_law_1303 rfl (lv_at hl 3 rfl) ?_
    refine l_arg (k := 1) hx hb hX hbl hS (by omega) hL rfl e1 (lv_at hl 4 rfl) (lv_at hl 0 rfl) dL_law_1304 dL_law_1305 dL_law_1307 dL_law_1308 dL_law_1309 ?_
    refine lv_aload_n hx hb dL_law_1310 rfl (lv_at hl 1 rfl) ?_
    refine l_callE (As := [.ref (ad 0), .int x1, .ref o]) (rest := []) ⟨hx, hb, hml, hown, hts⟩ (t_L_threadOf_1 l D sa hst cI cJ ad o (nI N) (nI (m_n g0 N)) (nI (m_tn g0 g1 g2 N)) pa pe f0 f1 f2 f3 f4 x1 (in_place0 hn hm) fo) (vx_cwSW 3 hts gL_law_L_threadOf rfl rfl rfl kq_L_threadOf ⟨Nat.le_of_ble_eq_true rfl, Nat.le_of_ble_eq_true rfl⟩) (hP.sub [0, 1, 2, 3, 4, 5, 6] rfl) (hK.sub [0, 1] rfl) (hZ.kept fun a ha => hS.2.1 a ha (Nat.not_le.mpr ha)) hN9 rfl hl.1 rfl (Nat.le_of_ble_eq_true rfl) dL_law_1311 (show cells + 1 ≤ 650192 by omega) (show slots + 6 ≤ 7145529 by omega) hS (fun H locs hsm hS => ?_)
    have hP := hsm.P hP
    refine lv_istore (lv' := [(5, .int 1), (4, .int (nI i)), (3, .ref o), (2, .ref (ad2 0)), (1, .ref (ad 0)), (0, .ref b)]) hx hb dL_law_1314 hl (by decide) rfl (fun ls hl => ?_)
    refine lv_aload_n hx hb dL_law_1316 rfl (lv_at hl 3 rfl) ?_
    refine l_arg (k := 1) hx hb hX hbl hS (by omega) hL rfl e1 (lv_at hl 5 rfl) (lv_at hl 1 rfl) dL_law_1317 dL_law_1318 dL_law_1320 dL_law_1321 dL_law_1322 ?_
    refine m_callVI (As := [.int x1]) (rest := []) (Wr := (lw cI cJ ad o (nI N) (nI (m_n g0 N)) (nI (m_tn g0 g1 g2 N)) pa pe f0 f1 f2 f3 f4 fo)) (W2 := (lw cI cJ ad o (nI N) (nI (m_n g0 N)) (nI (m_tn g0 g1 g2 N)) pa pe f0 f1 f2 f3 f4 fo ++ mw cI cZ ad2 1 (nI N) pa pe g0 g1 g2)) ⟨hx, hb, hml, hown, hts⟩ (c_X1_threadOf_1 l D cI cZ ad2 th N pa pe g0 g1 g2 hN x1 hm) (cwV 1 hts gL_law_X1_threadOf rfl rfl rfl kv_X1_threadOf ⟨Nat.le_of_ble_eq_true rfl, Nat.le_of_ble_eq_true rfl⟩) (va_recv hK hP (ci := 1) (q0 := 7) rfl rfl) hP hD (hK.sub [0, 2] rfl) hA [7, 8, 9, 10] [0, 1, 2, 3, 4, 5, 6] [0, 1, 2, 3, 4, 5, 6, 7, 8, 9, 10] rfl rfl rfl rfl rfl (by decide) rfl rfl rfl hl.1 rfl (Nat.le_of_ble_eq_true rfl) dL_law_1323 (show cells + 1 ≤ 650192 by omega) (show slots + 6 ≤ 7145529 by omega) hS (fun H locs hP hS => ?_)
    have hD : va_D (lA s) (lw cI cJ ad o (nI N) (nI (m_n g0 N)) (nI (m_tn g0 g1 g2 N)) pa pe f0 f1 f2 f3 f4 fo ++ mw cI cZ ad2 1 (nI N) pa pe g0 g1 g2) := q_Dc (L := [ad 0, ad 1, ad 2, ad 3, ad 4, ad 5, o, ad2 0, ad2 1, ad2 2, ad2 3]) hD rfl rfl
    refine lv_istore (lv' := [(6, .int 0), (5, .int 1), (4, .int (nI i)), (3, .ref o), (2, .ref (ad2 0)), (1, .ref (ad 0)), (0, .ref b)]) hx hb dL_law_1326 hl (by decide) rfl (fun ls hl => ?_)
    refine lv_aload_n hx hb dL_law_1328 rfl (lv_at hl 4 rfl) ?_
    refine q_callV (As := []) (rest := []) ⟨hx, hb, hml, hown, hts⟩ (c_X1_thrown l D cI cZ ad2 1 N pa pe g0 g1 g2 (by omega)) (cwV 0 hts gL_law_X1_thrown rfl rfl rfl kv_X1_thrown ⟨Nat.le_of_ble_eq_true rfl, Nat.le_of_ble_eq_true rfl⟩) (va_recv hK hP (ci := 1) (q0 := 7) rfl rfl) (hP.sub [7, 8, 9, 10] rfl) (hK.sub [0, 2] rfl) rfl hl.1 rfl (Nat.le_of_ble_eq_true rfl) dL_law_1329 (show cells + 1 ≤ 650192 by omega) (show slots + 6 ≤ 7145529 by omega) hS (fun H locs hsm hS => ?_)
    have hP := hsm.P hP
    refine lv_iload hx hb dL_law_1332 (lv_at hl 1 rfl) ?_
    refine lv_icmp_eq (tgt := 1339) hx hb dL_law_1334 (by decide) (fun _ => ?_) (fun h9 => absurd rfl h9)
    refine lv_iload hx hb dL_law_1339 (lv_at hl 1 rfl) ?_
    refine lv_if_ne (tgt := 1356) hx hb dL_law_1341 (by decide) (fun _ => ?_) (fun h9 => absurd h9 (by decide))
    refine lv_goto (tgt := 1808) hx hb dL_law_1356 (by decide) ?_
    refine W.widen (k := cells + 24) (n := slots + 125) (by omega) (by omega) ?_
    exact kk _ _ _ _ _ _ _ _ _ _ _ _ _ _ _ H locs ls (h) (r) hP hD hS (lv_sub hl [2, 3, 4, 5, 6] rfl)
  | true =>
    obtain ⟨k, hk, rfl⟩ := in_place1 hn hm
    have hi9 := place_in hn hk
    refine lv_aload_n hx hb dL_law_1303 rfl (lv_at hl 3 rfl) ?_
    refine l_arg (k := 1) hx hb hX hbl hS (by omega) hL rfl e1 (lv_at hl 4 rfl) (lv_at hl 0 rfl) dL_law_1304 dL_law_1305 dL_law_1307 dL_law_1308 dL_law_1309 ?_
    refine lv_aload_n hx hb dL_law_1310 rfl (lv_at hl 1 rfl) ?_
    refine l_callI (As := [.ref (ad 0), .int (nI k), .ref o]) (rest := []) (Wr := [(ad2 0, .inr (1, [.int th, .int (nI N), .int pa, .int pe, .ref (ad2 1), .ref (ad2 2), .ref (ad2 3)])), (ad2 1, .inl (cI, 25, .inl g0)), (ad2 2, .inl (cI, 25, .inl g1)), (ad2 3, .inl (cZ, 25, .inl g2))]) (W2 := (lw cI cJ ad o (nI N) (nI (m_n g0 N)) (nI (m_tn g0 g1 g2 N)) pa pe f0 f1 f2 f3 f4 (vp_updL fo 0 (((rd f4 (nI k))).toInt64)) ++ [(ad2 0, .inr (1, [.int th, .int (nI N), .int pa, .int pe, .ref (ad2 1), .ref (ad2 2), .ref (ad2 3)])), (ad2 1, .inl (cI, 25, .inl g0)), (ad2 2, .inl (cI, 25, .inl g1)), (ad2 3, .inl (cZ, 25, .inl g2))])) ⟨hx, hb, hml, hown, hts⟩ (c_L_threadOf l D cI cJ ad o (nI N) (nI (m_n g0 N)) (nI (m_tn g0 g1 g2 N)) pa pe f0 f1 f2 f3 f4 (nI k) hi9.1 hi9.2 fo) (vx_cwSW 3 hts gL_law_L_threadOf rfl rfl rfl kq_L_threadOf ⟨Nat.le_of_ble_eq_true rfl, Nat.le_of_ble_eq_true rfl⟩) hP hD (hK.sub [0, 1] rfl) hA [0, 1, 2, 3, 4, 5, 6] [7, 8, 9, 10] [4, 5, 6, 7, 8, 9, 10, 0, 1, 2, 3] rfl rfl rfl rfl rfl (by decide) rfl rfl rfl hl.1 rfl (Nat.le_of_ble_eq_true rfl) dL_law_1311 (show cells ≤ 650192 by omega) (show slots ≤ 7145529 by omega) hS (fun H locs hP hS => ?_)
    have hD : va_D (lA s) (lw cI cJ ad o (nI N) (nI (m_n g0 N)) (nI (m_tn g0 g1 g2 N)) pa pe f0 f1 f2 f3 f4 (vp_updL fo 0 (((rd f4 (nI k))).toInt64)) ++ [(ad2 0, .inr (1, [.int th, .int (nI N), .int pa, .int pe, .ref (ad2 1), .ref (ad2 2), .ref (ad2 3)])), (ad2 1, .inl (cI, 25, .inl g0)), (ad2 2, .inl (cI, 25, .inl g1)), (ad2 3, .inl (cZ, 25, .inl g2))]) := q_Dc (L := [ad 0, ad 1, ad 2, ad 3, ad 4, ad 5, o, ad2 0, ad2 1, ad2 2, ad2 3]) hD rfl rfl
    refine lv_istore (lv' := [(5, .int 0), (4, .int (nI i)), (3, .ref o), (2, .ref (ad2 0)), (1, .ref (ad 0)), (0, .ref b)]) hx hb dL_law_1314 hl (by decide) rfl (fun ls hl => ?_)
    refine lv_aload_n hx hb dL_law_1316 rfl (lv_at hl 3 rfl) ?_
    refine l_arg (k := 1) hx hb hX hbl hS (by omega) hL rfl e1 (lv_at hl 5 rfl) (lv_at hl 1 rfl) dL_law_1317 dL_law_1318 dL_law_1320 dL_law_1321 dL_law_1322 ?_
    refine m_callVI (As := [.int (nI k)]) (rest := []) (Wr := (lw cI cJ ad o (nI N) (nI (m_n g0 N)) (nI (m_tn g0 g1 g2 N)) pa pe f0 f1 f2 f3 f4 (vp_updL fo 0 (((rd f4 (nI k))).toInt64)))) (W2 := (lw cI cJ ad o (nI N) (nI (m_n g0 N)) (nI (m_tn g0 g1 g2 N)) pa pe f0 f1 f2 f3 f4 (vp_updL fo 0 (((rd f4 (nI k))).toInt64)) ++ mw cI cZ ad2 0 (nI N) pa pe g0 g1 g2)) ⟨hx, hb, hml, hown, hts⟩ (c_X1_threadOf_ok l D cI cZ ad2 th N pa pe g0 g1 g2 hN k hk hm) (cwV 1 hts gL_law_X1_threadOf rfl rfl rfl kv_X1_threadOf ⟨Nat.le_of_ble_eq_true rfl, Nat.le_of_ble_eq_true rfl⟩) (va_recv hK hP (ci := 1) (q0 := 7) rfl rfl) hP hD (hK.sub [0, 2] rfl) hA [7, 8, 9, 10] [0, 1, 2, 3, 4, 5, 6] [0, 1, 2, 3, 4, 5, 6, 7, 8, 9, 10] rfl rfl rfl rfl rfl (by decide) rfl rfl rfl hl.1 rfl (Nat.le_of_ble_eq_true rfl) dL_law_1323 (show cells ≤ 650192 by omega) (show slots ≤ 7145529 by omega) hS (fun H locs hP hS => ?_)
    have hD : va_D (lA s) (lw cI cJ ad o (nI N) (nI (m_n g0 N)) (nI (m_tn g0 g1 g2 N)) pa pe f0 f1 f2 f3 f4 (vp_updL fo 0 (((rd f4 (nI k))).toInt64)) ++ mw cI cZ ad2 0 (nI N) pa pe g0 g1 g2) := q_Dc (L := [ad 0, ad 1, ad 2, ad 3, ad 4, ad 5, o, ad2 0, ad2 1, ad2 2, ad2 3]) hD rfl rfl
    refine lv_istore (lv' := [(6, .int (nI (m_th g0 g1 g2 N k))), (5, .int 0), (4, .int (nI i)), (3, .ref o), (2, .ref (ad2 0)), (1, .ref (ad 0)), (0, .ref b)]) hx hb dL_law_1326 hl (by decide) rfl (fun ls hl => ?_)
    refine lv_aload_n hx hb dL_law_1328 rfl (lv_at hl 4 rfl) ?_
    refine q_callV (As := []) (rest := []) ⟨hx, hb, hml, hown, hts⟩ (c_X1_thrown l D cI cZ ad2 0 N pa pe g0 g1 g2 (by omega)) (cwV 0 hts gL_law_X1_thrown rfl rfl rfl kv_X1_thrown ⟨Nat.le_of_ble_eq_true rfl, Nat.le_of_ble_eq_true rfl⟩) (va_recv hK hP (ci := 1) (q0 := 7) rfl rfl) (hP.sub [7, 8, 9, 10] rfl) (hK.sub [0, 2] rfl) rfl hl.1 rfl (Nat.le_of_ble_eq_true rfl) dL_law_1329 (show cells ≤ 650192 by omega) (show slots ≤ 7145529 by omega) hS (fun H locs hsm hS => ?_)
    have hP := hsm.P hP
    refine lv_iload hx hb dL_law_1332 (lv_at hl 1 rfl) ?_
    refine lv_icmp_eq (tgt := 1339) hx hb dL_law_1334 (by decide) (fun _ => ?_) (fun h9 => absurd rfl h9)
    refine lv_iload hx hb dL_law_1339 (lv_at hl 1 rfl) ?_
    refine lv_if_ne (tgt := 1356) hx hb dL_law_1341 (by decide) (fun h9 => absurd (by decide) h9) (fun _ => ?_)
    refine lv_aload_n hx hb dL_law_1344 rfl (lv_at hl 3 rfl) ?_
    refine lv_iconst (v := 0) hx hb dL_law_1345 (by decide) ?_
    refine va_lald hx hb hK hP 6 1 rfl rfl (vp_in_nI (n := 0) (by decide) (by decide)) dL_law_1346 ?_
    rw [upd0]
    refine lv_iload hx hb dL_law_1347 (lv_at hl 0 rfl) ?_
    refine lv_i2l (v := ((nI (m_th g0 g1 g2 N k))).toInt64) hx hb dL_law_1349 rfl ?_
    refine l_lcmp0 hx hb (by rw [r.rdh hN hk]) dL_law_1350 ?_
    refine lv_if_eq (tgt := 1356) hx hb dL_law_1351 (by decide) (fun _ => ?_) (fun h9 => absurd rfl h9)
    refine lv_goto (tgt := 1808) hx hb dL_law_1356 (by decide) ?_
    refine W.widen (k := cells + 24) (n := slots + 125) (by omega) (by omega) ?_
    exact kk _ _ _ _ _ _ _ _ _ _ _ _ _ _ _ H locs ls (h) (r) hP hD hS (lv_sub hl [2, 3, 4, 5, 6] rfl)

set_option maxHeartbeats 4000000 in
set_option maxRecDepth 100000 in
theorem law_wordsOf {p : Program} {l : Launch} {e : Env} {s : State} {m : MethodId} {args : Array Value} {below : List Frame} {meth : Method} {c : Code} {b L : Nat} {xs : Nat → Int32} {D : va_G} {cI cJ cZ : ClassId} {sa ad ad2 : Nat → Nat} {o cells slots i : Nat} {Q : State → Prop}
    (C : law_C p l s m c args b L xs D cI cJ cZ sa) (kk : law_K p l e s m args below meth c b D cI cJ cZ ad ad2 o cells slots Q i) {N : Nat} {w t pa pe : Int32} {f0 f1 f2 f3 f4 : Nat → Int32} {fo : Nat → Int64} {th : Int32} {g0 g1 g2 : Nat → Int32} {H : Heap} {locs : List Loc} {ls : Array Slot}
    (h : Ra N f0 f1 f2 g0 g1 g2) (r : Rw N f3 f4 g0 g1 g2 w t) (hP : va_P D vwCl (lW cI cJ cZ ad ad2 o (nI N) w t pa pe f0 f1 f2 f3 f4 fo th g0 g1 g2) H) (hD : va_D (lA s) (lW cI cJ cZ ad ad2 o (nI N) w t pa pe f0 f1 f2 f3 f4 fo th g0 g1 g2)) (hS : va_S (lA s) s.heap H locs) (hl : lv_has ls 9 (law_L b ad ad2 o i))
    (hi : i + 2 < L) (hc : cells + 24 ≤ 650192) (hs : slots + 125 ≤ 7145529) : W p l e room_1 s m args below meth c H locs cells slots Q (F0 m 844 ls []) := by
  obtain ⟨hx, hb, hml, hown, hts, hX, hbl, hK, hZ, hN9, hst, hL⟩ := C
  have ew := r.ww
  have et := r.tt
  subst ew
  subst et
  have q := r.rp
  have hN := h.n
  have hn : m_n g0 N ≤ 24 := Nat.le_trans (m_n_le g0 N) hN
  have ht : m_tn g0 g1 g2 N ≤ 24 := by
    have h9 := m_ab_lt (g0 := g0) (g1 := g1) (g2 := g2) hN
    unfold m_tn
    split <;> omega
  have hA : ∀ q : Nat, s.heap.size ≤ q → lA s q := fun _ h => h
  obtain ⟨x1, e1⟩ : ∃ x1, xs (i + 1) = x1 := ⟨_, rfl⟩
  obtain ⟨x2, e2⟩ : ∃ x2, xs (i + 2) = x2 := ⟨_, rfl⟩
  have hl : lv_has ls 9 [(4, .int (nI i)), (3, .ref o), (2, .ref (ad2 0)), (1, .ref (ad 0)), (0, .ref b)] := hl
  cases hm : m_in x1 0 5 with
  | false =>
    refine lv_aload_n hx hb dL_law_844 rfl (lv_at hl 3 rfl) ?_
    refine l_arg (k := 1) hx hb hX hbl hS (by omega) hL rfl e1 (lv_at hl 4 rfl) (lv_at hl 0 rfl) dL_law_845 dL_law_846 dL_law_848 dL_law_849 dL_law_850 ?_
    refine lv_aload_n hx hb dL_law_851 rfl (lv_at hl 1 rfl) ?_
    refine l_callE (As := [.ref (ad 0), .int x1, .ref o]) (rest := []) ⟨hx, hb, hml, hown, hts⟩ (t_L_wordsOf_1 l D sa hst cI cJ ad o (nI N) (m_n g0 N) (nI (m_tn g0 g1 g2 N)) pa pe f0 f1 f2 f3 f4 x1 (in_sp0 hm) hn fo) (vx_cwSW 3 hts gL_law_L_wordsOf rfl rfl rfl kq_L_wordsOf ⟨Nat.le_of_ble_eq_true rfl, Nat.le_of_ble_eq_true rfl⟩) (hP.sub [0, 1, 2, 3, 4, 5, 6] rfl) (hK.sub [0, 1] rfl) (hZ.kept fun a ha => hS.2.1 a ha (Nat.not_le.mpr ha)) hN9 rfl hl.1 rfl (Nat.le_of_ble_eq_true rfl) dL_law_852 (show cells + 1 ≤ 650192 by omega) (show slots + 6 ≤ 7145529 by omega) hS (fun H locs hsm hS => ?_)
    have hP := hsm.P hP
    refine lv_istore (lv' := [(5, .int 1), (4, .int (nI i)), (3, .ref o), (2, .ref (ad2 0)), (1, .ref (ad 0)), (0, .ref b)]) hx hb dL_law_855 hl (by decide) rfl (fun ls hl => ?_)
    refine lv_aload_n hx hb dL_law_857 rfl (lv_at hl 3 rfl) ?_
    refine l_arg (k := 1) hx hb hX hbl hS (by omega) hL rfl e1 (lv_at hl 5 rfl) (lv_at hl 1 rfl) dL_law_858 dL_law_859 dL_law_861 dL_law_862 dL_law_863 ?_
    refine m_callVI (As := [.int x1]) (rest := []) (Wr := (lw cI cJ ad o (nI N) (nI (m_n g0 N)) (nI (m_tn g0 g1 g2 N)) pa pe f0 f1 f2 f3 f4 fo)) (W2 := (lw cI cJ ad o (nI N) (nI (m_n g0 N)) (nI (m_tn g0 g1 g2 N)) pa pe f0 f1 f2 f3 f4 fo ++ mw cI cZ ad2 1 (nI N) pa pe g0 g1 g2)) ⟨hx, hb, hml, hown, hts⟩ (c_X1_wordsOf_1 l D cI cZ ad2 th N pa pe g0 g1 g2 hN x1 hm) (cwV 1 hts gL_law_X1_wordsOf rfl rfl rfl kv_X1_wordsOf ⟨Nat.le_of_ble_eq_true rfl, Nat.le_of_ble_eq_true rfl⟩) (va_recv hK hP (ci := 1) (q0 := 7) rfl rfl) hP hD (hK.sub [0, 2] rfl) hA [7, 8, 9, 10] [0, 1, 2, 3, 4, 5, 6] [0, 1, 2, 3, 4, 5, 6, 7, 8, 9, 10] rfl rfl rfl rfl rfl (by decide) rfl rfl rfl hl.1 rfl (Nat.le_of_ble_eq_true rfl) dL_law_864 (show cells + 1 ≤ 650192 by omega) (show slots + 6 ≤ 7145529 by omega) hS (fun H locs hP hS => ?_)
    have hD : va_D (lA s) (lw cI cJ ad o (nI N) (nI (m_n g0 N)) (nI (m_tn g0 g1 g2 N)) pa pe f0 f1 f2 f3 f4 fo ++ mw cI cZ ad2 1 (nI N) pa pe g0 g1 g2) := q_Dc (L := [ad 0, ad 1, ad 2, ad 3, ad 4, ad 5, o, ad2 0, ad2 1, ad2 2, ad2 3]) hD rfl rfl
    refine lv_istore (lv' := [(6, .int 0), (5, .int 1), (4, .int (nI i)), (3, .ref o), (2, .ref (ad2 0)), (1, .ref (ad 0)), (0, .ref b)]) hx hb dL_law_867 hl (by decide) rfl (fun ls hl => ?_)
    refine lv_aload_n hx hb dL_law_869 rfl (lv_at hl 4 rfl) ?_
    refine q_callV (As := []) (rest := []) ⟨hx, hb, hml, hown, hts⟩ (c_X1_thrown l D cI cZ ad2 1 N pa pe g0 g1 g2 (by omega)) (cwV 0 hts gL_law_X1_thrown rfl rfl rfl kv_X1_thrown ⟨Nat.le_of_ble_eq_true rfl, Nat.le_of_ble_eq_true rfl⟩) (va_recv hK hP (ci := 1) (q0 := 7) rfl rfl) (hP.sub [7, 8, 9, 10] rfl) (hK.sub [0, 2] rfl) rfl hl.1 rfl (Nat.le_of_ble_eq_true rfl) dL_law_870 (show cells + 1 ≤ 650192 by omega) (show slots + 6 ≤ 7145529 by omega) hS (fun H locs hsm hS => ?_)
    have hP := hsm.P hP
    refine lv_iload hx hb dL_law_873 (lv_at hl 1 rfl) ?_
    refine lv_icmp_eq (tgt := 880) hx hb dL_law_875 (by decide) (fun _ => ?_) (fun h9 => absurd rfl h9)
    refine lv_iload hx hb dL_law_880 (lv_at hl 1 rfl) ?_
    refine lv_if_ne (tgt := 897) hx hb dL_law_882 (by decide) (fun _ => ?_) (fun h9 => absurd h9 (by decide))
    refine lv_goto (tgt := 1808) hx hb dL_law_897 (by decide) ?_
    refine W.widen (k := cells + 24) (n := slots + 125) (by omega) (by omega) ?_
    exact kk _ _ _ _ _ _ _ _ _ _ _ _ _ _ _ H locs ls (h) (r) hP hD hS (lv_sub hl [2, 3, 4, 5, 6] rfl)
  | true =>
    have hi9 := in_sp1 hm
    refine lv_aload_n hx hb dL_law_844 rfl (lv_at hl 3 rfl) ?_
    refine l_arg (k := 1) hx hb hX hbl hS (by omega) hL rfl e1 (lv_at hl 4 rfl) (lv_at hl 0 rfl) dL_law_845 dL_law_846 dL_law_848 dL_law_849 dL_law_850 ?_
    refine lv_aload_n hx hb dL_law_851 rfl (lv_at hl 1 rfl) ?_
    refine l_callI (As := [.ref (ad 0), .int x1, .ref o]) (rest := []) (Wr := [(ad2 0, .inr (1, [.int th, .int (nI N), .int pa, .int pe, .ref (ad2 1), .ref (ad2 2), .ref (ad2 3)])), (ad2 1, .inl (cI, 25, .inl g0)), (ad2 2, .inl (cI, 25, .inl g1)), (ad2 3, .inl (cZ, 25, .inl g2))]) (W2 := (lw cI cJ ad o (nI N) (nI (m_n g0 N)) (nI (m_tn g0 g1 g2 N)) pa pe f0 f1 f2 f3 f4 (vp_updL fo 0 (((nI (x_wo f0 f3 x1 (m_n g0 N)))).toInt64)) ++ [(ad2 0, .inr (1, [.int th, .int (nI N), .int pa, .int pe, .ref (ad2 1), .ref (ad2 2), .ref (ad2 3)])), (ad2 1, .inl (cI, 25, .inl g0)), (ad2 2, .inl (cI, 25, .inl g1)), (ad2 3, .inl (cZ, 25, .inl g2))])) ⟨hx, hb, hml, hown, hts⟩ (c_L_wordsOf l D cI cJ ad o (nI N) (m_n g0 N) (nI (m_tn g0 g1 g2 N)) pa pe f0 f1 f2 f3 f4 x1 hi9.1 hi9.2 hn fo) (vx_cwSW 3 hts gL_law_L_wordsOf rfl rfl rfl kq_L_wordsOf ⟨Nat.le_of_ble_eq_true rfl, Nat.le_of_ble_eq_true rfl⟩) hP hD (hK.sub [0, 1] rfl) hA [0, 1, 2, 3, 4, 5, 6] [7, 8, 9, 10] [4, 5, 6, 7, 8, 9, 10, 0, 1, 2, 3] rfl rfl rfl rfl rfl (by decide) rfl rfl rfl hl.1 rfl (Nat.le_of_ble_eq_true rfl) dL_law_852 (show cells ≤ 650192 by omega) (show slots ≤ 7145529 by omega) hS (fun H locs hP hS => ?_)
    have hD : va_D (lA s) (lw cI cJ ad o (nI N) (nI (m_n g0 N)) (nI (m_tn g0 g1 g2 N)) pa pe f0 f1 f2 f3 f4 (vp_updL fo 0 (((nI (x_wo f0 f3 x1 (m_n g0 N)))).toInt64)) ++ [(ad2 0, .inr (1, [.int th, .int (nI N), .int pa, .int pe, .ref (ad2 1), .ref (ad2 2), .ref (ad2 3)])), (ad2 1, .inl (cI, 25, .inl g0)), (ad2 2, .inl (cI, 25, .inl g1)), (ad2 3, .inl (cZ, 25, .inl g2))]) := q_Dc (L := [ad 0, ad 1, ad 2, ad 3, ad 4, ad 5, o, ad2 0, ad2 1, ad2 2, ad2 3]) hD rfl rfl
    refine lv_istore (lv' := [(5, .int 0), (4, .int (nI i)), (3, .ref o), (2, .ref (ad2 0)), (1, .ref (ad 0)), (0, .ref b)]) hx hb dL_law_855 hl (by decide) rfl (fun ls hl => ?_)
    refine lv_aload_n hx hb dL_law_857 rfl (lv_at hl 3 rfl) ?_
    refine l_arg (k := 1) hx hb hX hbl hS (by omega) hL rfl e1 (lv_at hl 5 rfl) (lv_at hl 1 rfl) dL_law_858 dL_law_859 dL_law_861 dL_law_862 dL_law_863 ?_
    refine m_callVI (As := [.int x1]) (rest := []) (Wr := (lw cI cJ ad o (nI N) (nI (m_n g0 N)) (nI (m_tn g0 g1 g2 N)) pa pe f0 f1 f2 f3 f4 (vp_updL fo 0 (((nI (x_wo f0 f3 x1 (m_n g0 N)))).toInt64)))) (W2 := (lw cI cJ ad o (nI N) (nI (m_n g0 N)) (nI (m_tn g0 g1 g2 N)) pa pe f0 f1 f2 f3 f4 (vp_updL fo 0 (((nI (x_wo f0 f3 x1 (m_n g0 N)))).toInt64)) ++ mw cI cZ ad2 0 (nI N) pa pe g0 g1 g2)) ⟨hx, hb, hml, hown, hts⟩ (c_X1_wordsOf_ok l D cI cZ ad2 th N pa pe g0 g1 g2 hN x1 hm) (cwV 1 hts gL_law_X1_wordsOf rfl rfl rfl kv_X1_wordsOf ⟨Nat.le_of_ble_eq_true rfl, Nat.le_of_ble_eq_true rfl⟩) (va_recv hK hP (ci := 1) (q0 := 7) rfl rfl) hP hD (hK.sub [0, 2] rfl) hA [7, 8, 9, 10] [0, 1, 2, 3, 4, 5, 6] [0, 1, 2, 3, 4, 5, 6, 7, 8, 9, 10] rfl rfl rfl rfl rfl (by decide) rfl rfl rfl hl.1 rfl (Nat.le_of_ble_eq_true rfl) dL_law_864 (show cells ≤ 650192 by omega) (show slots ≤ 7145529 by omega) hS (fun H locs hP hS => ?_)
    have hD : va_D (lA s) (lw cI cJ ad o (nI N) (nI (m_n g0 N)) (nI (m_tn g0 g1 g2 N)) pa pe f0 f1 f2 f3 f4 (vp_updL fo 0 (((nI (x_wo f0 f3 x1 (m_n g0 N)))).toInt64)) ++ mw cI cZ ad2 0 (nI N) pa pe g0 g1 g2) := q_Dc (L := [ad 0, ad 1, ad 2, ad 3, ad 4, ad 5, o, ad2 0, ad2 1, ad2 2, ad2 3]) hD rfl rfl
    refine lv_istore (lv' := [(6, .int (nI (m_wo g0 g1 N x1))), (5, .int 0), (4, .int (nI i)), (3, .ref o), (2, .ref (ad2 0)), (1, .ref (ad 0)), (0, .ref b)]) hx hb dL_law_867 hl (by decide) rfl (fun ls hl => ?_)
    refine lv_aload_n hx hb dL_law_869 rfl (lv_at hl 4 rfl) ?_
    refine q_callV (As := []) (rest := []) ⟨hx, hb, hml, hown, hts⟩ (c_X1_thrown l D cI cZ ad2 0 N pa pe g0 g1 g2 (by omega)) (cwV 0 hts gL_law_X1_thrown rfl rfl rfl kv_X1_thrown ⟨Nat.le_of_ble_eq_true rfl, Nat.le_of_ble_eq_true rfl⟩) (va_recv hK hP (ci := 1) (q0 := 7) rfl rfl) (hP.sub [7, 8, 9, 10] rfl) (hK.sub [0, 2] rfl) rfl hl.1 rfl (Nat.le_of_ble_eq_true rfl) dL_law_870 (show cells ≤ 650192 by omega) (show slots ≤ 7145529 by omega) hS (fun H locs hsm hS => ?_)
    have hP := hsm.P hP
    refine lv_iload hx hb dL_law_873 (lv_at hl 1 rfl) ?_
    refine lv_icmp_eq (tgt := 880) hx hb dL_law_875 (by decide) (fun _ => ?_) (fun h9 => absurd rfl h9)
    refine lv_iload hx hb dL_law_880 (lv_at hl 1 rfl) ?_
    refine lv_if_ne (tgt := 897) hx hb dL_law_882 (by decide) (fun h9 => absurd (by decide) h9) (fun _ => ?_)
    refine lv_aload_n hx hb dL_law_885 rfl (lv_at hl 3 rfl) ?_
    refine lv_iconst (v := 0) hx hb dL_law_886 (by decide) ?_
    refine va_lald hx hb hK hP 6 1 rfl rfl (vp_in_nI (n := 0) (by decide) (by decide)) dL_law_887 ?_
    rw [upd0]
    refine lv_iload hx hb dL_law_888 (lv_at hl 0 rfl) ?_
    refine lv_i2l (v := ((nI (m_wo g0 g1 N x1))).toInt64) hx hb dL_law_890 rfl ?_
    refine l_lcmp0 hx hb (by rw [h.wo q]) dL_law_891 ?_
    refine lv_if_eq (tgt := 897) hx hb dL_law_892 (by decide) (fun _ => ?_) (fun h9 => absurd rfl h9)
    refine lv_goto (tgt := 1808) hx hb dL_law_897 (by decide) ?_
    refine W.widen (k := cells + 24) (n := slots + 125) (by omega) (by omega) ?_
    exact kk _ _ _ _ _ _ _ _ _ _ _ _ _ _ _ H locs ls (h) (r) hP hD hS (lv_sub hl [2, 3, 4, 5, 6] rfl)

set_option maxHeartbeats 4000000 in
set_option maxRecDepth 100000 in
theorem law_threadsOf {p : Program} {l : Launch} {e : Env} {s : State} {m : MethodId} {args : Array Value} {below : List Frame} {meth : Method} {c : Code} {b L : Nat} {xs : Nat → Int32} {D : va_G} {cI cJ cZ : ClassId} {sa ad ad2 : Nat → Nat} {o cells slots i : Nat} {Q : State → Prop}
    (C : law_C p l s m c args b L xs D cI cJ cZ sa) (kk : law_K p l e s m args below meth c b D cI cJ cZ ad ad2 o cells slots Q i) {N : Nat} {w t pa pe : Int32} {f0 f1 f2 f3 f4 : Nat → Int32} {fo : Nat → Int64} {th : Int32} {g0 g1 g2 : Nat → Int32} {H : Heap} {locs : List Loc} {ls : Array Slot}
    (h : Ra N f0 f1 f2 g0 g1 g2) (r : Rw N f3 f4 g0 g1 g2 w t) (hP : va_P D vwCl (lW cI cJ cZ ad ad2 o (nI N) w t pa pe f0 f1 f2 f3 f4 fo th g0 g1 g2) H) (hD : va_D (lA s) (lW cI cJ cZ ad ad2 o (nI N) w t pa pe f0 f1 f2 f3 f4 fo th g0 g1 g2)) (hS : va_S (lA s) s.heap H locs) (hl : lv_has ls 9 (law_L b ad ad2 o i))
    (hi : i + 2 < L) (hc : cells + 24 ≤ 650192) (hs : slots + 125 ≤ 7145529) : W p l e room_1 s m args below meth c H locs cells slots Q (F0 m 1428 ls []) := by
  obtain ⟨hx, hb, hml, hown, hts, hX, hbl, hK, hZ, hN9, hst, hL⟩ := C
  have ew := r.ww
  have et := r.tt
  subst ew
  subst et
  have q := r.rp
  have hN := h.n
  have hn : m_n g0 N ≤ 24 := Nat.le_trans (m_n_le g0 N) hN
  have ht : m_tn g0 g1 g2 N ≤ 24 := by
    have h9 := m_ab_lt (g0 := g0) (g1 := g1) (g2 := g2) hN
    unfold m_tn
    split <;> omega
  have hA : ∀ q : Nat, s.heap.size ≤ q → lA s q := fun _ h => h
  obtain ⟨x1, e1⟩ : ∃ x1, xs (i + 1) = x1 := ⟨_, rfl⟩
  obtain ⟨x2, e2⟩ : ∃ x2, xs (i + 2) = x2 := ⟨_, rfl⟩
  have hl : lv_has ls 9 [(4, .int (nI i)), (3, .ref o), (2, .ref (ad2 0)), (1, .ref (ad 0)), (0, .ref b)] := hl
  cases hm : m_in x1 0 5 with
  | false =>
    refine lv_aload_n hx hb dL_law_1428 rfl (lv_at hl 3 rfl) ?_
    refine l_arg (k := 1) hx hb hX hbl hS (by omega) hL rfl e1 (lv_at hl 4 rfl) (lv_at hl 0 rfl) dL_law_1429 dL_law_1430 dL_law_1432 dL_law_1433 dL_law_1434 ?_
    refine lv_aload_n hx hb dL_law_1435 rfl (lv_at hl 1 rfl) ?_
    refine l_callE (As := [.ref (ad 0), .int x1, .ref o]) (rest := []) ⟨hx, hb, hml, hown, hts⟩ (t_L_threadsOf_1 l D sa hst cI cJ ad o (nI N) (m_n g0 N) (nI (m_tn g0 g1 g2 N)) pa pe f0 f1 f2 f3 f4 x1 (in_sp0 hm) hn fo) (vx_cwSW 3 hts gL_law_L_threadsOf rfl rfl rfl kq_L_threadsOf ⟨Nat.le_of_ble_eq_true rfl, Nat.le_of_ble_eq_true rfl⟩) (hP.sub [0, 1, 2, 3, 4, 5, 6] rfl) (hK.sub [0, 1] rfl) (hZ.kept fun a ha => hS.2.1 a ha (Nat.not_le.mpr ha)) hN9 rfl hl.1 rfl (Nat.le_of_ble_eq_true rfl) dL_law_1436 (show cells + 1 ≤ 650192 by omega) (show slots + 6 ≤ 7145529 by omega) hS (fun H locs hsm hS => ?_)
    have hP := hsm.P hP
    refine lv_istore (lv' := [(5, .int 1), (4, .int (nI i)), (3, .ref o), (2, .ref (ad2 0)), (1, .ref (ad 0)), (0, .ref b)]) hx hb dL_law_1439 hl (by decide) rfl (fun ls hl => ?_)
    refine lv_aload_n hx hb dL_law_1441 rfl (lv_at hl 3 rfl) ?_
    refine l_arg (k := 1) hx hb hX hbl hS (by omega) hL rfl e1 (lv_at hl 5 rfl) (lv_at hl 1 rfl) dL_law_1442 dL_law_1443 dL_law_1445 dL_law_1446 dL_law_1447 ?_
    refine m_callVI (As := [.int x1]) (rest := []) (Wr := (lw cI cJ ad o (nI N) (nI (m_n g0 N)) (nI (m_tn g0 g1 g2 N)) pa pe f0 f1 f2 f3 f4 fo)) (W2 := (lw cI cJ ad o (nI N) (nI (m_n g0 N)) (nI (m_tn g0 g1 g2 N)) pa pe f0 f1 f2 f3 f4 fo ++ mw cI cZ ad2 1 (nI N) pa pe g0 g1 g2)) ⟨hx, hb, hml, hown, hts⟩ (c_X1_threadsOf_1 l D cI cZ ad2 th N pa pe g0 g1 g2 hN x1 hm) (cwV 1 hts gL_law_X1_threadsOf rfl rfl rfl kv_X1_threadsOf ⟨Nat.le_of_ble_eq_true rfl, Nat.le_of_ble_eq_true rfl⟩) (va_recv hK hP (ci := 1) (q0 := 7) rfl rfl) hP hD (hK.sub [0, 2] rfl) hA [7, 8, 9, 10] [0, 1, 2, 3, 4, 5, 6] [0, 1, 2, 3, 4, 5, 6, 7, 8, 9, 10] rfl rfl rfl rfl rfl (by decide) rfl rfl rfl hl.1 rfl (Nat.le_of_ble_eq_true rfl) dL_law_1448 (show cells + 1 ≤ 650192 by omega) (show slots + 6 ≤ 7145529 by omega) hS (fun H locs hP hS => ?_)
    have hD : va_D (lA s) (lw cI cJ ad o (nI N) (nI (m_n g0 N)) (nI (m_tn g0 g1 g2 N)) pa pe f0 f1 f2 f3 f4 fo ++ mw cI cZ ad2 1 (nI N) pa pe g0 g1 g2) := q_Dc (L := [ad 0, ad 1, ad 2, ad 3, ad 4, ad 5, o, ad2 0, ad2 1, ad2 2, ad2 3]) hD rfl rfl
    refine lv_istore (lv' := [(6, .int 0), (5, .int 1), (4, .int (nI i)), (3, .ref o), (2, .ref (ad2 0)), (1, .ref (ad 0)), (0, .ref b)]) hx hb dL_law_1451 hl (by decide) rfl (fun ls hl => ?_)
    refine lv_aload_n hx hb dL_law_1453 rfl (lv_at hl 4 rfl) ?_
    refine q_callV (As := []) (rest := []) ⟨hx, hb, hml, hown, hts⟩ (c_X1_thrown l D cI cZ ad2 1 N pa pe g0 g1 g2 (by omega)) (cwV 0 hts gL_law_X1_thrown rfl rfl rfl kv_X1_thrown ⟨Nat.le_of_ble_eq_true rfl, Nat.le_of_ble_eq_true rfl⟩) (va_recv hK hP (ci := 1) (q0 := 7) rfl rfl) (hP.sub [7, 8, 9, 10] rfl) (hK.sub [0, 2] rfl) rfl hl.1 rfl (Nat.le_of_ble_eq_true rfl) dL_law_1454 (show cells + 1 ≤ 650192 by omega) (show slots + 6 ≤ 7145529 by omega) hS (fun H locs hsm hS => ?_)
    have hP := hsm.P hP
    refine lv_iload hx hb dL_law_1457 (lv_at hl 1 rfl) ?_
    refine lv_icmp_eq (tgt := 1464) hx hb dL_law_1459 (by decide) (fun _ => ?_) (fun h9 => absurd rfl h9)
    refine lv_iload hx hb dL_law_1464 (lv_at hl 1 rfl) ?_
    refine lv_if_ne (tgt := 1481) hx hb dL_law_1466 (by decide) (fun _ => ?_) (fun h9 => absurd h9 (by decide))
    refine lv_goto (tgt := 1808) hx hb dL_law_1481 (by decide) ?_
    refine W.widen (k := cells + 24) (n := slots + 125) (by omega) (by omega) ?_
    exact kk _ _ _ _ _ _ _ _ _ _ _ _ _ _ _ H locs ls (h) (r) hP hD hS (lv_sub hl [2, 3, 4, 5, 6] rfl)
  | true =>
    have hi9 := in_sp1 hm
    refine lv_aload_n hx hb dL_law_1428 rfl (lv_at hl 3 rfl) ?_
    refine l_arg (k := 1) hx hb hX hbl hS (by omega) hL rfl e1 (lv_at hl 4 rfl) (lv_at hl 0 rfl) dL_law_1429 dL_law_1430 dL_law_1432 dL_law_1433 dL_law_1434 ?_
    refine lv_aload_n hx hb dL_law_1435 rfl (lv_at hl 1 rfl) ?_
    refine l_callI (As := [.ref (ad 0), .int x1, .ref o]) (rest := []) (Wr := [(ad2 0, .inr (1, [.int th, .int (nI N), .int pa, .int pe, .ref (ad2 1), .ref (ad2 2), .ref (ad2 3)])), (ad2 1, .inl (cI, 25, .inl g0)), (ad2 2, .inl (cI, 25, .inl g1)), (ad2 3, .inl (cZ, 25, .inl g2))]) (W2 := (lw cI cJ ad o (nI N) (nI (m_n g0 N)) (nI (m_tn g0 g1 g2 N)) pa pe f0 f1 f2 f3 f4 (vp_updL fo 0 ((((x_to f0 f3 f4 x1 (m_n g0 N)).1)).toInt64)) ++ [(ad2 0, .inr (1, [.int th, .int (nI N), .int pa, .int pe, .ref (ad2 1), .ref (ad2 2), .ref (ad2 3)])), (ad2 1, .inl (cI, 25, .inl g0)), (ad2 2, .inl (cI, 25, .inl g1)), (ad2 3, .inl (cZ, 25, .inl g2))])) ⟨hx, hb, hml, hown, hts⟩ (c_L_threadsOf l D cI cJ ad o (nI N) (m_n g0 N) (nI (m_tn g0 g1 g2 N)) pa pe f0 f1 f2 f3 f4 x1 hi9.1 hi9.2 hn fo) (vx_cwSW 3 hts gL_law_L_threadsOf rfl rfl rfl kq_L_threadsOf ⟨Nat.le_of_ble_eq_true rfl, Nat.le_of_ble_eq_true rfl⟩) hP hD (hK.sub [0, 1] rfl) hA [0, 1, 2, 3, 4, 5, 6] [7, 8, 9, 10] [4, 5, 6, 7, 8, 9, 10, 0, 1, 2, 3] rfl rfl rfl rfl rfl (by decide) rfl rfl rfl hl.1 rfl (Nat.le_of_ble_eq_true rfl) dL_law_1436 (show cells ≤ 650192 by omega) (show slots ≤ 7145529 by omega) hS (fun H locs hP hS => ?_)
    have hD : va_D (lA s) (lw cI cJ ad o (nI N) (nI (m_n g0 N)) (nI (m_tn g0 g1 g2 N)) pa pe f0 f1 f2 f3 f4 (vp_updL fo 0 ((((x_to f0 f3 f4 x1 (m_n g0 N)).1)).toInt64)) ++ [(ad2 0, .inr (1, [.int th, .int (nI N), .int pa, .int pe, .ref (ad2 1), .ref (ad2 2), .ref (ad2 3)])), (ad2 1, .inl (cI, 25, .inl g0)), (ad2 2, .inl (cI, 25, .inl g1)), (ad2 3, .inl (cZ, 25, .inl g2))]) := q_Dc (L := [ad 0, ad 1, ad 2, ad 3, ad 4, ad 5, o, ad2 0, ad2 1, ad2 2, ad2 3]) hD rfl rfl
    refine lv_istore (lv' := [(5, .int 0), (4, .int (nI i)), (3, .ref o), (2, .ref (ad2 0)), (1, .ref (ad 0)), (0, .ref b)]) hx hb dL_law_1439 hl (by decide) rfl (fun ls hl => ?_)
    refine lv_aload_n hx hb dL_law_1441 rfl (lv_at hl 3 rfl) ?_
    refine l_arg (k := 1) hx hb hX hbl hS (by omega) hL rfl e1 (lv_at hl 5 rfl) (lv_at hl 1 rfl) dL_law_1442 dL_law_1443 dL_law_1445 dL_law_1446 dL_law_1447 ?_
    refine m_callVI (As := [.int x1]) (rest := []) (Wr := (lw cI cJ ad o (nI N) (nI (m_n g0 N)) (nI (m_tn g0 g1 g2 N)) pa pe f0 f1 f2 f3 f4 (vp_updL fo 0 ((((x_to f0 f3 f4 x1 (m_n g0 N)).1)).toInt64)))) (W2 := (lw cI cJ ad o (nI N) (nI (m_n g0 N)) (nI (m_tn g0 g1 g2 N)) pa pe f0 f1 f2 f3 f4 (vp_updL fo 0 ((((x_to f0 f3 f4 x1 (m_n g0 N)).1)).toInt64)) ++ mw cI cZ ad2 0 (nI N) pa pe g0 g1 g2)) ⟨hx, hb, hml, hown, hts⟩ (c_X1_threadsOf_ok l D cI cZ ad2 th N pa pe g0 g1 g2 hN x1 hm) (cwV 1 hts gL_law_X1_threadsOf rfl rfl rfl kv_X1_threadsOf ⟨Nat.le_of_ble_eq_true rfl, Nat.le_of_ble_eq_true rfl⟩) (va_recv hK hP (ci := 1) (q0 := 7) rfl rfl) hP hD (hK.sub [0, 2] rfl) hA [7, 8, 9, 10] [0, 1, 2, 3, 4, 5, 6] [0, 1, 2, 3, 4, 5, 6, 7, 8, 9, 10] rfl rfl rfl rfl rfl (by decide) rfl rfl rfl hl.1 rfl (Nat.le_of_ble_eq_true rfl) dL_law_1448 (show cells ≤ 650192 by omega) (show slots ≤ 7145529 by omega) hS (fun H locs hP hS => ?_)
    have hD : va_D (lA s) (lw cI cJ ad o (nI N) (nI (m_n g0 N)) (nI (m_tn g0 g1 g2 N)) pa pe f0 f1 f2 f3 f4 (vp_updL fo 0 ((((x_to f0 f3 f4 x1 (m_n g0 N)).1)).toInt64)) ++ mw cI cZ ad2 0 (nI N) pa pe g0 g1 g2) := q_Dc (L := [ad 0, ad 1, ad 2, ad 3, ad 4, ad 5, o, ad2 0, ad2 1, ad2 2, ad2 3]) hD rfl rfl
    refine lv_istore (lv' := [(6, .int (nI (pcn (m_ts g0 g1 g2 N x1 (m_n g0 N))))), (5, .int 0), (4, .int (nI i)), (3, .ref o), (2, .ref (ad2 0)), (1, .ref (ad 0)), (0, .ref b)]) hx hb dL_law_1451 hl (by decide) rfl (fun ls hl => ?_)
    refine lv_aload_n hx hb dL_law_1453 rfl (lv_at hl 4 rfl) ?_
    refine q_callV (As := []) (rest := []) ⟨hx, hb, hml, hown, hts⟩ (c_X1_thrown l D cI cZ ad2 0 N pa pe g0 g1 g2 (by omega)) (cwV 0 hts gL_law_X1_thrown rfl rfl rfl kv_X1_thrown ⟨Nat.le_of_ble_eq_true rfl, Nat.le_of_ble_eq_true rfl⟩) (va_recv hK hP (ci := 1) (q0 := 7) rfl rfl) (hP.sub [7, 8, 9, 10] rfl) (hK.sub [0, 2] rfl) rfl hl.1 rfl (Nat.le_of_ble_eq_true rfl) dL_law_1454 (show cells ≤ 650192 by omega) (show slots ≤ 7145529 by omega) hS (fun H locs hsm hS => ?_)
    have hP := hsm.P hP
    refine lv_iload hx hb dL_law_1457 (lv_at hl 1 rfl) ?_
    refine lv_icmp_eq (tgt := 1464) hx hb dL_law_1459 (by decide) (fun _ => ?_) (fun h9 => absurd rfl h9)
    refine lv_iload hx hb dL_law_1464 (lv_at hl 1 rfl) ?_
    refine lv_if_ne (tgt := 1481) hx hb dL_law_1466 (by decide) (fun h9 => absurd (by decide) h9) (fun _ => ?_)
    refine lv_aload_n hx hb dL_law_1469 rfl (lv_at hl 3 rfl) ?_
    refine lv_iconst (v := 0) hx hb dL_law_1470 (by decide) ?_
    refine va_lald hx hb hK hP 6 1 rfl rfl (vp_in_nI (n := 0) (by decide) (by decide)) dL_law_1471 ?_
    rw [upd0]
    refine lv_iload hx hb dL_law_1472 (lv_at hl 0 rfl) ?_
    refine lv_i2l (v := ((nI (pcn (m_ts g0 g1 g2 N x1 (m_n g0 N))))).toInt64) hx hb dL_law_1474 rfl ?_
    refine l_lcmp0 hx hb (by rw [(h.to r x1 _ (Nat.le_refl _)).1]) dL_law_1475 ?_
    refine lv_if_eq (tgt := 1481) hx hb dL_law_1476 (by decide) (fun _ => ?_) (fun h9 => absurd rfl h9)
    refine lv_goto (tgt := 1808) hx hb dL_law_1481 (by decide) ?_
    refine W.widen (k := cells + 24) (n := slots + 125) (by omega) (by omega) ?_
    exact kk _ _ _ _ _ _ _ _ _ _ _ _ _ _ _ H locs ls (h) (r) hP hD hS (lv_sub hl [2, 3, 4, 5, 6] rfl)

set_option maxHeartbeats 4000000 in
set_option maxRecDepth 100000 in
theorem law_coughsIn {p : Program} {l : Launch} {e : Env} {s : State} {m : MethodId} {args : Array Value} {below : List Frame} {meth : Method} {c : Code} {b L : Nat} {xs : Nat → Int32} {D : va_G} {cI cJ cZ : ClassId} {sa ad ad2 : Nat → Nat} {o cells slots i : Nat} {Q : State → Prop}
    (C : law_C p l s m c args b L xs D cI cJ cZ sa) (kk : law_K p l e s m args below meth c b D cI cJ cZ ad ad2 o cells slots Q i) {N : Nat} {w t pa pe : Int32} {f0 f1 f2 f3 f4 : Nat → Int32} {fo : Nat → Int64} {th : Int32} {g0 g1 g2 : Nat → Int32} {H : Heap} {locs : List Loc} {ls : Array Slot}
    (h : Ra N f0 f1 f2 g0 g1 g2) (r : Rw N f3 f4 g0 g1 g2 w t) (hP : va_P D vwCl (lW cI cJ cZ ad ad2 o (nI N) w t pa pe f0 f1 f2 f3 f4 fo th g0 g1 g2) H) (hD : va_D (lA s) (lW cI cJ cZ ad ad2 o (nI N) w t pa pe f0 f1 f2 f3 f4 fo th g0 g1 g2)) (hS : va_S (lA s) s.heap H locs) (hl : lv_has ls 9 (law_L b ad ad2 o i))
    (hi : i + 2 < L) (hc : cells + 24 ≤ 650192) (hs : slots + 125 ≤ 7145529) : W p l e room_1 s m args below meth c H locs cells slots Q (F0 m 900 ls []) := by
  obtain ⟨hx, hb, hml, hown, hts, hX, hbl, hK, hZ, hN9, hst, hL⟩ := C
  have ew := r.ww
  have et := r.tt
  subst ew
  subst et
  have q := r.rp
  have hN := h.n
  have hn : m_n g0 N ≤ 24 := Nat.le_trans (m_n_le g0 N) hN
  have ht : m_tn g0 g1 g2 N ≤ 24 := by
    have h9 := m_ab_lt (g0 := g0) (g1 := g1) (g2 := g2) hN
    unfold m_tn
    split <;> omega
  have hA : ∀ q : Nat, s.heap.size ≤ q → lA s q := fun _ h => h
  obtain ⟨x1, e1⟩ : ∃ x1, xs (i + 1) = x1 := ⟨_, rfl⟩
  obtain ⟨x2, e2⟩ : ∃ x2, xs (i + 2) = x2 := ⟨_, rfl⟩
  have hl : lv_has ls 9 [(4, .int (nI i)), (3, .ref o), (2, .ref (ad2 0)), (1, .ref (ad 0)), (0, .ref b)] := hl
  cases hm : m_in x1 0 (nI (m_n g0 N) - 2) with
  | false =>
    refine lv_aload_n hx hb dL_law_900 rfl (lv_at hl 3 rfl) ?_
    refine l_arg (k := 1) hx hb hX hbl hS (by omega) hL rfl e1 (lv_at hl 4 rfl) (lv_at hl 0 rfl) dL_law_901 dL_law_902 dL_law_904 dL_law_905 dL_law_906 ?_
    refine lv_aload_n hx hb dL_law_907 rfl (lv_at hl 1 rfl) ?_
    refine l_callE (As := [.ref (ad 0), .int x1, .ref o]) (rest := []) ⟨hx, hb, hml, hown, hts⟩ (t_L_coughsIn_1 l D sa hst cI cJ ad o (nI N) (nI (m_n g0 N)) (nI (m_tn g0 g1 g2 N)) pa pe f0 f1 f2 f3 f4 x1 (in_gap0 hn hm) fo) (vx_cwSW 3 hts gL_law_L_coughsIn rfl rfl rfl kq_L_coughsIn ⟨Nat.le_of_ble_eq_true rfl, Nat.le_of_ble_eq_true rfl⟩) (hP.sub [0, 1, 2, 3, 4, 5, 6] rfl) (hK.sub [0, 1] rfl) (hZ.kept fun a ha => hS.2.1 a ha (Nat.not_le.mpr ha)) hN9 rfl hl.1 rfl (Nat.le_of_ble_eq_true rfl) dL_law_908 (show cells + 1 ≤ 650192 by omega) (show slots + 6 ≤ 7145529 by omega) hS (fun H locs hsm hS => ?_)
    have hP := hsm.P hP
    refine lv_istore (lv' := [(5, .int 1), (4, .int (nI i)), (3, .ref o), (2, .ref (ad2 0)), (1, .ref (ad 0)), (0, .ref b)]) hx hb dL_law_911 hl (by decide) rfl (fun ls hl => ?_)
    refine lv_aload_n hx hb dL_law_913 rfl (lv_at hl 3 rfl) ?_
    refine l_arg (k := 1) hx hb hX hbl hS (by omega) hL rfl e1 (lv_at hl 5 rfl) (lv_at hl 1 rfl) dL_law_914 dL_law_915 dL_law_917 dL_law_918 dL_law_919 ?_
    refine m_callVI (As := [.int x1]) (rest := []) (Wr := (lw cI cJ ad o (nI N) (nI (m_n g0 N)) (nI (m_tn g0 g1 g2 N)) pa pe f0 f1 f2 f3 f4 fo)) (W2 := (lw cI cJ ad o (nI N) (nI (m_n g0 N)) (nI (m_tn g0 g1 g2 N)) pa pe f0 f1 f2 f3 f4 fo ++ mw cI cZ ad2 1 (nI N) pa pe g0 g1 g2)) ⟨hx, hb, hml, hown, hts⟩ (c_X1_coughsIn_1 l D cI cZ ad2 th N pa pe g0 g1 g2 hN x1 hm) (cwV 1 hts gL_law_X1_coughsIn rfl rfl rfl kv_X1_coughsIn ⟨Nat.le_of_ble_eq_true rfl, Nat.le_of_ble_eq_true rfl⟩) (va_recv hK hP (ci := 1) (q0 := 7) rfl rfl) hP hD (hK.sub [0, 2] rfl) hA [7, 8, 9, 10] [0, 1, 2, 3, 4, 5, 6] [0, 1, 2, 3, 4, 5, 6, 7, 8, 9, 10] rfl rfl rfl rfl rfl (by decide) rfl rfl rfl hl.1 rfl (Nat.le_of_ble_eq_true rfl) dL_law_920 (show cells + 1 ≤ 650192 by omega) (show slots + 6 ≤ 7145529 by omega) hS (fun H locs hP hS => ?_)
    have hD : va_D (lA s) (lw cI cJ ad o (nI N) (nI (m_n g0 N)) (nI (m_tn g0 g1 g2 N)) pa pe f0 f1 f2 f3 f4 fo ++ mw cI cZ ad2 1 (nI N) pa pe g0 g1 g2) := q_Dc (L := [ad 0, ad 1, ad 2, ad 3, ad 4, ad 5, o, ad2 0, ad2 1, ad2 2, ad2 3]) hD rfl rfl
    refine lv_istore (lv' := [(6, .int 0), (5, .int 1), (4, .int (nI i)), (3, .ref o), (2, .ref (ad2 0)), (1, .ref (ad 0)), (0, .ref b)]) hx hb dL_law_923 hl (by decide) rfl (fun ls hl => ?_)
    refine lv_aload_n hx hb dL_law_925 rfl (lv_at hl 4 rfl) ?_
    refine q_callV (As := []) (rest := []) ⟨hx, hb, hml, hown, hts⟩ (c_X1_thrown l D cI cZ ad2 1 N pa pe g0 g1 g2 (by omega)) (cwV 0 hts gL_law_X1_thrown rfl rfl rfl kv_X1_thrown ⟨Nat.le_of_ble_eq_true rfl, Nat.le_of_ble_eq_true rfl⟩) (va_recv hK hP (ci := 1) (q0 := 7) rfl rfl) (hP.sub [7, 8, 9, 10] rfl) (hK.sub [0, 2] rfl) rfl hl.1 rfl (Nat.le_of_ble_eq_true rfl) dL_law_926 (show cells + 1 ≤ 650192 by omega) (show slots + 6 ≤ 7145529 by omega) hS (fun H locs hsm hS => ?_)
    have hP := hsm.P hP
    refine lv_iload hx hb dL_law_929 (lv_at hl 1 rfl) ?_
    refine lv_icmp_eq (tgt := 936) hx hb dL_law_931 (by decide) (fun _ => ?_) (fun h9 => absurd rfl h9)
    refine lv_iload hx hb dL_law_936 (lv_at hl 1 rfl) ?_
    refine lv_if_ne (tgt := 953) hx hb dL_law_938 (by decide) (fun _ => ?_) (fun h9 => absurd h9 (by decide))
    refine lv_goto (tgt := 1808) hx hb dL_law_953 (by decide) ?_
    refine W.widen (k := cells + 24) (n := slots + 125) (by omega) (by omega) ?_
    exact kk _ _ _ _ _ _ _ _ _ _ _ _ _ _ _ H locs ls (h) (r) hP hD hS (lv_sub hl [2, 3, 4, 5, 6] rfl)
  | true =>
    obtain ⟨g, hg, rfl⟩ := in_gap1 hn hm
    have hi9 := gap_in hn hg
    refine lv_aload_n hx hb dL_law_900 rfl (lv_at hl 3 rfl) ?_
    refine l_arg (k := 1) hx hb hX hbl hS (by omega) hL rfl e1 (lv_at hl 4 rfl) (lv_at hl 0 rfl) dL_law_901 dL_law_902 dL_law_904 dL_law_905 dL_law_906 ?_
    refine lv_aload_n hx hb dL_law_907 rfl (lv_at hl 1 rfl) ?_
    refine l_callI (As := [.ref (ad 0), .int (nI g), .ref o]) (rest := []) (Wr := [(ad2 0, .inr (1, [.int th, .int (nI N), .int pa, .int pe, .ref (ad2 1), .ref (ad2 2), .ref (ad2 3)])), (ad2 1, .inl (cI, 25, .inl g0)), (ad2 2, .inl (cI, 25, .inl g1)), (ad2 3, .inl (cZ, 25, .inl g2))]) (W2 := (lw cI cJ ad o (nI N) (nI (m_n g0 N)) (nI (m_tn g0 g1 g2 N)) pa pe f0 f1 f2 f3 f4 (vp_updL fo 0 (((x_cg f3 (nI g))).toInt64)) ++ [(ad2 0, .inr (1, [.int th, .int (nI N), .int pa, .int pe, .ref (ad2 1), .ref (ad2 2), .ref (ad2 3)])), (ad2 1, .inl (cI, 25, .inl g0)), (ad2 2, .inl (cI, 25, .inl g1)), (ad2 3, .inl (cZ, 25, .inl g2))])) ⟨hx, hb, hml, hown, hts⟩ (c_L_coughsIn l D cI cJ ad o (nI N) (nI (m_n g0 N)) (nI (m_tn g0 g1 g2 N)) pa pe f0 f1 f2 f3 f4 (nI g) hi9.1 hi9.2 fo) (vx_cwSW 3 hts gL_law_L_coughsIn rfl rfl rfl kq_L_coughsIn ⟨Nat.le_of_ble_eq_true rfl, Nat.le_of_ble_eq_true rfl⟩) hP hD (hK.sub [0, 1] rfl) hA [0, 1, 2, 3, 4, 5, 6] [7, 8, 9, 10] [4, 5, 6, 7, 8, 9, 10, 0, 1, 2, 3] rfl rfl rfl rfl rfl (by decide) rfl rfl rfl hl.1 rfl (Nat.le_of_ble_eq_true rfl) dL_law_908 (show cells ≤ 650192 by omega) (show slots ≤ 7145529 by omega) hS (fun H locs hP hS => ?_)
    have hD : va_D (lA s) (lw cI cJ ad o (nI N) (nI (m_n g0 N)) (nI (m_tn g0 g1 g2 N)) pa pe f0 f1 f2 f3 f4 (vp_updL fo 0 (((x_cg f3 (nI g))).toInt64)) ++ [(ad2 0, .inr (1, [.int th, .int (nI N), .int pa, .int pe, .ref (ad2 1), .ref (ad2 2), .ref (ad2 3)])), (ad2 1, .inl (cI, 25, .inl g0)), (ad2 2, .inl (cI, 25, .inl g1)), (ad2 3, .inl (cZ, 25, .inl g2))]) := q_Dc (L := [ad 0, ad 1, ad 2, ad 3, ad 4, ad 5, o, ad2 0, ad2 1, ad2 2, ad2 3]) hD rfl rfl
    refine lv_istore (lv' := [(5, .int 0), (4, .int (nI i)), (3, .ref o), (2, .ref (ad2 0)), (1, .ref (ad 0)), (0, .ref b)]) hx hb dL_law_911 hl (by decide) rfl (fun ls hl => ?_)
    refine lv_aload_n hx hb dL_law_913 rfl (lv_at hl 3 rfl) ?_
    refine l_arg (k := 1) hx hb hX hbl hS (by omega) hL rfl e1 (lv_at hl 5 rfl) (lv_at hl 1 rfl) dL_law_914 dL_law_915 dL_law_917 dL_law_918 dL_law_919 ?_
    refine m_callVI (As := [.int (nI g)]) (rest := []) (Wr := (lw cI cJ ad o (nI N) (nI (m_n g0 N)) (nI (m_tn g0 g1 g2 N)) pa pe f0 f1 f2 f3 f4 (vp_updL fo 0 (((x_cg f3 (nI g))).toInt64)))) (W2 := (lw cI cJ ad o (nI N) (nI (m_n g0 N)) (nI (m_tn g0 g1 g2 N)) pa pe f0 f1 f2 f3 f4 (vp_updL fo 0 (((x_cg f3 (nI g))).toInt64)) ++ mw cI cZ ad2 0 (nI N) pa pe g0 g1 g2)) ⟨hx, hb, hml, hown, hts⟩ (c_X1_coughsIn_ok l D cI cZ ad2 th N pa pe g0 g1 g2 hN g hg hm) (cwV 1 hts gL_law_X1_coughsIn rfl rfl rfl kv_X1_coughsIn ⟨Nat.le_of_ble_eq_true rfl, Nat.le_of_ble_eq_true rfl⟩) (va_recv hK hP (ci := 1) (q0 := 7) rfl rfl) hP hD (hK.sub [0, 2] rfl) hA [7, 8, 9, 10] [0, 1, 2, 3, 4, 5, 6] [0, 1, 2, 3, 4, 5, 6, 7, 8, 9, 10] rfl rfl rfl rfl rfl (by decide) rfl rfl rfl hl.1 rfl (Nat.le_of_ble_eq_true rfl) dL_law_920 (show cells ≤ 650192 by omega) (show slots ≤ 7145529 by omega) hS (fun H locs hP hS => ?_)
    have hD : va_D (lA s) (lw cI cJ ad o (nI N) (nI (m_n g0 N)) (nI (m_tn g0 g1 g2 N)) pa pe f0 f1 f2 f3 f4 (vp_updL fo 0 (((x_cg f3 (nI g))).toInt64)) ++ mw cI cZ ad2 0 (nI N) pa pe g0 g1 g2) := q_Dc (L := [ad 0, ad 1, ad 2, ad 3, ad 4, ad 5, o, ad2 0, ad2 1, ad2 2, ad2 3]) hD rfl rfl
    refine lv_istore (lv' := [(6, .int (m_cg g0 N g)), (5, .int 0), (4, .int (nI i)), (3, .ref o), (2, .ref (ad2 0)), (1, .ref (ad 0)), (0, .ref b)]) hx hb dL_law_923 hl (by decide) rfl (fun ls hl => ?_)
    refine lv_aload_n hx hb dL_law_925 rfl (lv_at hl 4 rfl) ?_
    refine q_callV (As := []) (rest := []) ⟨hx, hb, hml, hown, hts⟩ (c_X1_thrown l D cI cZ ad2 0 N pa pe g0 g1 g2 (by omega)) (cwV 0 hts gL_law_X1_thrown rfl rfl rfl kv_X1_thrown ⟨Nat.le_of_ble_eq_true rfl, Nat.le_of_ble_eq_true rfl⟩) (va_recv hK hP (ci := 1) (q0 := 7) rfl rfl) (hP.sub [7, 8, 9, 10] rfl) (hK.sub [0, 2] rfl) rfl hl.1 rfl (Nat.le_of_ble_eq_true rfl) dL_law_926 (show cells ≤ 650192 by omega) (show slots ≤ 7145529 by omega) hS (fun H locs hsm hS => ?_)
    have hP := hsm.P hP
    refine lv_iload hx hb dL_law_929 (lv_at hl 1 rfl) ?_
    refine lv_icmp_eq (tgt := 936) hx hb dL_law_931 (by decide) (fun _ => ?_) (fun h9 => absurd rfl h9)
    refine lv_iload hx hb dL_law_936 (lv_at hl 1 rfl) ?_
    refine lv_if_ne (tgt := 953) hx hb dL_law_938 (by decide) (fun h9 => absurd (by decide) h9) (fun _ => ?_)
    refine lv_aload_n hx hb dL_law_941 rfl (lv_at hl 3 rfl) ?_
    refine lv_iconst (v := 0) hx hb dL_law_942 (by decide) ?_
    refine va_lald hx hb hK hP 6 1 rfl rfl (vp_in_nI (n := 0) (by decide) (by decide)) dL_law_943 ?_
    rw [upd0]
    refine lv_iload hx hb dL_law_944 (lv_at hl 0 rfl) ?_
    refine lv_i2l (v := ((m_cg g0 N g)).toInt64) hx hb dL_law_946 rfl ?_
    refine l_lcmp0 hx hb (by rw [q.cg hN hg]) dL_law_947 ?_
    refine lv_if_eq (tgt := 953) hx hb dL_law_948 (by decide) (fun _ => ?_) (fun h9 => absurd rfl h9)
    refine lv_goto (tgt := 1808) hx hb dL_law_953 (by decide) ?_
    refine W.widen (k := cells + 24) (n := slots + 125) (by omega) (by omega) ?_
    exact kk _ _ _ _ _ _ _ _ _ _ _ _ _ _ _ H locs ls (h) (r) hP hD hS (lv_sub hl [2, 3, 4, 5, 6] rfl)

set_option maxHeartbeats 4000000 in
set_option maxRecDepth 100000 in
theorem law_strainOf {p : Program} {l : Launch} {e : Env} {s : State} {m : MethodId} {args : Array Value} {below : List Frame} {meth : Method} {c : Code} {b L : Nat} {xs : Nat → Int32} {D : va_G} {cI cJ cZ : ClassId} {sa ad ad2 : Nat → Nat} {o cells slots i : Nat} {Q : State → Prop}
    (C : law_C p l s m c args b L xs D cI cJ cZ sa) (kk : law_K p l e s m args below meth c b D cI cJ cZ ad ad2 o cells slots Q i) {N : Nat} {w t pa pe : Int32} {f0 f1 f2 f3 f4 : Nat → Int32} {fo : Nat → Int64} {th : Int32} {g0 g1 g2 : Nat → Int32} {H : Heap} {locs : List Loc} {ls : Array Slot}
    (h : Ra N f0 f1 f2 g0 g1 g2) (r : Rw N f3 f4 g0 g1 g2 w t) (hP : va_P D vwCl (lW cI cJ cZ ad ad2 o (nI N) w t pa pe f0 f1 f2 f3 f4 fo th g0 g1 g2) H) (hD : va_D (lA s) (lW cI cJ cZ ad ad2 o (nI N) w t pa pe f0 f1 f2 f3 f4 fo th g0 g1 g2)) (hS : va_S (lA s) s.heap H locs) (hl : lv_has ls 9 (law_L b ad ad2 o i))
    (hi : i + 2 < L) (hc : cells + 24 ≤ 650192) (hs : slots + 125 ≤ 7145529) : W p l e room_1 s m args below meth c H locs cells slots Q (F0 m 956 ls []) := by
  obtain ⟨hx, hb, hml, hown, hts, hX, hbl, hK, hZ, hN9, hst, hL⟩ := C
  have ew := r.ww
  have et := r.tt
  subst ew
  subst et
  have q := r.rp
  have hN := h.n
  have hn : m_n g0 N ≤ 24 := Nat.le_trans (m_n_le g0 N) hN
  have ht : m_tn g0 g1 g2 N ≤ 24 := by
    have h9 := m_ab_lt (g0 := g0) (g1 := g1) (g2 := g2) hN
    unfold m_tn
    split <;> omega
  have hA : ∀ q : Nat, s.heap.size ≤ q → lA s q := fun _ h => h
  obtain ⟨x1, e1⟩ : ∃ x1, xs (i + 1) = x1 := ⟨_, rfl⟩
  obtain ⟨x2, e2⟩ : ∃ x2, xs (i + 2) = x2 := ⟨_, rfl⟩
  have hl : lv_has ls 9 [(4, .int (nI i)), (3, .ref o), (2, .ref (ad2 0)), (1, .ref (ad 0)), (0, .ref b)] := hl
  cases hm : m_in x1 0 (nI (m_n g0 N) - 2) with
  | false =>
    refine lv_aload_n hx hb dL_law_956 rfl (lv_at hl 3 rfl) ?_
    refine l_arg (k := 1) hx hb hX hbl hS (by omega) hL rfl e1 (lv_at hl 4 rfl) (lv_at hl 0 rfl) dL_law_957 dL_law_958 dL_law_960 dL_law_961 dL_law_962 ?_
    refine lv_aload_n hx hb dL_law_963 rfl (lv_at hl 1 rfl) ?_
    refine l_callE (As := [.ref (ad 0), .int x1, .ref o]) (rest := []) ⟨hx, hb, hml, hown, hts⟩ (t_L_strainOf_1 l D sa hst cI cJ ad o (nI N) (nI (m_n g0 N)) (nI (m_tn g0 g1 g2 N)) pa pe f0 f1 f2 f3 f4 x1 (in_gap0 hn hm) fo) (vx_cwSW 3 hts gL_law_L_strainOf rfl rfl rfl kq_L_strainOf ⟨Nat.le_of_ble_eq_true rfl, Nat.le_of_ble_eq_true rfl⟩) (hP.sub [0, 1, 2, 3, 4, 5, 6] rfl) (hK.sub [0, 1] rfl) (hZ.kept fun a ha => hS.2.1 a ha (Nat.not_le.mpr ha)) hN9 rfl hl.1 rfl (Nat.le_of_ble_eq_true rfl) dL_law_964 (show cells + 1 ≤ 650192 by omega) (show slots + 6 ≤ 7145529 by omega) hS (fun H locs hsm hS => ?_)
    have hP := hsm.P hP
    refine lv_istore (lv' := [(5, .int 1), (4, .int (nI i)), (3, .ref o), (2, .ref (ad2 0)), (1, .ref (ad 0)), (0, .ref b)]) hx hb dL_law_967 hl (by decide) rfl (fun ls hl => ?_)
    refine lv_aload_n hx hb dL_law_969 rfl (lv_at hl 3 rfl) ?_
    refine l_arg (k := 1) hx hb hX hbl hS (by omega) hL rfl e1 (lv_at hl 5 rfl) (lv_at hl 1 rfl) dL_law_970 dL_law_971 dL_law_973 dL_law_974 dL_law_975 ?_
    refine m_callVI (As := [.int x1]) (rest := []) (Wr := (lw cI cJ ad o (nI N) (nI (m_n g0 N)) (nI (m_tn g0 g1 g2 N)) pa pe f0 f1 f2 f3 f4 fo)) (W2 := (lw cI cJ ad o (nI N) (nI (m_n g0 N)) (nI (m_tn g0 g1 g2 N)) pa pe f0 f1 f2 f3 f4 fo ++ mw cI cZ ad2 1 (nI N) pa pe g0 g1 g2)) ⟨hx, hb, hml, hown, hts⟩ (c_X1_strainOf_1 l D cI cZ ad2 th N pa pe g0 g1 g2 hN x1 hm) (cwV 1 hts gL_law_X1_strainOf rfl rfl rfl kv_X1_strainOf ⟨Nat.le_of_ble_eq_true rfl, Nat.le_of_ble_eq_true rfl⟩) (va_recv hK hP (ci := 1) (q0 := 7) rfl rfl) hP hD (hK.sub [0, 2] rfl) hA [7, 8, 9, 10] [0, 1, 2, 3, 4, 5, 6] [0, 1, 2, 3, 4, 5, 6, 7, 8, 9, 10] rfl rfl rfl rfl rfl (by decide) rfl rfl rfl hl.1 rfl (Nat.le_of_ble_eq_true rfl) dL_law_976 (show cells + 1 ≤ 650192 by omega) (show slots + 6 ≤ 7145529 by omega) hS (fun H locs hP hS => ?_)
    have hD : va_D (lA s) (lw cI cJ ad o (nI N) (nI (m_n g0 N)) (nI (m_tn g0 g1 g2 N)) pa pe f0 f1 f2 f3 f4 fo ++ mw cI cZ ad2 1 (nI N) pa pe g0 g1 g2) := q_Dc (L := [ad 0, ad 1, ad 2, ad 3, ad 4, ad 5, o, ad2 0, ad2 1, ad2 2, ad2 3]) hD rfl rfl
    refine lv_istore (lv' := [(6, .int 0), (5, .int 1), (4, .int (nI i)), (3, .ref o), (2, .ref (ad2 0)), (1, .ref (ad 0)), (0, .ref b)]) hx hb dL_law_979 hl (by decide) rfl (fun ls hl => ?_)
    refine lv_aload_n hx hb dL_law_981 rfl (lv_at hl 4 rfl) ?_
    refine q_callV (As := []) (rest := []) ⟨hx, hb, hml, hown, hts⟩ (c_X1_thrown l D cI cZ ad2 1 N pa pe g0 g1 g2 (by omega)) (cwV 0 hts gL_law_X1_thrown rfl rfl rfl kv_X1_thrown ⟨Nat.le_of_ble_eq_true rfl, Nat.le_of_ble_eq_true rfl⟩) (va_recv hK hP (ci := 1) (q0 := 7) rfl rfl) (hP.sub [7, 8, 9, 10] rfl) (hK.sub [0, 2] rfl) rfl hl.1 rfl (Nat.le_of_ble_eq_true rfl) dL_law_982 (show cells + 1 ≤ 650192 by omega) (show slots + 6 ≤ 7145529 by omega) hS (fun H locs hsm hS => ?_)
    have hP := hsm.P hP
    refine lv_iload hx hb dL_law_985 (lv_at hl 1 rfl) ?_
    refine lv_icmp_eq (tgt := 992) hx hb dL_law_987 (by decide) (fun _ => ?_) (fun h9 => absurd rfl h9)
    refine lv_iload hx hb dL_law_992 (lv_at hl 1 rfl) ?_
    refine lv_if_ne (tgt := 1009) hx hb dL_law_994 (by decide) (fun _ => ?_) (fun h9 => absurd h9 (by decide))
    refine lv_goto (tgt := 1808) hx hb dL_law_1009 (by decide) ?_
    refine W.widen (k := cells + 24) (n := slots + 125) (by omega) (by omega) ?_
    exact kk _ _ _ _ _ _ _ _ _ _ _ _ _ _ _ H locs ls (h) (r) hP hD hS (lv_sub hl [2, 3, 4, 5, 6] rfl)
  | true =>
    obtain ⟨g, hg, rfl⟩ := in_gap1 hn hm
    have hi9 := gap_in hn hg
    refine lv_aload_n hx hb dL_law_956 rfl (lv_at hl 3 rfl) ?_
    refine l_arg (k := 1) hx hb hX hbl hS (by omega) hL rfl e1 (lv_at hl 4 rfl) (lv_at hl 0 rfl) dL_law_957 dL_law_958 dL_law_960 dL_law_961 dL_law_962 ?_
    refine lv_aload_n hx hb dL_law_963 rfl (lv_at hl 1 rfl) ?_
    refine l_callI (As := [.ref (ad 0), .int (nI g), .ref o]) (rest := []) (Wr := [(ad2 0, .inr (1, [.int th, .int (nI N), .int pa, .int pe, .ref (ad2 1), .ref (ad2 2), .ref (ad2 3)])), (ad2 1, .inl (cI, 25, .inl g0)), (ad2 2, .inl (cI, 25, .inl g1)), (ad2 3, .inl (cZ, 25, .inl g2))]) (W2 := (lw cI cJ ad o (nI N) (nI (m_n g0 N)) (nI (m_tn g0 g1 g2 N)) pa pe f0 f1 f2 f3 f4 (vp_updL fo 0 (((x_st f1 f3 (nI g))).toInt64)) ++ [(ad2 0, .inr (1, [.int th, .int (nI N), .int pa, .int pe, .ref (ad2 1), .ref (ad2 2), .ref (ad2 3)])), (ad2 1, .inl (cI, 25, .inl g0)), (ad2 2, .inl (cI, 25, .inl g1)), (ad2 3, .inl (cZ, 25, .inl g2))])) ⟨hx, hb, hml, hown, hts⟩ (c_L_strainOf l D cI cJ ad o (nI N) (nI (m_n g0 N)) (nI (m_tn g0 g1 g2 N)) pa pe f0 f1 f2 f3 f4 (nI g) hi9.1 hi9.2 fo) (vx_cwSW 3 hts gL_law_L_strainOf rfl rfl rfl kq_L_strainOf ⟨Nat.le_of_ble_eq_true rfl, Nat.le_of_ble_eq_true rfl⟩) hP hD (hK.sub [0, 1] rfl) hA [0, 1, 2, 3, 4, 5, 6] [7, 8, 9, 10] [4, 5, 6, 7, 8, 9, 10, 0, 1, 2, 3] rfl rfl rfl rfl rfl (by decide) rfl rfl rfl hl.1 rfl (Nat.le_of_ble_eq_true rfl) dL_law_964 (show cells ≤ 650192 by omega) (show slots ≤ 7145529 by omega) hS (fun H locs hP hS => ?_)
    have hD : va_D (lA s) (lw cI cJ ad o (nI N) (nI (m_n g0 N)) (nI (m_tn g0 g1 g2 N)) pa pe f0 f1 f2 f3 f4 (vp_updL fo 0 (((x_st f1 f3 (nI g))).toInt64)) ++ [(ad2 0, .inr (1, [.int th, .int (nI N), .int pa, .int pe, .ref (ad2 1), .ref (ad2 2), .ref (ad2 3)])), (ad2 1, .inl (cI, 25, .inl g0)), (ad2 2, .inl (cI, 25, .inl g1)), (ad2 3, .inl (cZ, 25, .inl g2))]) := q_Dc (L := [ad 0, ad 1, ad 2, ad 3, ad 4, ad 5, o, ad2 0, ad2 1, ad2 2, ad2 3]) hD rfl rfl
    refine lv_istore (lv' := [(5, .int 0), (4, .int (nI i)), (3, .ref o), (2, .ref (ad2 0)), (1, .ref (ad 0)), (0, .ref b)]) hx hb dL_law_967 hl (by decide) rfl (fun ls hl => ?_)
    refine lv_aload_n hx hb dL_law_969 rfl (lv_at hl 3 rfl) ?_
    refine l_arg (k := 1) hx hb hX hbl hS (by omega) hL rfl e1 (lv_at hl 5 rfl) (lv_at hl 1 rfl) dL_law_970 dL_law_971 dL_law_973 dL_law_974 dL_law_975 ?_
    refine m_callVI (As := [.int (nI g)]) (rest := []) (Wr := (lw cI cJ ad o (nI N) (nI (m_n g0 N)) (nI (m_tn g0 g1 g2 N)) pa pe f0 f1 f2 f3 f4 (vp_updL fo 0 (((x_st f1 f3 (nI g))).toInt64)))) (W2 := (lw cI cJ ad o (nI N) (nI (m_n g0 N)) (nI (m_tn g0 g1 g2 N)) pa pe f0 f1 f2 f3 f4 (vp_updL fo 0 (((x_st f1 f3 (nI g))).toInt64)) ++ mw cI cZ ad2 0 (nI N) pa pe g0 g1 g2)) ⟨hx, hb, hml, hown, hts⟩ (c_X1_strainOf_ok l D cI cZ ad2 th N pa pe g0 g1 g2 hN g hg hm) (cwV 1 hts gL_law_X1_strainOf rfl rfl rfl kv_X1_strainOf ⟨Nat.le_of_ble_eq_true rfl, Nat.le_of_ble_eq_true rfl⟩) (va_recv hK hP (ci := 1) (q0 := 7) rfl rfl) hP hD (hK.sub [0, 2] rfl) hA [7, 8, 9, 10] [0, 1, 2, 3, 4, 5, 6] [0, 1, 2, 3, 4, 5, 6, 7, 8, 9, 10] rfl rfl rfl rfl rfl (by decide) rfl rfl rfl hl.1 rfl (Nat.le_of_ble_eq_true rfl) dL_law_976 (show cells ≤ 650192 by omega) (show slots ≤ 7145529 by omega) hS (fun H locs hP hS => ?_)
    have hD : va_D (lA s) (lw cI cJ ad o (nI N) (nI (m_n g0 N)) (nI (m_tn g0 g1 g2 N)) pa pe f0 f1 f2 f3 f4 (vp_updL fo 0 (((x_st f1 f3 (nI g))).toInt64)) ++ mw cI cZ ad2 0 (nI N) pa pe g0 g1 g2) := q_Dc (L := [ad 0, ad 1, ad 2, ad 3, ad 4, ad 5, o, ad2 0, ad2 1, ad2 2, ad2 3]) hD rfl rfl
    refine lv_istore (lv' := [(6, .int (m_st g0 N g)), (5, .int 0), (4, .int (nI i)), (3, .ref o), (2, .ref (ad2 0)), (1, .ref (ad 0)), (0, .ref b)]) hx hb dL_law_979 hl (by decide) rfl (fun ls hl => ?_)
    refine lv_aload_n hx hb dL_law_981 rfl (lv_at hl 4 rfl) ?_
    refine q_callV (As := []) (rest := []) ⟨hx, hb, hml, hown, hts⟩ (c_X1_thrown l D cI cZ ad2 0 N pa pe g0 g1 g2 (by omega)) (cwV 0 hts gL_law_X1_thrown rfl rfl rfl kv_X1_thrown ⟨Nat.le_of_ble_eq_true rfl, Nat.le_of_ble_eq_true rfl⟩) (va_recv hK hP (ci := 1) (q0 := 7) rfl rfl) (hP.sub [7, 8, 9, 10] rfl) (hK.sub [0, 2] rfl) rfl hl.1 rfl (Nat.le_of_ble_eq_true rfl) dL_law_982 (show cells ≤ 650192 by omega) (show slots ≤ 7145529 by omega) hS (fun H locs hsm hS => ?_)
    have hP := hsm.P hP
    refine lv_iload hx hb dL_law_985 (lv_at hl 1 rfl) ?_
    refine lv_icmp_eq (tgt := 992) hx hb dL_law_987 (by decide) (fun _ => ?_) (fun h9 => absurd rfl h9)
    refine lv_iload hx hb dL_law_992 (lv_at hl 1 rfl) ?_
    refine lv_if_ne (tgt := 1009) hx hb dL_law_994 (by decide) (fun h9 => absurd (by decide) h9) (fun _ => ?_)
    refine lv_aload_n hx hb dL_law_997 rfl (lv_at hl 3 rfl) ?_
    refine lv_iconst (v := 0) hx hb dL_law_998 (by decide) ?_
    refine va_lald hx hb hK hP 6 1 rfl rfl (vp_in_nI (n := 0) (by decide) (by decide)) dL_law_999 ?_
    rw [upd0]
    refine lv_iload hx hb dL_law_1000 (lv_at hl 0 rfl) ?_
    refine lv_i2l (v := ((m_st g0 N g)).toInt64) hx hb dL_law_1002 rfl ?_
    refine l_lcmp0 hx hb (by rw [h.st q hg]) dL_law_1003 ?_
    refine lv_if_eq (tgt := 1009) hx hb dL_law_1004 (by decide) (fun _ => ?_) (fun h9 => absurd rfl h9)
    refine lv_goto (tgt := 1808) hx hb dL_law_1009 (by decide) ?_
    refine W.widen (k := cells + 24) (n := slots + 125) (by omega) (by omega) ?_
    exact kk _ _ _ _ _ _ _ _ _ _ _ _ _ _ _ H locs ls (h) (r) hP hD hS (lv_sub hl [2, 3, 4, 5, 6] rfl)

set_option maxHeartbeats 4000000 in
set_option maxRecDepth 100000 in
theorem law_isTied {p : Program} {l : Launch} {e : Env} {s : State} {m : MethodId} {args : Array Value} {below : List Frame} {meth : Method} {c : Code} {b L : Nat} {xs : Nat → Int32} {D : va_G} {cI cJ cZ : ClassId} {sa ad ad2 : Nat → Nat} {o cells slots i : Nat} {Q : State → Prop}
    (C : law_C p l s m c args b L xs D cI cJ cZ sa) (kk : law_K p l e s m args below meth c b D cI cJ cZ ad ad2 o cells slots Q i) {N : Nat} {w t pa pe : Int32} {f0 f1 f2 f3 f4 : Nat → Int32} {fo : Nat → Int64} {th : Int32} {g0 g1 g2 : Nat → Int32} {H : Heap} {locs : List Loc} {ls : Array Slot}
    (h : Ra N f0 f1 f2 g0 g1 g2) (r : Rw N f3 f4 g0 g1 g2 w t) (hP : va_P D vwCl (lW cI cJ cZ ad ad2 o (nI N) w t pa pe f0 f1 f2 f3 f4 fo th g0 g1 g2) H) (hD : va_D (lA s) (lW cI cJ cZ ad ad2 o (nI N) w t pa pe f0 f1 f2 f3 f4 fo th g0 g1 g2)) (hS : va_S (lA s) s.heap H locs) (hl : lv_has ls 9 (law_L b ad ad2 o i))
    (hi : i + 2 < L) (hc : cells + 24 ≤ 650192) (hs : slots + 125 ≤ 7145529) : W p l e room_1 s m args below meth c H locs cells slots Q (F0 m 1012 ls []) := by
  obtain ⟨hx, hb, hml, hown, hts, hX, hbl, hK, hZ, hN9, hst, hL⟩ := C
  have ew := r.ww
  have et := r.tt
  subst ew
  subst et
  have q := r.rp
  have hN := h.n
  have hn : m_n g0 N ≤ 24 := Nat.le_trans (m_n_le g0 N) hN
  have ht : m_tn g0 g1 g2 N ≤ 24 := by
    have h9 := m_ab_lt (g0 := g0) (g1 := g1) (g2 := g2) hN
    unfold m_tn
    split <;> omega
  have hA : ∀ q : Nat, s.heap.size ≤ q → lA s q := fun _ h => h
  obtain ⟨x1, e1⟩ : ∃ x1, xs (i + 1) = x1 := ⟨_, rfl⟩
  obtain ⟨x2, e2⟩ : ∃ x2, xs (i + 2) = x2 := ⟨_, rfl⟩
  have hl : lv_has ls 9 [(4, .int (nI i)), (3, .ref o), (2, .ref (ad2 0)), (1, .ref (ad 0)), (0, .ref b)] := hl
  cases hm : m_in x1 0 (nI (m_n g0 N) - 2) with
  | false =>
    refine lv_aload_n hx hb dL_law_1012 rfl (lv_at hl 3 rfl) ?_
    refine l_arg (k := 1) hx hb hX hbl hS (by omega) hL rfl e1 (lv_at hl 4 rfl) (lv_at hl 0 rfl) dL_law_1013 dL_law_1014 dL_law_1016 dL_law_1017 dL_law_1018 ?_
    refine lv_aload_n hx hb dL_law_1019 rfl (lv_at hl 1 rfl) ?_
    refine l_callE (As := [.ref (ad 0), .int x1, .ref o]) (rest := []) ⟨hx, hb, hml, hown, hts⟩ (t_L_isTied_1 l D sa hst cI cJ ad o (nI N) (nI (m_n g0 N)) (nI (m_tn g0 g1 g2 N)) pa pe f0 f1 f2 f3 f4 x1 (in_gap0 hn hm) fo) (vx_cwSW 3 hts gL_law_L_isTied rfl rfl rfl kq_L_isTied ⟨Nat.le_of_ble_eq_true rfl, Nat.le_of_ble_eq_true rfl⟩) (hP.sub [0, 1, 2, 3, 4, 5, 6] rfl) (hK.sub [0, 1] rfl) (hZ.kept fun a ha => hS.2.1 a ha (Nat.not_le.mpr ha)) hN9 rfl hl.1 rfl (Nat.le_of_ble_eq_true rfl) dL_law_1020 (show cells + 1 ≤ 650192 by omega) (show slots + 6 ≤ 7145529 by omega) hS (fun H locs hsm hS => ?_)
    have hP := hsm.P hP
    refine lv_istore (lv' := [(5, .int 1), (4, .int (nI i)), (3, .ref o), (2, .ref (ad2 0)), (1, .ref (ad 0)), (0, .ref b)]) hx hb dL_law_1023 hl (by decide) rfl (fun ls hl => ?_)
    refine lv_aload_n hx hb dL_law_1025 rfl (lv_at hl 3 rfl) ?_
    refine l_arg (k := 1) hx hb hX hbl hS (by omega) hL rfl e1 (lv_at hl 5 rfl) (lv_at hl 1 rfl) dL_law_1026 dL_law_1027 dL_law_1029 dL_law_1030 dL_law_1031 ?_
    refine m_callVI (As := [.int x1]) (rest := []) (Wr := (lw cI cJ ad o (nI N) (nI (m_n g0 N)) (nI (m_tn g0 g1 g2 N)) pa pe f0 f1 f2 f3 f4 fo)) (W2 := (lw cI cJ ad o (nI N) (nI (m_n g0 N)) (nI (m_tn g0 g1 g2 N)) pa pe f0 f1 f2 f3 f4 fo ++ mw cI cZ ad2 1 (nI N) pa pe g0 g1 g2)) ⟨hx, hb, hml, hown, hts⟩ (c_X1_isTied_1 l D cI cZ ad2 th N pa pe g0 g1 g2 hN x1 hm) (cwV 1 hts gL_law_X1_isTied rfl rfl rfl kv_X1_isTied ⟨Nat.le_of_ble_eq_true rfl, Nat.le_of_ble_eq_true rfl⟩) (va_recv hK hP (ci := 1) (q0 := 7) rfl rfl) hP hD (hK.sub [0, 2] rfl) hA [7, 8, 9, 10] [0, 1, 2, 3, 4, 5, 6] [0, 1, 2, 3, 4, 5, 6, 7, 8, 9, 10] rfl rfl rfl rfl rfl (by decide) rfl rfl rfl hl.1 rfl (Nat.le_of_ble_eq_true rfl) dL_law_1032 (show cells + 1 ≤ 650192 by omega) (show slots + 6 ≤ 7145529 by omega) hS (fun H locs hP hS => ?_)
    have hD : va_D (lA s) (lw cI cJ ad o (nI N) (nI (m_n g0 N)) (nI (m_tn g0 g1 g2 N)) pa pe f0 f1 f2 f3 f4 fo ++ mw cI cZ ad2 1 (nI N) pa pe g0 g1 g2) := q_Dc (L := [ad 0, ad 1, ad 2, ad 3, ad 4, ad 5, o, ad2 0, ad2 1, ad2 2, ad2 3]) hD rfl rfl
    refine lv_istore (lv' := [(6, .int 0), (5, .int 1), (4, .int (nI i)), (3, .ref o), (2, .ref (ad2 0)), (1, .ref (ad 0)), (0, .ref b)]) hx hb dL_law_1035 hl (by decide) rfl (fun ls hl => ?_)
    refine lv_aload_n hx hb dL_law_1037 rfl (lv_at hl 4 rfl) ?_
    refine q_callV (As := []) (rest := []) ⟨hx, hb, hml, hown, hts⟩ (c_X1_thrown l D cI cZ ad2 1 N pa pe g0 g1 g2 (by omega)) (cwV 0 hts gL_law_X1_thrown rfl rfl rfl kv_X1_thrown ⟨Nat.le_of_ble_eq_true rfl, Nat.le_of_ble_eq_true rfl⟩) (va_recv hK hP (ci := 1) (q0 := 7) rfl rfl) (hP.sub [7, 8, 9, 10] rfl) (hK.sub [0, 2] rfl) rfl hl.1 rfl (Nat.le_of_ble_eq_true rfl) dL_law_1038 (show cells + 1 ≤ 650192 by omega) (show slots + 6 ≤ 7145529 by omega) hS (fun H locs hsm hS => ?_)
    have hP := hsm.P hP
    refine lv_iload hx hb dL_law_1041 (lv_at hl 1 rfl) ?_
    refine lv_icmp_eq (tgt := 1048) hx hb dL_law_1043 (by decide) (fun _ => ?_) (fun h9 => absurd rfl h9)
    refine lv_iload hx hb dL_law_1048 (lv_at hl 1 rfl) ?_
    refine lv_if_ne (tgt := 1072) hx hb dL_law_1050 (by decide) (fun _ => ?_) (fun h9 => absurd h9 (by decide))
    refine lv_goto (tgt := 1808) hx hb dL_law_1072 (by decide) ?_
    refine W.widen (k := cells + 24) (n := slots + 125) (by omega) (by omega) ?_
    exact kk _ _ _ _ _ _ _ _ _ _ _ _ _ _ _ H locs ls (h) (r) hP hD hS (lv_sub hl [2, 3, 4, 5, 6] rfl)
  | true =>
    obtain ⟨g, hg, rfl⟩ := in_gap1 hn hm
    have hi9 := gap_in hn hg
    refine lv_aload_n hx hb dL_law_1012 rfl (lv_at hl 3 rfl) ?_
    refine l_arg (k := 1) hx hb hX hbl hS (by omega) hL rfl e1 (lv_at hl 4 rfl) (lv_at hl 0 rfl) dL_law_1013 dL_law_1014 dL_law_1016 dL_law_1017 dL_law_1018 ?_
    refine lv_aload_n hx hb dL_law_1019 rfl (lv_at hl 1 rfl) ?_
    refine l_callI (As := [.ref (ad 0), .int (nI g), .ref o]) (rest := []) (Wr := [(ad2 0, .inr (1, [.int th, .int (nI N), .int pa, .int pe, .ref (ad2 1), .ref (ad2 2), .ref (ad2 3)])), (ad2 1, .inl (cI, 25, .inl g0)), (ad2 2, .inl (cI, 25, .inl g1)), (ad2 3, .inl (cZ, 25, .inl g2))]) (W2 := (lw cI cJ ad o (nI N) (nI (m_n g0 N)) (nI (m_tn g0 g1 g2 N)) pa pe f0 f1 f2 f3 f4 (vp_updL fo 0 (bL (x_ti f2 f3 (nI g)))) ++ [(ad2 0, .inr (1, [.int th, .int (nI N), .int pa, .int pe, .ref (ad2 1), .ref (ad2 2), .ref (ad2 3)])), (ad2 1, .inl (cI, 25, .inl g0)), (ad2 2, .inl (cI, 25, .inl g1)), (ad2 3, .inl (cZ, 25, .inl g2))])) ⟨hx, hb, hml, hown, hts⟩ (c_L_isTied l D cI cJ ad o (nI N) (nI (m_n g0 N)) (nI (m_tn g0 g1 g2 N)) pa pe f0 f1 f2 f3 f4 (nI g) hi9.1 hi9.2 fo) (vx_cwSW 3 hts gL_law_L_isTied rfl rfl rfl kq_L_isTied ⟨Nat.le_of_ble_eq_true rfl, Nat.le_of_ble_eq_true rfl⟩) hP hD (hK.sub [0, 1] rfl) hA [0, 1, 2, 3, 4, 5, 6] [7, 8, 9, 10] [4, 5, 6, 7, 8, 9, 10, 0, 1, 2, 3] rfl rfl rfl rfl rfl (by decide) rfl rfl rfl hl.1 rfl (Nat.le_of_ble_eq_true rfl) dL_law_1020 (show cells ≤ 650192 by omega) (show slots ≤ 7145529 by omega) hS (fun H locs hP hS => ?_)
    have hD : va_D (lA s) (lw cI cJ ad o (nI N) (nI (m_n g0 N)) (nI (m_tn g0 g1 g2 N)) pa pe f0 f1 f2 f3 f4 (vp_updL fo 0 (bL (x_ti f2 f3 (nI g)))) ++ [(ad2 0, .inr (1, [.int th, .int (nI N), .int pa, .int pe, .ref (ad2 1), .ref (ad2 2), .ref (ad2 3)])), (ad2 1, .inl (cI, 25, .inl g0)), (ad2 2, .inl (cI, 25, .inl g1)), (ad2 3, .inl (cZ, 25, .inl g2))]) := q_Dc (L := [ad 0, ad 1, ad 2, ad 3, ad 4, ad 5, o, ad2 0, ad2 1, ad2 2, ad2 3]) hD rfl rfl
    refine lv_istore (lv' := [(5, .int 0), (4, .int (nI i)), (3, .ref o), (2, .ref (ad2 0)), (1, .ref (ad 0)), (0, .ref b)]) hx hb dL_law_1023 hl (by decide) rfl (fun ls hl => ?_)
    refine lv_aload_n hx hb dL_law_1025 rfl (lv_at hl 3 rfl) ?_
    refine l_arg (k := 1) hx hb hX hbl hS (by omega) hL rfl e1 (lv_at hl 5 rfl) (lv_at hl 1 rfl) dL_law_1026 dL_law_1027 dL_law_1029 dL_law_1030 dL_law_1031 ?_
    refine m_callVI (As := [.int (nI g)]) (rest := []) (Wr := (lw cI cJ ad o (nI N) (nI (m_n g0 N)) (nI (m_tn g0 g1 g2 N)) pa pe f0 f1 f2 f3 f4 (vp_updL fo 0 (bL (x_ti f2 f3 (nI g)))))) (W2 := (lw cI cJ ad o (nI N) (nI (m_n g0 N)) (nI (m_tn g0 g1 g2 N)) pa pe f0 f1 f2 f3 f4 (vp_updL fo 0 (bL (x_ti f2 f3 (nI g)))) ++ mw cI cZ ad2 0 (nI N) pa pe g0 g1 g2)) ⟨hx, hb, hml, hown, hts⟩ (c_X1_isTied_ok l D cI cZ ad2 th N pa pe g0 g1 g2 hN g hg hm) (cwV 1 hts gL_law_X1_isTied rfl rfl rfl kv_X1_isTied ⟨Nat.le_of_ble_eq_true rfl, Nat.le_of_ble_eq_true rfl⟩) (va_recv hK hP (ci := 1) (q0 := 7) rfl rfl) hP hD (hK.sub [0, 2] rfl) hA [7, 8, 9, 10] [0, 1, 2, 3, 4, 5, 6] [0, 1, 2, 3, 4, 5, 6, 7, 8, 9, 10] rfl rfl rfl rfl rfl (by decide) rfl rfl rfl hl.1 rfl (Nat.le_of_ble_eq_true rfl) dL_law_1032 (show cells ≤ 650192 by omega) (show slots ≤ 7145529 by omega) hS (fun H locs hP hS => ?_)
    have hD : va_D (lA s) (lw cI cJ ad o (nI N) (nI (m_n g0 N)) (nI (m_tn g0 g1 g2 N)) pa pe f0 f1 f2 f3 f4 (vp_updL fo 0 (bL (x_ti f2 f3 (nI g)))) ++ mw cI cZ ad2 0 (nI N) pa pe g0 g1 g2) := q_Dc (L := [ad 0, ad 1, ad 2, ad 3, ad 4, ad 5, o, ad2 0, ad2 1, ad2 2, ad2 3]) hD rfl rfl
    refine lv_istore (lv' := [(6, .int (bI (m_ti g0 g2 N g))), (5, .int 0), (4, .int (nI i)), (3, .ref o), (2, .ref (ad2 0)), (1, .ref (ad 0)), (0, .ref b)]) hx hb dL_law_1035 hl (by decide) rfl (fun ls hl => ?_)
    refine lv_aload_n hx hb dL_law_1037 rfl (lv_at hl 4 rfl) ?_
    refine q_callV (As := []) (rest := []) ⟨hx, hb, hml, hown, hts⟩ (c_X1_thrown l D cI cZ ad2 0 N pa pe g0 g1 g2 (by omega)) (cwV 0 hts gL_law_X1_thrown rfl rfl rfl kv_X1_thrown ⟨Nat.le_of_ble_eq_true rfl, Nat.le_of_ble_eq_true rfl⟩) (va_recv hK hP (ci := 1) (q0 := 7) rfl rfl) (hP.sub [7, 8, 9, 10] rfl) (hK.sub [0, 2] rfl) rfl hl.1 rfl (Nat.le_of_ble_eq_true rfl) dL_law_1038 (show cells ≤ 650192 by omega) (show slots ≤ 7145529 by omega) hS (fun H locs hsm hS => ?_)
    have hP := hsm.P hP
    refine lv_iload hx hb dL_law_1041 (lv_at hl 1 rfl) ?_
    refine lv_icmp_eq (tgt := 1048) hx hb dL_law_1043 (by decide) (fun _ => ?_) (fun h9 => absurd rfl h9)
    refine lv_iload hx hb dL_law_1048 (lv_at hl 1 rfl) ?_
    refine lv_if_ne (tgt := 1072) hx hb dL_law_1050 (by decide) (fun h9 => absurd (by decide) h9) (fun _ => ?_)
    refine lv_aload_n hx hb dL_law_1053 rfl (lv_at hl 3 rfl) ?_
    refine lv_iconst (v := 0) hx hb dL_law_1054 (by decide) ?_
    refine va_lald hx hb hK hP 6 1 rfl rfl (vp_in_nI (n := 0) (by decide) (by decide)) dL_law_1055 ?_
    rw [upd0]
    refine lv_iload hx hb dL_law_1056 (lv_at hl 0 rfl) ?_
    suffices K : ∀ v9 : Int64, v9 = bL (m_ti g0 g2 N g) → W p l e room_1 s m args below meth c H locs (cells) (slots) Q (F0 m 1066 ls [.long v9, .long (bL (x_ti f2 f3 (nI g)))]) from by
      refine lv_if_eq (tgt := 1065) hx hb dL_law_1058 (by decide) (fun h9 => ?_) (fun h9 => ?_)
      · refine lv_lconst (v := 0) hx hb dL_law_1065 (by decide) ?_
        exact K _ (by rw [bI_0.mp h9]; rfl)
      · refine lv_lconst (v := 1) hx hb dL_law_1061 (by decide) ?_
        refine lv_goto (tgt := 1066) hx hb dL_law_1062 (by decide) ?_
        exact K _ (by rw [bI_n0.mp h9]; rfl)
    intro v9 hv9
    refine l_lcmp0 hx hb (by rw [hv9, h.tig q (by omega)]) dL_law_1066 ?_
    refine lv_if_eq (tgt := 1072) hx hb dL_law_1067 (by decide) (fun _ => ?_) (fun h9 => absurd rfl h9)
    refine lv_goto (tgt := 1808) hx hb dL_law_1072 (by decide) ?_
    refine W.widen (k := cells + 24) (n := slots + 125) (by omega) (by omega) ?_
    exact kk _ _ _ _ _ _ _ _ _ _ _ _ _ _ _ H locs ls (h) (r) hP hD hS (lv_sub hl [2, 3, 4, 5, 6] rfl)

set_option maxHeartbeats 4000000 in
set_option maxRecDepth 100000 in
theorem law_isSmooth {p : Program} {l : Launch} {e : Env} {s : State} {m : MethodId} {args : Array Value} {below : List Frame} {meth : Method} {c : Code} {b L : Nat} {xs : Nat → Int32} {D : va_G} {cI cJ cZ : ClassId} {sa ad ad2 : Nat → Nat} {o cells slots i : Nat} {Q : State → Prop}
    (C : law_C p l s m c args b L xs D cI cJ cZ sa) (kk : law_K p l e s m args below meth c b D cI cJ cZ ad ad2 o cells slots Q i) {N : Nat} {w t pa pe : Int32} {f0 f1 f2 f3 f4 : Nat → Int32} {fo : Nat → Int64} {th : Int32} {g0 g1 g2 : Nat → Int32} {H : Heap} {locs : List Loc} {ls : Array Slot}
    (h : Ra N f0 f1 f2 g0 g1 g2) (r : Rw N f3 f4 g0 g1 g2 w t) (hP : va_P D vwCl (lW cI cJ cZ ad ad2 o (nI N) w t pa pe f0 f1 f2 f3 f4 fo th g0 g1 g2) H) (hD : va_D (lA s) (lW cI cJ cZ ad ad2 o (nI N) w t pa pe f0 f1 f2 f3 f4 fo th g0 g1 g2)) (hS : va_S (lA s) s.heap H locs) (hl : lv_has ls 9 (law_L b ad ad2 o i))
    (hi : i + 2 < L) (hc : cells + 24 ≤ 650192) (hs : slots + 125 ≤ 7145529) : W p l e room_1 s m args below meth c H locs cells slots Q (F0 m 1075 ls []) := by
  obtain ⟨hx, hb, hml, hown, hts, hX, hbl, hK, hZ, hN9, hst, hL⟩ := C
  have ew := r.ww
  have et := r.tt
  subst ew
  subst et
  have q := r.rp
  have hN := h.n
  have hn : m_n g0 N ≤ 24 := Nat.le_trans (m_n_le g0 N) hN
  have ht : m_tn g0 g1 g2 N ≤ 24 := by
    have h9 := m_ab_lt (g0 := g0) (g1 := g1) (g2 := g2) hN
    unfold m_tn
    split <;> omega
  have hA : ∀ q : Nat, s.heap.size ≤ q → lA s q := fun _ h => h
  obtain ⟨x1, e1⟩ : ∃ x1, xs (i + 1) = x1 := ⟨_, rfl⟩
  obtain ⟨x2, e2⟩ : ∃ x2, xs (i + 2) = x2 := ⟨_, rfl⟩
  have hl : lv_has ls 9 [(4, .int (nI i)), (3, .ref o), (2, .ref (ad2 0)), (1, .ref (ad 0)), (0, .ref b)] := hl
  cases hm : m_in x1 0 (nI (m_n g0 N) - 2) with
  | false =>
    refine lv_aload_n hx hb dL_law_1075 rfl (lv_at hl 3 rfl) ?_
    refine l_arg (k := 1) hx hb hX hbl hS (by omega) hL rfl e1 (lv_at hl 4 rfl) (lv_at hl 0 rfl) dL_law_1076 dL_law_1077 dL_law_1079 dL_law_1080 dL_law_1081 ?_
    refine lv_aload_n hx hb dL_law_1082 rfl (lv_at hl 1 rfl) ?_
    refine l_callE (As := [.ref (ad 0), .int x1, .ref o]) (rest := []) ⟨hx, hb, hml, hown, hts⟩ (t_L_isSmooth_1 l D sa hst cI cJ ad o (nI N) (nI (m_n g0 N)) (nI (m_tn g0 g1 g2 N)) pa pe f0 f1 f2 f3 f4 x1 (in_gap0 hn hm) fo) (vx_cwSW 3 hts gL_law_L_isSmooth rfl rfl rfl kq_L_isSmooth ⟨Nat.le_of_ble_eq_true rfl, Nat.le_of_ble_eq_true rfl⟩) (hP.sub [0, 1, 2, 3, 4, 5, 6] rfl) (hK.sub [0, 1] rfl) (hZ.kept fun a ha => hS.2.1 a ha (Nat.not_le.mpr ha)) hN9 rfl hl.1 rfl (Nat.le_of_ble_eq_true rfl) dL_law_1083 (show cells + 1 ≤ 650192 by omega) (show slots + 6 ≤ 7145529 by omega) hS (fun H locs hsm hS => ?_)
    have hP := hsm.P hP
    refine lv_istore (lv' := [(5, .int 1), (4, .int (nI i)), (3, .ref o), (2, .ref (ad2 0)), (1, .ref (ad 0)), (0, .ref b)]) hx hb dL_law_1086 hl (by decide) rfl (fun ls hl => ?_)
    refine lv_aload_n hx hb dL_law_1088 rfl (lv_at hl 3 rfl) ?_
    refine l_arg (k := 1) hx hb hX hbl hS (by omega) hL rfl e1 (lv_at hl 5 rfl) (lv_at hl 1 rfl) dL_law_1089 dL_law_1090 dL_law_1092 dL_law_1093 dL_law_1094 ?_
    refine m_callVI (As := [.int x1]) (rest := []) (Wr := (lw cI cJ ad o (nI N) (nI (m_n g0 N)) (nI (m_tn g0 g1 g2 N)) pa pe f0 f1 f2 f3 f4 fo)) (W2 := (lw cI cJ ad o (nI N) (nI (m_n g0 N)) (nI (m_tn g0 g1 g2 N)) pa pe f0 f1 f2 f3 f4 fo ++ mw cI cZ ad2 1 (nI N) pa pe g0 g1 g2)) ⟨hx, hb, hml, hown, hts⟩ (c_X1_isSmooth_1 l D cI cZ ad2 th N pa pe g0 g1 g2 hN x1 hm) (cwV 1 hts gL_law_X1_isSmooth rfl rfl rfl kv_X1_isSmooth ⟨Nat.le_of_ble_eq_true rfl, Nat.le_of_ble_eq_true rfl⟩) (va_recv hK hP (ci := 1) (q0 := 7) rfl rfl) hP hD (hK.sub [0, 2] rfl) hA [7, 8, 9, 10] [0, 1, 2, 3, 4, 5, 6] [0, 1, 2, 3, 4, 5, 6, 7, 8, 9, 10] rfl rfl rfl rfl rfl (by decide) rfl rfl rfl hl.1 rfl (Nat.le_of_ble_eq_true rfl) dL_law_1095 (show cells + 1 ≤ 650192 by omega) (show slots + 6 ≤ 7145529 by omega) hS (fun H locs hP hS => ?_)
    have hD : va_D (lA s) (lw cI cJ ad o (nI N) (nI (m_n g0 N)) (nI (m_tn g0 g1 g2 N)) pa pe f0 f1 f2 f3 f4 fo ++ mw cI cZ ad2 1 (nI N) pa pe g0 g1 g2) := q_Dc (L := [ad 0, ad 1, ad 2, ad 3, ad 4, ad 5, o, ad2 0, ad2 1, ad2 2, ad2 3]) hD rfl rfl
    refine lv_istore (lv' := [(6, .int 0), (5, .int 1), (4, .int (nI i)), (3, .ref o), (2, .ref (ad2 0)), (1, .ref (ad 0)), (0, .ref b)]) hx hb dL_law_1098 hl (by decide) rfl (fun ls hl => ?_)
    refine lv_aload_n hx hb dL_law_1100 rfl (lv_at hl 4 rfl) ?_
    refine q_callV (As := []) (rest := []) ⟨hx, hb, hml, hown, hts⟩ (c_X1_thrown l D cI cZ ad2 1 N pa pe g0 g1 g2 (by omega)) (cwV 0 hts gL_law_X1_thrown rfl rfl rfl kv_X1_thrown ⟨Nat.le_of_ble_eq_true rfl, Nat.le_of_ble_eq_true rfl⟩) (va_recv hK hP (ci := 1) (q0 := 7) rfl rfl) (hP.sub [7, 8, 9, 10] rfl) (hK.sub [0, 2] rfl) rfl hl.1 rfl (Nat.le_of_ble_eq_true rfl) dL_law_1101 (show cells + 1 ≤ 650192 by omega) (show slots + 6 ≤ 7145529 by omega) hS (fun H locs hsm hS => ?_)
    have hP := hsm.P hP
    refine lv_iload hx hb dL_law_1104 (lv_at hl 1 rfl) ?_
    refine lv_icmp_eq (tgt := 1111) hx hb dL_law_1106 (by decide) (fun _ => ?_) (fun h9 => absurd rfl h9)
    refine lv_iload hx hb dL_law_1111 (lv_at hl 1 rfl) ?_
    refine lv_if_ne (tgt := 1135) hx hb dL_law_1113 (by decide) (fun _ => ?_) (fun h9 => absurd h9 (by decide))
    refine lv_goto (tgt := 1808) hx hb dL_law_1135 (by decide) ?_
    refine W.widen (k := cells + 24) (n := slots + 125) (by omega) (by omega) ?_
    exact kk _ _ _ _ _ _ _ _ _ _ _ _ _ _ _ H locs ls (h) (r) hP hD hS (lv_sub hl [2, 3, 4, 5, 6] rfl)
  | true =>
    obtain ⟨g, hg, rfl⟩ := in_gap1 hn hm
    have hi9 := gap_in hn hg
    refine lv_aload_n hx hb dL_law_1075 rfl (lv_at hl 3 rfl) ?_
    refine l_arg (k := 1) hx hb hX hbl hS (by omega) hL rfl e1 (lv_at hl 4 rfl) (lv_at hl 0 rfl) dL_law_1076 dL_law_1077 dL_law_1079 dL_law_1080 dL_law_1081 ?_
    refine lv_aload_n hx hb dL_law_1082 rfl (lv_at hl 1 rfl) ?_
    refine l_callI (As := [.ref (ad 0), .int (nI g), .ref o]) (rest := []) (Wr := [(ad2 0, .inr (1, [.int th, .int (nI N), .int pa, .int pe, .ref (ad2 1), .ref (ad2 2), .ref (ad2 3)])), (ad2 1, .inl (cI, 25, .inl g0)), (ad2 2, .inl (cI, 25, .inl g1)), (ad2 3, .inl (cZ, 25, .inl g2))]) (W2 := (lw cI cJ ad o (nI N) (nI (m_n g0 N)) (nI (m_tn g0 g1 g2 N)) pa pe f0 f1 f2 f3 f4 (vp_updL fo 0 (bL (decide (x_kg f0 f1 f2 f3 (nI g) = 0)))) ++ [(ad2 0, .inr (1, [.int th, .int (nI N), .int pa, .int pe, .ref (ad2 1), .ref (ad2 2), .ref (ad2 3)])), (ad2 1, .inl (cI, 25, .inl g0)), (ad2 2, .inl (cI, 25, .inl g1)), (ad2 3, .inl (cZ, 25, .inl g2))])) ⟨hx, hb, hml, hown, hts⟩ (c_L_isSmooth l D cI cJ ad o (nI N) (nI (m_n g0 N)) (nI (m_tn g0 g1 g2 N)) pa pe f0 f1 f2 f3 f4 (nI g) hi9.1 hi9.2 fo) (vx_cwSW 3 hts gL_law_L_isSmooth rfl rfl rfl kq_L_isSmooth ⟨Nat.le_of_ble_eq_true rfl, Nat.le_of_ble_eq_true rfl⟩) hP hD (hK.sub [0, 1] rfl) hA [0, 1, 2, 3, 4, 5, 6] [7, 8, 9, 10] [4, 5, 6, 7, 8, 9, 10, 0, 1, 2, 3] rfl rfl rfl rfl rfl (by decide) rfl rfl rfl hl.1 rfl (Nat.le_of_ble_eq_true rfl) dL_law_1083 (show cells ≤ 650192 by omega) (show slots ≤ 7145529 by omega) hS (fun H locs hP hS => ?_)
    have hD : va_D (lA s) (lw cI cJ ad o (nI N) (nI (m_n g0 N)) (nI (m_tn g0 g1 g2 N)) pa pe f0 f1 f2 f3 f4 (vp_updL fo 0 (bL (decide (x_kg f0 f1 f2 f3 (nI g) = 0)))) ++ [(ad2 0, .inr (1, [.int th, .int (nI N), .int pa, .int pe, .ref (ad2 1), .ref (ad2 2), .ref (ad2 3)])), (ad2 1, .inl (cI, 25, .inl g0)), (ad2 2, .inl (cI, 25, .inl g1)), (ad2 3, .inl (cZ, 25, .inl g2))]) := q_Dc (L := [ad 0, ad 1, ad 2, ad 3, ad 4, ad 5, o, ad2 0, ad2 1, ad2 2, ad2 3]) hD rfl rfl
    refine lv_istore (lv' := [(5, .int 0), (4, .int (nI i)), (3, .ref o), (2, .ref (ad2 0)), (1, .ref (ad 0)), (0, .ref b)]) hx hb dL_law_1086 hl (by decide) rfl (fun ls hl => ?_)
    refine lv_aload_n hx hb dL_law_1088 rfl (lv_at hl 3 rfl) ?_
    refine l_arg (k := 1) hx hb hX hbl hS (by omega) hL rfl e1 (lv_at hl 5 rfl) (lv_at hl 1 rfl) dL_law_1089 dL_law_1090 dL_law_1092 dL_law_1093 dL_law_1094 ?_
    refine m_callVI (As := [.int (nI g)]) (rest := []) (Wr := (lw cI cJ ad o (nI N) (nI (m_n g0 N)) (nI (m_tn g0 g1 g2 N)) pa pe f0 f1 f2 f3 f4 (vp_updL fo 0 (bL (decide (x_kg f0 f1 f2 f3 (nI g) = 0)))))) (W2 := (lw cI cJ ad o (nI N) (nI (m_n g0 N)) (nI (m_tn g0 g1 g2 N)) pa pe f0 f1 f2 f3 f4 (vp_updL fo 0 (bL (decide (x_kg f0 f1 f2 f3 (nI g) = 0)))) ++ mw cI cZ ad2 0 (nI N) pa pe g0 g1 g2)) ⟨hx, hb, hml, hown, hts⟩ (c_X1_isSmooth_ok l D cI cZ ad2 th N pa pe g0 g1 g2 hN g hg hm) (cwV 1 hts gL_law_X1_isSmooth rfl rfl rfl kv_X1_isSmooth ⟨Nat.le_of_ble_eq_true rfl, Nat.le_of_ble_eq_true rfl⟩) (va_recv hK hP (ci := 1) (q0 := 7) rfl rfl) hP hD (hK.sub [0, 2] rfl) hA [7, 8, 9, 10] [0, 1, 2, 3, 4, 5, 6] [0, 1, 2, 3, 4, 5, 6, 7, 8, 9, 10] rfl rfl rfl rfl rfl (by decide) rfl rfl rfl hl.1 rfl (Nat.le_of_ble_eq_true rfl) dL_law_1095 (show cells ≤ 650192 by omega) (show slots ≤ 7145529 by omega) hS (fun H locs hP hS => ?_)
    have hD : va_D (lA s) (lw cI cJ ad o (nI N) (nI (m_n g0 N)) (nI (m_tn g0 g1 g2 N)) pa pe f0 f1 f2 f3 f4 (vp_updL fo 0 (bL (decide (x_kg f0 f1 f2 f3 (nI g) = 0)))) ++ mw cI cZ ad2 0 (nI N) pa pe g0 g1 g2) := q_Dc (L := [ad 0, ad 1, ad 2, ad 3, ad 4, ad 5, o, ad2 0, ad2 1, ad2 2, ad2 3]) hD rfl rfl
    refine lv_istore (lv' := [(6, .int (bI (m_so g0 g2 N g))), (5, .int 0), (4, .int (nI i)), (3, .ref o), (2, .ref (ad2 0)), (1, .ref (ad 0)), (0, .ref b)]) hx hb dL_law_1098 hl (by decide) rfl (fun ls hl => ?_)
    refine lv_aload_n hx hb dL_law_1100 rfl (lv_at hl 4 rfl) ?_
    refine q_callV (As := []) (rest := []) ⟨hx, hb, hml, hown, hts⟩ (c_X1_thrown l D cI cZ ad2 0 N pa pe g0 g1 g2 (by omega)) (cwV 0 hts gL_law_X1_thrown rfl rfl rfl kv_X1_thrown ⟨Nat.le_of_ble_eq_true rfl, Nat.le_of_ble_eq_true rfl⟩) (va_recv hK hP (ci := 1) (q0 := 7) rfl rfl) (hP.sub [7, 8, 9, 10] rfl) (hK.sub [0, 2] rfl) rfl hl.1 rfl (Nat.le_of_ble_eq_true rfl) dL_law_1101 (show cells ≤ 650192 by omega) (show slots ≤ 7145529 by omega) hS (fun H locs hsm hS => ?_)
    have hP := hsm.P hP
    refine lv_iload hx hb dL_law_1104 (lv_at hl 1 rfl) ?_
    refine lv_icmp_eq (tgt := 1111) hx hb dL_law_1106 (by decide) (fun _ => ?_) (fun h9 => absurd rfl h9)
    refine lv_iload hx hb dL_law_1111 (lv_at hl 1 rfl) ?_
    refine lv_if_ne (tgt := 1135) hx hb dL_law_1113 (by decide) (fun h9 => absurd (by decide) h9) (fun _ => ?_)
    refine lv_aload_n hx hb dL_law_1116 rfl (lv_at hl 3 rfl) ?_
    refine lv_iconst (v := 0) hx hb dL_law_1117 (by decide) ?_
    refine va_lald hx hb hK hP 6 1 rfl rfl (vp_in_nI (n := 0) (by decide) (by decide)) dL_law_1118 ?_
    rw [upd0]
    refine lv_iload hx hb dL_law_1119 (lv_at hl 0 rfl) ?_
    suffices K : ∀ v9 : Int64, v9 = bL (m_so g0 g2 N g) → W p l e room_1 s m args below meth c H locs (cells) (slots) Q (F0 m 1129 ls [.long v9, .long (bL (decide (x_kg f0 f1 f2 f3 (nI g) = 0)))]) from by
      refine lv_if_eq (tgt := 1128) hx hb dL_law_1121 (by decide) (fun h9 => ?_) (fun h9 => ?_)
      · refine lv_lconst (v := 0) hx hb dL_law_1128 (by decide) ?_
        exact K _ (by rw [bI_0.mp h9]; rfl)
      · refine lv_lconst (v := 1) hx hb dL_law_1124 (by decide) ?_
        refine lv_goto (tgt := 1129) hx hb dL_law_1125 (by decide) ?_
        exact K _ (by rw [bI_n0.mp h9]; rfl)
    intro v9 hv9
    refine l_lcmp0 hx hb (by rw [hv9, h.kg0 q hg]) dL_law_1129 ?_
    refine lv_if_eq (tgt := 1135) hx hb dL_law_1130 (by decide) (fun _ => ?_) (fun h9 => absurd rfl h9)
    refine lv_goto (tgt := 1808) hx hb dL_law_1135 (by decide) ?_
    refine W.widen (k := cells + 24) (n := slots + 125) (by omega) (by omega) ?_
    exact kk _ _ _ _ _ _ _ _ _ _ _ _ _ _ _ H locs ls (h) (r) hP hD hS (lv_sub hl [2, 3, 4, 5, 6] rfl)

set_option maxHeartbeats 4000000 in
set_option maxRecDepth 100000 in
theorem law_isPolite {p : Program} {l : Launch} {e : Env} {s : State} {m : MethodId} {args : Array Value} {below : List Frame} {meth : Method} {c : Code} {b L : Nat} {xs : Nat → Int32} {D : va_G} {cI cJ cZ : ClassId} {sa ad ad2 : Nat → Nat} {o cells slots i : Nat} {Q : State → Prop}
    (C : law_C p l s m c args b L xs D cI cJ cZ sa) (kk : law_K p l e s m args below meth c b D cI cJ cZ ad ad2 o cells slots Q i) {N : Nat} {w t pa pe : Int32} {f0 f1 f2 f3 f4 : Nat → Int32} {fo : Nat → Int64} {th : Int32} {g0 g1 g2 : Nat → Int32} {H : Heap} {locs : List Loc} {ls : Array Slot}
    (h : Ra N f0 f1 f2 g0 g1 g2) (r : Rw N f3 f4 g0 g1 g2 w t) (hP : va_P D vwCl (lW cI cJ cZ ad ad2 o (nI N) w t pa pe f0 f1 f2 f3 f4 fo th g0 g1 g2) H) (hD : va_D (lA s) (lW cI cJ cZ ad ad2 o (nI N) w t pa pe f0 f1 f2 f3 f4 fo th g0 g1 g2)) (hS : va_S (lA s) s.heap H locs) (hl : lv_has ls 9 (law_L b ad ad2 o i))
    (hi : i + 2 < L) (hc : cells + 24 ≤ 650192) (hs : slots + 125 ≤ 7145529) : W p l e room_1 s m args below meth c H locs cells slots Q (F0 m 1138 ls []) := by
  obtain ⟨hx, hb, hml, hown, hts, hX, hbl, hK, hZ, hN9, hst, hL⟩ := C
  have ew := r.ww
  have et := r.tt
  subst ew
  subst et
  have q := r.rp
  have hN := h.n
  have hn : m_n g0 N ≤ 24 := Nat.le_trans (m_n_le g0 N) hN
  have ht : m_tn g0 g1 g2 N ≤ 24 := by
    have h9 := m_ab_lt (g0 := g0) (g1 := g1) (g2 := g2) hN
    unfold m_tn
    split <;> omega
  have hA : ∀ q : Nat, s.heap.size ≤ q → lA s q := fun _ h => h
  obtain ⟨x1, e1⟩ : ∃ x1, xs (i + 1) = x1 := ⟨_, rfl⟩
  obtain ⟨x2, e2⟩ : ∃ x2, xs (i + 2) = x2 := ⟨_, rfl⟩
  have hl : lv_has ls 9 [(4, .int (nI i)), (3, .ref o), (2, .ref (ad2 0)), (1, .ref (ad 0)), (0, .ref b)] := hl
  cases hm : m_in x1 0 (nI (m_n g0 N) - 2) with
  | false =>
    refine lv_aload_n hx hb dL_law_1138 rfl (lv_at hl 3 rfl) ?_
    refine l_arg (k := 1) hx hb hX hbl hS (by omega) hL rfl e1 (lv_at hl 4 rfl) (lv_at hl 0 rfl) dL_law_1139 dL_law_1140 dL_law_1142 dL_law_1143 dL_law_1144 ?_
    refine lv_aload_n hx hb dL_law_1145 rfl (lv_at hl 1 rfl) ?_
    refine l_callE (As := [.ref (ad 0), .int x1, .ref o]) (rest := []) ⟨hx, hb, hml, hown, hts⟩ (t_L_isPolite_1 l D sa hst cI cJ ad o (nI N) (nI (m_n g0 N)) (nI (m_tn g0 g1 g2 N)) pa pe f0 f1 f2 f3 f4 x1 (in_gap0 hn hm) fo) (vx_cwSW 3 hts gL_law_L_isPolite rfl rfl rfl kq_L_isPolite ⟨Nat.le_of_ble_eq_true rfl, Nat.le_of_ble_eq_true rfl⟩) (hP.sub [0, 1, 2, 3, 4, 5, 6] rfl) (hK.sub [0, 1] rfl) (hZ.kept fun a ha => hS.2.1 a ha (Nat.not_le.mpr ha)) hN9 rfl hl.1 rfl (Nat.le_of_ble_eq_true rfl) dL_law_1146 (show cells + 1 ≤ 650192 by omega) (show slots + 6 ≤ 7145529 by omega) hS (fun H locs hsm hS => ?_)
    have hP := hsm.P hP
    refine lv_istore (lv' := [(5, .int 1), (4, .int (nI i)), (3, .ref o), (2, .ref (ad2 0)), (1, .ref (ad 0)), (0, .ref b)]) hx hb dL_law_1149 hl (by decide) rfl (fun ls hl => ?_)
    refine lv_aload_n hx hb dL_law_1151 rfl (lv_at hl 3 rfl) ?_
    refine l_arg (k := 1) hx hb hX hbl hS (by omega) hL rfl e1 (lv_at hl 5 rfl) (lv_at hl 1 rfl) dL_law_1152 dL_law_1153 dL_law_1155 dL_law_1156 dL_law_1157 ?_
    refine m_callVI (As := [.int x1]) (rest := []) (Wr := (lw cI cJ ad o (nI N) (nI (m_n g0 N)) (nI (m_tn g0 g1 g2 N)) pa pe f0 f1 f2 f3 f4 fo)) (W2 := (lw cI cJ ad o (nI N) (nI (m_n g0 N)) (nI (m_tn g0 g1 g2 N)) pa pe f0 f1 f2 f3 f4 fo ++ mw cI cZ ad2 1 (nI N) pa pe g0 g1 g2)) ⟨hx, hb, hml, hown, hts⟩ (c_X1_isPolite_1 l D cI cZ ad2 th N pa pe g0 g1 g2 hN x1 hm) (cwV 1 hts gL_law_X1_isPolite rfl rfl rfl kv_X1_isPolite ⟨Nat.le_of_ble_eq_true rfl, Nat.le_of_ble_eq_true rfl⟩) (va_recv hK hP (ci := 1) (q0 := 7) rfl rfl) hP hD (hK.sub [0, 2] rfl) hA [7, 8, 9, 10] [0, 1, 2, 3, 4, 5, 6] [0, 1, 2, 3, 4, 5, 6, 7, 8, 9, 10] rfl rfl rfl rfl rfl (by decide) rfl rfl rfl hl.1 rfl (Nat.le_of_ble_eq_true rfl) dL_law_1158 (show cells + 1 ≤ 650192 by omega) (show slots + 6 ≤ 7145529 by omega) hS (fun H locs hP hS => ?_)
    have hD : va_D (lA s) (lw cI cJ ad o (nI N) (nI (m_n g0 N)) (nI (m_tn g0 g1 g2 N)) pa pe f0 f1 f2 f3 f4 fo ++ mw cI cZ ad2 1 (nI N) pa pe g0 g1 g2) := q_Dc (L := [ad 0, ad 1, ad 2, ad 3, ad 4, ad 5, o, ad2 0, ad2 1, ad2 2, ad2 3]) hD rfl rfl
    refine lv_istore (lv' := [(6, .int 0), (5, .int 1), (4, .int (nI i)), (3, .ref o), (2, .ref (ad2 0)), (1, .ref (ad 0)), (0, .ref b)]) hx hb dL_law_1161 hl (by decide) rfl (fun ls hl => ?_)
    refine lv_aload_n hx hb dL_law_1163 rfl (lv_at hl 4 rfl) ?_
    refine q_callV (As := []) (rest := []) ⟨hx, hb, hml, hown, hts⟩ (c_X1_thrown l D cI cZ ad2 1 N pa pe g0 g1 g2 (by omega)) (cwV 0 hts gL_law_X1_thrown rfl rfl rfl kv_X1_thrown ⟨Nat.le_of_ble_eq_true rfl, Nat.le_of_ble_eq_true rfl⟩) (va_recv hK hP (ci := 1) (q0 := 7) rfl rfl) (hP.sub [7, 8, 9, 10] rfl) (hK.sub [0, 2] rfl) rfl hl.1 rfl (Nat.le_of_ble_eq_true rfl) dL_law_1164 (show cells + 1 ≤ 650192 by omega) (show slots + 6 ≤ 7145529 by omega) hS (fun H locs hsm hS => ?_)
    have hP := hsm.P hP
    refine lv_iload hx hb dL_law_1167 (lv_at hl 1 rfl) ?_
    refine lv_icmp_eq (tgt := 1174) hx hb dL_law_1169 (by decide) (fun _ => ?_) (fun h9 => absurd rfl h9)
    refine lv_iload hx hb dL_law_1174 (lv_at hl 1 rfl) ?_
    refine lv_if_ne (tgt := 1198) hx hb dL_law_1176 (by decide) (fun _ => ?_) (fun h9 => absurd h9 (by decide))
    refine lv_goto (tgt := 1808) hx hb dL_law_1198 (by decide) ?_
    refine W.widen (k := cells + 24) (n := slots + 125) (by omega) (by omega) ?_
    exact kk _ _ _ _ _ _ _ _ _ _ _ _ _ _ _ H locs ls (h) (r) hP hD hS (lv_sub hl [2, 3, 4, 5, 6] rfl)
  | true =>
    obtain ⟨g, hg, rfl⟩ := in_gap1 hn hm
    have hi9 := gap_in hn hg
    refine lv_aload_n hx hb dL_law_1138 rfl (lv_at hl 3 rfl) ?_
    refine l_arg (k := 1) hx hb hX hbl hS (by omega) hL rfl e1 (lv_at hl 4 rfl) (lv_at hl 0 rfl) dL_law_1139 dL_law_1140 dL_law_1142 dL_law_1143 dL_law_1144 ?_
    refine lv_aload_n hx hb dL_law_1145 rfl (lv_at hl 1 rfl) ?_
    refine l_callI (As := [.ref (ad 0), .int (nI g), .ref o]) (rest := []) (Wr := [(ad2 0, .inr (1, [.int th, .int (nI N), .int pa, .int pe, .ref (ad2 1), .ref (ad2 2), .ref (ad2 3)])), (ad2 1, .inl (cI, 25, .inl g0)), (ad2 2, .inl (cI, 25, .inl g1)), (ad2 3, .inl (cZ, 25, .inl g2))]) (W2 := (lw cI cJ ad o (nI N) (nI (m_n g0 N)) (nI (m_tn g0 g1 g2 N)) pa pe f0 f1 f2 f3 f4 (vp_updL fo 0 (bL (decide (x_kg f0 f1 f2 f3 (nI g) = 1)))) ++ [(ad2 0, .inr (1, [.int th, .int (nI N), .int pa, .int pe, .ref (ad2 1), .ref (ad2 2), .ref (ad2 3)])), (ad2 1, .inl (cI, 25, .inl g0)), (ad2 2, .inl (cI, 25, .inl g1)), (ad2 3, .inl (cZ, 25, .inl g2))])) ⟨hx, hb, hml, hown, hts⟩ (c_L_isPolite l D cI cJ ad o (nI N) (nI (m_n g0 N)) (nI (m_tn g0 g1 g2 N)) pa pe f0 f1 f2 f3 f4 (nI g) hi9.1 hi9.2 fo) (vx_cwSW 3 hts gL_law_L_isPolite rfl rfl rfl kq_L_isPolite ⟨Nat.le_of_ble_eq_true rfl, Nat.le_of_ble_eq_true rfl⟩) hP hD (hK.sub [0, 1] rfl) hA [0, 1, 2, 3, 4, 5, 6] [7, 8, 9, 10] [4, 5, 6, 7, 8, 9, 10, 0, 1, 2, 3] rfl rfl rfl rfl rfl (by decide) rfl rfl rfl hl.1 rfl (Nat.le_of_ble_eq_true rfl) dL_law_1146 (show cells ≤ 650192 by omega) (show slots ≤ 7145529 by omega) hS (fun H locs hP hS => ?_)
    have hD : va_D (lA s) (lw cI cJ ad o (nI N) (nI (m_n g0 N)) (nI (m_tn g0 g1 g2 N)) pa pe f0 f1 f2 f3 f4 (vp_updL fo 0 (bL (decide (x_kg f0 f1 f2 f3 (nI g) = 1)))) ++ [(ad2 0, .inr (1, [.int th, .int (nI N), .int pa, .int pe, .ref (ad2 1), .ref (ad2 2), .ref (ad2 3)])), (ad2 1, .inl (cI, 25, .inl g0)), (ad2 2, .inl (cI, 25, .inl g1)), (ad2 3, .inl (cZ, 25, .inl g2))]) := q_Dc (L := [ad 0, ad 1, ad 2, ad 3, ad 4, ad 5, o, ad2 0, ad2 1, ad2 2, ad2 3]) hD rfl rfl
    refine lv_istore (lv' := [(5, .int 0), (4, .int (nI i)), (3, .ref o), (2, .ref (ad2 0)), (1, .ref (ad 0)), (0, .ref b)]) hx hb dL_law_1149 hl (by decide) rfl (fun ls hl => ?_)
    refine lv_aload_n hx hb dL_law_1151 rfl (lv_at hl 3 rfl) ?_
    refine l_arg (k := 1) hx hb hX hbl hS (by omega) hL rfl e1 (lv_at hl 5 rfl) (lv_at hl 1 rfl) dL_law_1152 dL_law_1153 dL_law_1155 dL_law_1156 dL_law_1157 ?_
    refine m_callVI (As := [.int (nI g)]) (rest := []) (Wr := (lw cI cJ ad o (nI N) (nI (m_n g0 N)) (nI (m_tn g0 g1 g2 N)) pa pe f0 f1 f2 f3 f4 (vp_updL fo 0 (bL (decide (x_kg f0 f1 f2 f3 (nI g) = 1)))))) (W2 := (lw cI cJ ad o (nI N) (nI (m_n g0 N)) (nI (m_tn g0 g1 g2 N)) pa pe f0 f1 f2 f3 f4 (vp_updL fo 0 (bL (decide (x_kg f0 f1 f2 f3 (nI g) = 1)))) ++ mw cI cZ ad2 0 (nI N) pa pe g0 g1 g2)) ⟨hx, hb, hml, hown, hts⟩ (c_X1_isPolite_ok l D cI cZ ad2 th N pa pe g0 g1 g2 hN g hg hm) (cwV 1 hts gL_law_X1_isPolite rfl rfl rfl kv_X1_isPolite ⟨Nat.le_of_ble_eq_true rfl, Nat.le_of_ble_eq_true rfl⟩) (va_recv hK hP (ci := 1) (q0 := 7) rfl rfl) hP hD (hK.sub [0, 2] rfl) hA [7, 8, 9, 10] [0, 1, 2, 3, 4, 5, 6] [0, 1, 2, 3, 4, 5, 6, 7, 8, 9, 10] rfl rfl rfl rfl rfl (by decide) rfl rfl rfl hl.1 rfl (Nat.le_of_ble_eq_true rfl) dL_law_1158 (show cells ≤ 650192 by omega) (show slots ≤ 7145529 by omega) hS (fun H locs hP hS => ?_)
    have hD : va_D (lA s) (lw cI cJ ad o (nI N) (nI (m_n g0 N)) (nI (m_tn g0 g1 g2 N)) pa pe f0 f1 f2 f3 f4 (vp_updL fo 0 (bL (decide (x_kg f0 f1 f2 f3 (nI g) = 1)))) ++ mw cI cZ ad2 0 (nI N) pa pe g0 g1 g2) := q_Dc (L := [ad 0, ad 1, ad 2, ad 3, ad 4, ad 5, o, ad2 0, ad2 1, ad2 2, ad2 3]) hD rfl rfl
    refine lv_istore (lv' := [(6, .int (bI (!m_so g0 g2 N g && !m_br g0 g1 g2 N g))), (5, .int 0), (4, .int (nI i)), (3, .ref o), (2, .ref (ad2 0)), (1, .ref (ad 0)), (0, .ref b)]) hx hb dL_law_1161 hl (by decide) rfl (fun ls hl => ?_)
    refine lv_aload_n hx hb dL_law_1163 rfl (lv_at hl 4 rfl) ?_
    refine q_callV (As := []) (rest := []) ⟨hx, hb, hml, hown, hts⟩ (c_X1_thrown l D cI cZ ad2 0 N pa pe g0 g1 g2 (by omega)) (cwV 0 hts gL_law_X1_thrown rfl rfl rfl kv_X1_thrown ⟨Nat.le_of_ble_eq_true rfl, Nat.le_of_ble_eq_true rfl⟩) (va_recv hK hP (ci := 1) (q0 := 7) rfl rfl) (hP.sub [7, 8, 9, 10] rfl) (hK.sub [0, 2] rfl) rfl hl.1 rfl (Nat.le_of_ble_eq_true rfl) dL_law_1164 (show cells ≤ 650192 by omega) (show slots ≤ 7145529 by omega) hS (fun H locs hsm hS => ?_)
    have hP := hsm.P hP
    refine lv_iload hx hb dL_law_1167 (lv_at hl 1 rfl) ?_
    refine lv_icmp_eq (tgt := 1174) hx hb dL_law_1169 (by decide) (fun _ => ?_) (fun h9 => absurd rfl h9)
    refine lv_iload hx hb dL_law_1174 (lv_at hl 1 rfl) ?_
    refine lv_if_ne (tgt := 1198) hx hb dL_law_1176 (by decide) (fun h9 => absurd (by decide) h9) (fun _ => ?_)
    refine lv_aload_n hx hb dL_law_1179 rfl (lv_at hl 3 rfl) ?_
    refine lv_iconst (v := 0) hx hb dL_law_1180 (by decide) ?_
    refine va_lald hx hb hK hP 6 1 rfl rfl (vp_in_nI (n := 0) (by decide) (by decide)) dL_law_1181 ?_
    rw [upd0]
    refine lv_iload hx hb dL_law_1182 (lv_at hl 0 rfl) ?_
    suffices K : ∀ v9 : Int64, v9 = bL (!m_so g0 g2 N g && !m_br g0 g1 g2 N g) → W p l e room_1 s m args below meth c H locs (cells) (slots) Q (F0 m 1192 ls [.long v9, .long (bL (decide (x_kg f0 f1 f2 f3 (nI g) = 1)))]) from by
      refine lv_if_eq (tgt := 1191) hx hb dL_law_1184 (by decide) (fun h9 => ?_) (fun h9 => ?_)
      · refine lv_lconst (v := 0) hx hb dL_law_1191 (by decide) ?_
        exact K _ (by rw [bI_0.mp h9]; rfl)
      · refine lv_lconst (v := 1) hx hb dL_law_1187 (by decide) ?_
        refine lv_goto (tgt := 1192) hx hb dL_law_1188 (by decide) ?_
        exact K _ (by rw [bI_n0.mp h9]; rfl)
    intro v9 hv9
    refine l_lcmp0 hx hb (by rw [hv9, h.kg1 q hg]) dL_law_1192 ?_
    refine lv_if_eq (tgt := 1198) hx hb dL_law_1193 (by decide) (fun _ => ?_) (fun h9 => absurd rfl h9)
    refine lv_goto (tgt := 1808) hx hb dL_law_1198 (by decide) ?_
    refine W.widen (k := cells + 24) (n := slots + 125) (by omega) (by omega) ?_
    exact kk _ _ _ _ _ _ _ _ _ _ _ _ _ _ _ H locs ls (h) (r) hP hD hS (lv_sub hl [2, 3, 4, 5, 6] rfl)

set_option maxHeartbeats 4000000 in
set_option maxRecDepth 100000 in
theorem law_isBroken {p : Program} {l : Launch} {e : Env} {s : State} {m : MethodId} {args : Array Value} {below : List Frame} {meth : Method} {c : Code} {b L : Nat} {xs : Nat → Int32} {D : va_G} {cI cJ cZ : ClassId} {sa ad ad2 : Nat → Nat} {o cells slots i : Nat} {Q : State → Prop}
    (C : law_C p l s m c args b L xs D cI cJ cZ sa) (kk : law_K p l e s m args below meth c b D cI cJ cZ ad ad2 o cells slots Q i) {N : Nat} {w t pa pe : Int32} {f0 f1 f2 f3 f4 : Nat → Int32} {fo : Nat → Int64} {th : Int32} {g0 g1 g2 : Nat → Int32} {H : Heap} {locs : List Loc} {ls : Array Slot}
    (h : Ra N f0 f1 f2 g0 g1 g2) (r : Rw N f3 f4 g0 g1 g2 w t) (hP : va_P D vwCl (lW cI cJ cZ ad ad2 o (nI N) w t pa pe f0 f1 f2 f3 f4 fo th g0 g1 g2) H) (hD : va_D (lA s) (lW cI cJ cZ ad ad2 o (nI N) w t pa pe f0 f1 f2 f3 f4 fo th g0 g1 g2)) (hS : va_S (lA s) s.heap H locs) (hl : lv_has ls 9 (law_L b ad ad2 o i))
    (hi : i + 2 < L) (hc : cells + 24 ≤ 650192) (hs : slots + 125 ≤ 7145529) : W p l e room_1 s m args below meth c H locs cells slots Q (F0 m 1201 ls []) := by
  obtain ⟨hx, hb, hml, hown, hts, hX, hbl, hK, hZ, hN9, hst, hL⟩ := C
  have ew := r.ww
  have et := r.tt
  subst ew
  subst et
  have q := r.rp
  have hN := h.n
  have hn : m_n g0 N ≤ 24 := Nat.le_trans (m_n_le g0 N) hN
  have ht : m_tn g0 g1 g2 N ≤ 24 := by
    have h9 := m_ab_lt (g0 := g0) (g1 := g1) (g2 := g2) hN
    unfold m_tn
    split <;> omega
  have hA : ∀ q : Nat, s.heap.size ≤ q → lA s q := fun _ h => h
  obtain ⟨x1, e1⟩ : ∃ x1, xs (i + 1) = x1 := ⟨_, rfl⟩
  obtain ⟨x2, e2⟩ : ∃ x2, xs (i + 2) = x2 := ⟨_, rfl⟩
  have hl : lv_has ls 9 [(4, .int (nI i)), (3, .ref o), (2, .ref (ad2 0)), (1, .ref (ad 0)), (0, .ref b)] := hl
  cases hm : m_in x1 0 (nI (m_n g0 N) - 2) with
  | false =>
    refine lv_aload_n hx hb dL_law_1201 rfl (lv_at hl 3 rfl) ?_
    refine l_arg (k := 1) hx hb hX hbl hS (by omega) hL rfl e1 (lv_at hl 4 rfl) (lv_at hl 0 rfl) dL_law_1202 dL_law_1203 dL_law_1205 dL_law_1206 dL_law_1207 ?_
    refine lv_aload_n hx hb dL_law_1208 rfl (lv_at hl 1 rfl) ?_
    refine l_callE (As := [.ref (ad 0), .int x1, .ref o]) (rest := []) ⟨hx, hb, hml, hown, hts⟩ (t_L_isBroken_1 l D sa hst cI cJ ad o (nI N) (nI (m_n g0 N)) (nI (m_tn g0 g1 g2 N)) pa pe f0 f1 f2 f3 f4 x1 (in_gap0 hn hm) fo) (vx_cwSW 3 hts gL_law_L_isBroken rfl rfl rfl kq_L_isBroken ⟨Nat.le_of_ble_eq_true rfl, Nat.le_of_ble_eq_true rfl⟩) (hP.sub [0, 1, 2, 3, 4, 5, 6] rfl) (hK.sub [0, 1] rfl) (hZ.kept fun a ha => hS.2.1 a ha (Nat.not_le.mpr ha)) hN9 rfl hl.1 rfl (Nat.le_of_ble_eq_true rfl) dL_law_1209 (show cells + 1 ≤ 650192 by omega) (show slots + 6 ≤ 7145529 by omega) hS (fun H locs hsm hS => ?_)
    have hP := hsm.P hP
    refine lv_istore (lv' := [(5, .int 1), (4, .int (nI i)), (3, .ref o), (2, .ref (ad2 0)), (1, .ref (ad 0)), (0, .ref b)]) hx hb dL_law_1212 hl (by decide) rfl (fun ls hl => ?_)
    refine lv_aload_n hx hb dL_law_1214 rfl (lv_at hl 3 rfl) ?_
    refine l_arg (k := 1) hx hb hX hbl hS (by omega) hL rfl e1 (lv_at hl 5 rfl) (lv_at hl 1 rfl) dL_law_1215 dL_law_1216 dL_law_1218 dL_law_1219 dL_law_1220 ?_
    refine m_callVI (As := [.int x1]) (rest := []) (Wr := (lw cI cJ ad o (nI N) (nI (m_n g0 N)) (nI (m_tn g0 g1 g2 N)) pa pe f0 f1 f2 f3 f4 fo)) (W2 := (lw cI cJ ad o (nI N) (nI (m_n g0 N)) (nI (m_tn g0 g1 g2 N)) pa pe f0 f1 f2 f3 f4 fo ++ mw cI cZ ad2 1 (nI N) pa pe g0 g1 g2)) ⟨hx, hb, hml, hown, hts⟩ (c_X1_isBroken_1 l D cI cZ ad2 th N pa pe g0 g1 g2 hN x1 hm) (cwV 1 hts gL_law_X1_isBroken rfl rfl rfl kv_X1_isBroken ⟨Nat.le_of_ble_eq_true rfl, Nat.le_of_ble_eq_true rfl⟩) (va_recv hK hP (ci := 1) (q0 := 7) rfl rfl) hP hD (hK.sub [0, 2] rfl) hA [7, 8, 9, 10] [0, 1, 2, 3, 4, 5, 6] [0, 1, 2, 3, 4, 5, 6, 7, 8, 9, 10] rfl rfl rfl rfl rfl (by decide) rfl rfl rfl hl.1 rfl (Nat.le_of_ble_eq_true rfl) dL_law_1221 (show cells + 1 ≤ 650192 by omega) (show slots + 6 ≤ 7145529 by omega) hS (fun H locs hP hS => ?_)
    have hD : va_D (lA s) (lw cI cJ ad o (nI N) (nI (m_n g0 N)) (nI (m_tn g0 g1 g2 N)) pa pe f0 f1 f2 f3 f4 fo ++ mw cI cZ ad2 1 (nI N) pa pe g0 g1 g2) := q_Dc (L := [ad 0, ad 1, ad 2, ad 3, ad 4, ad 5, o, ad2 0, ad2 1, ad2 2, ad2 3]) hD rfl rfl
    refine lv_istore (lv' := [(6, .int 0), (5, .int 1), (4, .int (nI i)), (3, .ref o), (2, .ref (ad2 0)), (1, .ref (ad 0)), (0, .ref b)]) hx hb dL_law_1224 hl (by decide) rfl (fun ls hl => ?_)
    refine lv_aload_n hx hb dL_law_1226 rfl (lv_at hl 4 rfl) ?_
    refine q_callV (As := []) (rest := []) ⟨hx, hb, hml, hown, hts⟩ (c_X1_thrown l D cI cZ ad2 1 N pa pe g0 g1 g2 (by omega)) (cwV 0 hts gL_law_X1_thrown rfl rfl rfl kv_X1_thrown ⟨Nat.le_of_ble_eq_true rfl, Nat.le_of_ble_eq_true rfl⟩) (va_recv hK hP (ci := 1) (q0 := 7) rfl rfl) (hP.sub [7, 8, 9, 10] rfl) (hK.sub [0, 2] rfl) rfl hl.1 rfl (Nat.le_of_ble_eq_true rfl) dL_law_1227 (show cells + 1 ≤ 650192 by omega) (show slots + 6 ≤ 7145529 by omega) hS (fun H locs hsm hS => ?_)
    have hP := hsm.P hP
    refine lv_iload hx hb dL_law_1230 (lv_at hl 1 rfl) ?_
    refine lv_icmp_eq (tgt := 1237) hx hb dL_law_1232 (by decide) (fun _ => ?_) (fun h9 => absurd rfl h9)
    refine lv_iload hx hb dL_law_1237 (lv_at hl 1 rfl) ?_
    refine lv_if_ne (tgt := 1261) hx hb dL_law_1239 (by decide) (fun _ => ?_) (fun h9 => absurd h9 (by decide))
    refine lv_goto (tgt := 1808) hx hb dL_law_1261 (by decide) ?_
    refine W.widen (k := cells + 24) (n := slots + 125) (by omega) (by omega) ?_
    exact kk _ _ _ _ _ _ _ _ _ _ _ _ _ _ _ H locs ls (h) (r) hP hD hS (lv_sub hl [2, 3, 4, 5, 6] rfl)
  | true =>
    obtain ⟨g, hg, rfl⟩ := in_gap1 hn hm
    have hi9 := gap_in hn hg
    refine lv_aload_n hx hb dL_law_1201 rfl (lv_at hl 3 rfl) ?_
    refine l_arg (k := 1) hx hb hX hbl hS (by omega) hL rfl e1 (lv_at hl 4 rfl) (lv_at hl 0 rfl) dL_law_1202 dL_law_1203 dL_law_1205 dL_law_1206 dL_law_1207 ?_
    refine lv_aload_n hx hb dL_law_1208 rfl (lv_at hl 1 rfl) ?_
    refine l_callI (As := [.ref (ad 0), .int (nI g), .ref o]) (rest := []) (Wr := [(ad2 0, .inr (1, [.int th, .int (nI N), .int pa, .int pe, .ref (ad2 1), .ref (ad2 2), .ref (ad2 3)])), (ad2 1, .inl (cI, 25, .inl g0)), (ad2 2, .inl (cI, 25, .inl g1)), (ad2 3, .inl (cZ, 25, .inl g2))]) (W2 := (lw cI cJ ad o (nI N) (nI (m_n g0 N)) (nI (m_tn g0 g1 g2 N)) pa pe f0 f1 f2 f3 f4 (vp_updL fo 0 (bL (decide (x_kg f0 f1 f2 f3 (nI g) = 2)))) ++ [(ad2 0, .inr (1, [.int th, .int (nI N), .int pa, .int pe, .ref (ad2 1), .ref (ad2 2), .ref (ad2 3)])), (ad2 1, .inl (cI, 25, .inl g0)), (ad2 2, .inl (cI, 25, .inl g1)), (ad2 3, .inl (cZ, 25, .inl g2))])) ⟨hx, hb, hml, hown, hts⟩ (c_L_isBroken l D cI cJ ad o (nI N) (nI (m_n g0 N)) (nI (m_tn g0 g1 g2 N)) pa pe f0 f1 f2 f3 f4 (nI g) hi9.1 hi9.2 fo) (vx_cwSW 3 hts gL_law_L_isBroken rfl rfl rfl kq_L_isBroken ⟨Nat.le_of_ble_eq_true rfl, Nat.le_of_ble_eq_true rfl⟩) hP hD (hK.sub [0, 1] rfl) hA [0, 1, 2, 3, 4, 5, 6] [7, 8, 9, 10] [4, 5, 6, 7, 8, 9, 10, 0, 1, 2, 3] rfl rfl rfl rfl rfl (by decide) rfl rfl rfl hl.1 rfl (Nat.le_of_ble_eq_true rfl) dL_law_1209 (show cells ≤ 650192 by omega) (show slots ≤ 7145529 by omega) hS (fun H locs hP hS => ?_)
    have hD : va_D (lA s) (lw cI cJ ad o (nI N) (nI (m_n g0 N)) (nI (m_tn g0 g1 g2 N)) pa pe f0 f1 f2 f3 f4 (vp_updL fo 0 (bL (decide (x_kg f0 f1 f2 f3 (nI g) = 2)))) ++ [(ad2 0, .inr (1, [.int th, .int (nI N), .int pa, .int pe, .ref (ad2 1), .ref (ad2 2), .ref (ad2 3)])), (ad2 1, .inl (cI, 25, .inl g0)), (ad2 2, .inl (cI, 25, .inl g1)), (ad2 3, .inl (cZ, 25, .inl g2))]) := q_Dc (L := [ad 0, ad 1, ad 2, ad 3, ad 4, ad 5, o, ad2 0, ad2 1, ad2 2, ad2 3]) hD rfl rfl
    refine lv_istore (lv' := [(5, .int 0), (4, .int (nI i)), (3, .ref o), (2, .ref (ad2 0)), (1, .ref (ad 0)), (0, .ref b)]) hx hb dL_law_1212 hl (by decide) rfl (fun ls hl => ?_)
    refine lv_aload_n hx hb dL_law_1214 rfl (lv_at hl 3 rfl) ?_
    refine l_arg (k := 1) hx hb hX hbl hS (by omega) hL rfl e1 (lv_at hl 5 rfl) (lv_at hl 1 rfl) dL_law_1215 dL_law_1216 dL_law_1218 dL_law_1219 dL_law_1220 ?_
    refine m_callVI (As := [.int (nI g)]) (rest := []) (Wr := (lw cI cJ ad o (nI N) (nI (m_n g0 N)) (nI (m_tn g0 g1 g2 N)) pa pe f0 f1 f2 f3 f4 (vp_updL fo 0 (bL (decide (x_kg f0 f1 f2 f3 (nI g) = 2)))))) (W2 := (lw cI cJ ad o (nI N) (nI (m_n g0 N)) (nI (m_tn g0 g1 g2 N)) pa pe f0 f1 f2 f3 f4 (vp_updL fo 0 (bL (decide (x_kg f0 f1 f2 f3 (nI g) = 2)))) ++ mw cI cZ ad2 0 (nI N) pa pe g0 g1 g2)) ⟨hx, hb, hml, hown, hts⟩ (c_X1_isBroken_ok l D cI cZ ad2 th N pa pe g0 g1 g2 hN g hg hm) (cwV 1 hts gL_law_X1_isBroken rfl rfl rfl kv_X1_isBroken ⟨Nat.le_of_ble_eq_true rfl, Nat.le_of_ble_eq_true rfl⟩) (va_recv hK hP (ci := 1) (q0 := 7) rfl rfl) hP hD (hK.sub [0, 2] rfl) hA [7, 8, 9, 10] [0, 1, 2, 3, 4, 5, 6] [0, 1, 2, 3, 4, 5, 6, 7, 8, 9, 10] rfl rfl rfl rfl rfl (by decide) rfl rfl rfl hl.1 rfl (Nat.le_of_ble_eq_true rfl) dL_law_1221 (show cells ≤ 650192 by omega) (show slots ≤ 7145529 by omega) hS (fun H locs hP hS => ?_)
    have hD : va_D (lA s) (lw cI cJ ad o (nI N) (nI (m_n g0 N)) (nI (m_tn g0 g1 g2 N)) pa pe f0 f1 f2 f3 f4 (vp_updL fo 0 (bL (decide (x_kg f0 f1 f2 f3 (nI g) = 2)))) ++ mw cI cZ ad2 0 (nI N) pa pe g0 g1 g2) := q_Dc (L := [ad 0, ad 1, ad 2, ad 3, ad 4, ad 5, o, ad2 0, ad2 1, ad2 2, ad2 3]) hD rfl rfl
    refine lv_istore (lv' := [(6, .int (bI (m_br g0 g1 g2 N g))), (5, .int 0), (4, .int (nI i)), (3, .ref o), (2, .ref (ad2 0)), (1, .ref (ad 0)), (0, .ref b)]) hx hb dL_law_1224 hl (by decide) rfl (fun ls hl => ?_)
    refine lv_aload_n hx hb dL_law_1226 rfl (lv_at hl 4 rfl) ?_
    refine q_callV (As := []) (rest := []) ⟨hx, hb, hml, hown, hts⟩ (c_X1_thrown l D cI cZ ad2 0 N pa pe g0 g1 g2 (by omega)) (cwV 0 hts gL_law_X1_thrown rfl rfl rfl kv_X1_thrown ⟨Nat.le_of_ble_eq_true rfl, Nat.le_of_ble_eq_true rfl⟩) (va_recv hK hP (ci := 1) (q0 := 7) rfl rfl) (hP.sub [7, 8, 9, 10] rfl) (hK.sub [0, 2] rfl) rfl hl.1 rfl (Nat.le_of_ble_eq_true rfl) dL_law_1227 (show cells ≤ 650192 by omega) (show slots ≤ 7145529 by omega) hS (fun H locs hsm hS => ?_)
    have hP := hsm.P hP
    refine lv_iload hx hb dL_law_1230 (lv_at hl 1 rfl) ?_
    refine lv_icmp_eq (tgt := 1237) hx hb dL_law_1232 (by decide) (fun _ => ?_) (fun h9 => absurd rfl h9)
    refine lv_iload hx hb dL_law_1237 (lv_at hl 1 rfl) ?_
    refine lv_if_ne (tgt := 1261) hx hb dL_law_1239 (by decide) (fun h9 => absurd (by decide) h9) (fun _ => ?_)
    refine lv_aload_n hx hb dL_law_1242 rfl (lv_at hl 3 rfl) ?_
    refine lv_iconst (v := 0) hx hb dL_law_1243 (by decide) ?_
    refine va_lald hx hb hK hP 6 1 rfl rfl (vp_in_nI (n := 0) (by decide) (by decide)) dL_law_1244 ?_
    rw [upd0]
    refine lv_iload hx hb dL_law_1245 (lv_at hl 0 rfl) ?_
    suffices K : ∀ v9 : Int64, v9 = bL (m_br g0 g1 g2 N g) → W p l e room_1 s m args below meth c H locs (cells) (slots) Q (F0 m 1255 ls [.long v9, .long (bL (decide (x_kg f0 f1 f2 f3 (nI g) = 2)))]) from by
      refine lv_if_eq (tgt := 1254) hx hb dL_law_1247 (by decide) (fun h9 => ?_) (fun h9 => ?_)
      · refine lv_lconst (v := 0) hx hb dL_law_1254 (by decide) ?_
        exact K _ (by rw [bI_0.mp h9]; rfl)
      · refine lv_lconst (v := 1) hx hb dL_law_1250 (by decide) ?_
        refine lv_goto (tgt := 1255) hx hb dL_law_1251 (by decide) ?_
        exact K _ (by rw [bI_n0.mp h9]; rfl)
    intro v9 hv9
    refine l_lcmp0 hx hb (by rw [hv9, h.kg2 q hg]) dL_law_1255 ?_
    refine lv_if_eq (tgt := 1261) hx hb dL_law_1256 (by decide) (fun _ => ?_) (fun h9 => absurd rfl h9)
    refine lv_goto (tgt := 1808) hx hb dL_law_1261 (by decide) ?_
    refine W.widen (k := cells + 24) (n := slots + 125) (by omega) (by omega) ?_
    exact kk _ _ _ _ _ _ _ _ _ _ _ _ _ _ _ H locs ls (h) (r) hP hD hS (lv_sub hl [2, 3, 4, 5, 6] rfl)

set_option maxHeartbeats 4000000 in
set_option maxRecDepth 100000 in
theorem law_costOfMending {p : Program} {l : Launch} {e : Env} {s : State} {m : MethodId} {args : Array Value} {below : List Frame} {meth : Method} {c : Code} {b L : Nat} {xs : Nat → Int32} {D : va_G} {cI cJ cZ : ClassId} {sa ad ad2 : Nat → Nat} {o cells slots i : Nat} {Q : State → Prop}
    (C : law_C p l s m c args b L xs D cI cJ cZ sa) (kk : law_K p l e s m args below meth c b D cI cJ cZ ad ad2 o cells slots Q i) {N : Nat} {w t pa pe : Int32} {f0 f1 f2 f3 f4 : Nat → Int32} {fo : Nat → Int64} {th : Int32} {g0 g1 g2 : Nat → Int32} {H : Heap} {locs : List Loc} {ls : Array Slot}
    (h : Ra N f0 f1 f2 g0 g1 g2) (r : Rw N f3 f4 g0 g1 g2 w t) (hP : va_P D vwCl (lW cI cJ cZ ad ad2 o (nI N) w t pa pe f0 f1 f2 f3 f4 fo th g0 g1 g2) H) (hD : va_D (lA s) (lW cI cJ cZ ad ad2 o (nI N) w t pa pe f0 f1 f2 f3 f4 fo th g0 g1 g2)) (hS : va_S (lA s) s.heap H locs) (hl : lv_has ls 9 (law_L b ad ad2 o i))
    (hi : i + 2 < L) (hc : cells + 24 ≤ 650192) (hs : slots + 125 ≤ 7145529) : W p l e room_1 s m args below meth c H locs cells slots Q (F0 m 1540 ls []) := by
  obtain ⟨hx, hb, hml, hown, hts, hX, hbl, hK, hZ, hN9, hst, hL⟩ := C
  have ew := r.ww
  have et := r.tt
  subst ew
  subst et
  have q := r.rp
  have hN := h.n
  have hn : m_n g0 N ≤ 24 := Nat.le_trans (m_n_le g0 N) hN
  have ht : m_tn g0 g1 g2 N ≤ 24 := by
    have h9 := m_ab_lt (g0 := g0) (g1 := g1) (g2 := g2) hN
    unfold m_tn
    split <;> omega
  have hA : ∀ q : Nat, s.heap.size ≤ q → lA s q := fun _ h => h
  obtain ⟨x1, e1⟩ : ∃ x1, xs (i + 1) = x1 := ⟨_, rfl⟩
  obtain ⟨x2, e2⟩ : ∃ x2, xs (i + 2) = x2 := ⟨_, rfl⟩
  have hl : lv_has ls 9 [(4, .int (nI i)), (3, .ref o), (2, .ref (ad2 0)), (1, .ref (ad 0)), (0, .ref b)] := hl
  cases hm : m_in x1 0 (nI (m_n g0 N) - 2) with
  | false =>
    refine lv_aload_n hx hb dL_law_1540 rfl (lv_at hl 3 rfl) ?_
    refine l_arg (k := 1) hx hb hX hbl hS (by omega) hL rfl e1 (lv_at hl 4 rfl) (lv_at hl 0 rfl) dL_law_1541 dL_law_1542 dL_law_1544 dL_law_1545 dL_law_1546 ?_
    refine lv_aload_n hx hb dL_law_1547 rfl (lv_at hl 1 rfl) ?_
    refine l_callE (As := [.ref (ad 0), .int x1, .ref o]) (rest := []) ⟨hx, hb, hml, hown, hts⟩ (t_L_costOfMending_1 l D sa hst cI cJ ad o (nI N) (nI (m_n g0 N)) (nI (m_tn g0 g1 g2 N)) pa pe f0 f1 f2 f3 f4 x1 (in_gap0 hn hm) fo) (vx_cwSW 3 hts gL_law_L_costOfMending rfl rfl rfl kq_L_costOfMending ⟨Nat.le_of_ble_eq_true rfl, Nat.le_of_ble_eq_true rfl⟩) (hP.sub [0, 1, 2, 3, 4, 5, 6] rfl) (hK.sub [0, 1] rfl) (hZ.kept fun a ha => hS.2.1 a ha (Nat.not_le.mpr ha)) hN9 rfl hl.1 rfl (Nat.le_of_ble_eq_true rfl) dL_law_1548 (show cells + 1 ≤ 650192 by omega) (show slots + 6 ≤ 7145529 by omega) hS (fun H locs hsm hS => ?_)
    have hP := hsm.P hP
    refine lv_istore (lv' := [(5, .int 1), (4, .int (nI i)), (3, .ref o), (2, .ref (ad2 0)), (1, .ref (ad 0)), (0, .ref b)]) hx hb dL_law_1551 hl (by decide) rfl (fun ls hl => ?_)
    refine lv_aload_n hx hb dL_law_1553 rfl (lv_at hl 3 rfl) ?_
    refine l_arg (k := 1) hx hb hX hbl hS (by omega) hL rfl e1 (lv_at hl 5 rfl) (lv_at hl 1 rfl) dL_law_1554 dL_law_1555 dL_law_1557 dL_law_1558 dL_law_1559 ?_
    refine m_callVI (As := [.int x1]) (rest := []) (Wr := (lw cI cJ ad o (nI N) (nI (m_n g0 N)) (nI (m_tn g0 g1 g2 N)) pa pe f0 f1 f2 f3 f4 fo)) (W2 := (lw cI cJ ad o (nI N) (nI (m_n g0 N)) (nI (m_tn g0 g1 g2 N)) pa pe f0 f1 f2 f3 f4 fo ++ mw cI cZ ad2 1 (nI N) pa pe g0 g1 g2)) ⟨hx, hb, hml, hown, hts⟩ (c_X1_costOfMending_1 l D cI cZ ad2 th N pa pe g0 g1 g2 hN x1 hm) (cwV 1 hts gL_law_X1_costOfMending rfl rfl rfl kv_X1_costOfMending ⟨Nat.le_of_ble_eq_true rfl, Nat.le_of_ble_eq_true rfl⟩) (va_recv hK hP (ci := 1) (q0 := 7) rfl rfl) hP hD (hK.sub [0, 2] rfl) hA [7, 8, 9, 10] [0, 1, 2, 3, 4, 5, 6] [0, 1, 2, 3, 4, 5, 6, 7, 8, 9, 10] rfl rfl rfl rfl rfl (by decide) rfl rfl rfl hl.1 rfl (Nat.le_of_ble_eq_true rfl) dL_law_1560 (show cells + 1 ≤ 650192 by omega) (show slots + 6 ≤ 7145529 by omega) hS (fun H locs hP hS => ?_)
    have hD : va_D (lA s) (lw cI cJ ad o (nI N) (nI (m_n g0 N)) (nI (m_tn g0 g1 g2 N)) pa pe f0 f1 f2 f3 f4 fo ++ mw cI cZ ad2 1 (nI N) pa pe g0 g1 g2) := q_Dc (L := [ad 0, ad 1, ad 2, ad 3, ad 4, ad 5, o, ad2 0, ad2 1, ad2 2, ad2 3]) hD rfl rfl
    refine lv_istore (lv' := [(6, .int 0), (5, .int 1), (4, .int (nI i)), (3, .ref o), (2, .ref (ad2 0)), (1, .ref (ad 0)), (0, .ref b)]) hx hb dL_law_1563 hl (by decide) rfl (fun ls hl => ?_)
    refine lv_aload_n hx hb dL_law_1565 rfl (lv_at hl 4 rfl) ?_
    refine q_callV (As := []) (rest := []) ⟨hx, hb, hml, hown, hts⟩ (c_X1_thrown l D cI cZ ad2 1 N pa pe g0 g1 g2 (by omega)) (cwV 0 hts gL_law_X1_thrown rfl rfl rfl kv_X1_thrown ⟨Nat.le_of_ble_eq_true rfl, Nat.le_of_ble_eq_true rfl⟩) (va_recv hK hP (ci := 1) (q0 := 7) rfl rfl) (hP.sub [7, 8, 9, 10] rfl) (hK.sub [0, 2] rfl) rfl hl.1 rfl (Nat.le_of_ble_eq_true rfl) dL_law_1566 (show cells + 1 ≤ 650192 by omega) (show slots + 6 ≤ 7145529 by omega) hS (fun H locs hsm hS => ?_)
    have hP := hsm.P hP
    refine lv_iload hx hb dL_law_1569 (lv_at hl 1 rfl) ?_
    refine lv_icmp_eq (tgt := 1576) hx hb dL_law_1571 (by decide) (fun _ => ?_) (fun h9 => absurd rfl h9)
    refine lv_iload hx hb dL_law_1576 (lv_at hl 1 rfl) ?_
    refine lv_if_ne (tgt := 1593) hx hb dL_law_1578 (by decide) (fun _ => ?_) (fun h9 => absurd h9 (by decide))
    refine lv_goto (tgt := 1808) hx hb dL_law_1593 (by decide) ?_
    refine W.widen (k := cells + 24) (n := slots + 125) (by omega) (by omega) ?_
    exact kk _ _ _ _ _ _ _ _ _ _ _ _ _ _ _ H locs ls (h) (r) hP hD hS (lv_sub hl [2, 3, 4, 5, 6] rfl)
  | true =>
    obtain ⟨g, hg, rfl⟩ := in_gap1 hn hm
    have hi9 := gap_in hn hg
    refine lv_aload_n hx hb dL_law_1540 rfl (lv_at hl 3 rfl) ?_
    refine l_arg (k := 1) hx hb hX hbl hS (by omega) hL rfl e1 (lv_at hl 4 rfl) (lv_at hl 0 rfl) dL_law_1541 dL_law_1542 dL_law_1544 dL_law_1545 dL_law_1546 ?_
    refine lv_aload_n hx hb dL_law_1547 rfl (lv_at hl 1 rfl) ?_
    refine l_callI (As := [.ref (ad 0), .int (nI g), .ref o]) (rest := []) (Wr := [(ad2 0, .inr (1, [.int th, .int (nI N), .int pa, .int pe, .ref (ad2 1), .ref (ad2 2), .ref (ad2 3)])), (ad2 1, .inl (cI, 25, .inl g0)), (ad2 2, .inl (cI, 25, .inl g1)), (ad2 3, .inl (cZ, 25, .inl g2))]) (W2 := (lw cI cJ ad o (nI N) (nI (m_n g0 N)) (nI (m_tn g0 g1 g2 N)) pa pe f0 f1 f2 f3 f4 (vp_updL fo 0 (((x_mc f0 f1 f2 f3 (nI g))).toInt64)) ++ [(ad2 0, .inr (1, [.int th, .int (nI N), .int pa, .int pe, .ref (ad2 1), .ref (ad2 2), .ref (ad2 3)])), (ad2 1, .inl (cI, 25, .inl g0)), (ad2 2, .inl (cI, 25, .inl g1)), (ad2 3, .inl (cZ, 25, .inl g2))])) ⟨hx, hb, hml, hown, hts⟩ (c_L_costOfMending l D cI cJ ad o (nI N) (nI (m_n g0 N)) (nI (m_tn g0 g1 g2 N)) pa pe f0 f1 f2 f3 f4 (nI g) hi9.1 hi9.2 fo) (vx_cwSW 3 hts gL_law_L_costOfMending rfl rfl rfl kq_L_costOfMending ⟨Nat.le_of_ble_eq_true rfl, Nat.le_of_ble_eq_true rfl⟩) hP hD (hK.sub [0, 1] rfl) hA [0, 1, 2, 3, 4, 5, 6] [7, 8, 9, 10] [4, 5, 6, 7, 8, 9, 10, 0, 1, 2, 3] rfl rfl rfl rfl rfl (by decide) rfl rfl rfl hl.1 rfl (Nat.le_of_ble_eq_true rfl) dL_law_1548 (show cells ≤ 650192 by omega) (show slots ≤ 7145529 by omega) hS (fun H locs hP hS => ?_)
    have hD : va_D (lA s) (lw cI cJ ad o (nI N) (nI (m_n g0 N)) (nI (m_tn g0 g1 g2 N)) pa pe f0 f1 f2 f3 f4 (vp_updL fo 0 (((x_mc f0 f1 f2 f3 (nI g))).toInt64)) ++ [(ad2 0, .inr (1, [.int th, .int (nI N), .int pa, .int pe, .ref (ad2 1), .ref (ad2 2), .ref (ad2 3)])), (ad2 1, .inl (cI, 25, .inl g0)), (ad2 2, .inl (cI, 25, .inl g1)), (ad2 3, .inl (cZ, 25, .inl g2))]) := q_Dc (L := [ad 0, ad 1, ad 2, ad 3, ad 4, ad 5, o, ad2 0, ad2 1, ad2 2, ad2 3]) hD rfl rfl
    refine lv_istore (lv' := [(5, .int 0), (4, .int (nI i)), (3, .ref o), (2, .ref (ad2 0)), (1, .ref (ad 0)), (0, .ref b)]) hx hb dL_law_1551 hl (by decide) rfl (fun ls hl => ?_)
    refine lv_aload_n hx hb dL_law_1553 rfl (lv_at hl 3 rfl) ?_
    refine l_arg (k := 1) hx hb hX hbl hS (by omega) hL rfl e1 (lv_at hl 5 rfl) (lv_at hl 1 rfl) dL_law_1554 dL_law_1555 dL_law_1557 dL_law_1558 dL_law_1559 ?_
    refine m_callVI (As := [.int (nI g)]) (rest := []) (Wr := (lw cI cJ ad o (nI N) (nI (m_n g0 N)) (nI (m_tn g0 g1 g2 N)) pa pe f0 f1 f2 f3 f4 (vp_updL fo 0 (((x_mc f0 f1 f2 f3 (nI g))).toInt64)))) (W2 := (lw cI cJ ad o (nI N) (nI (m_n g0 N)) (nI (m_tn g0 g1 g2 N)) pa pe f0 f1 f2 f3 f4 (vp_updL fo 0 (((x_mc f0 f1 f2 f3 (nI g))).toInt64)) ++ mw cI cZ ad2 0 (nI N) pa pe g0 g1 g2)) ⟨hx, hb, hml, hown, hts⟩ (c_X1_costOfMending_ok l D cI cZ ad2 th N pa pe g0 g1 g2 hN g hg hm) (cwV 1 hts gL_law_X1_costOfMending rfl rfl rfl kv_X1_costOfMending ⟨Nat.le_of_ble_eq_true rfl, Nat.le_of_ble_eq_true rfl⟩) (va_recv hK hP (ci := 1) (q0 := 7) rfl rfl) hP hD (hK.sub [0, 2] rfl) hA [7, 8, 9, 10] [0, 1, 2, 3, 4, 5, 6] [0, 1, 2, 3, 4, 5, 6, 7, 8, 9, 10] rfl rfl rfl rfl rfl (by decide) rfl rfl rfl hl.1 rfl (Nat.le_of_ble_eq_true rfl) dL_law_1560 (show cells ≤ 650192 by omega) (show slots ≤ 7145529 by omega) hS (fun H locs hP hS => ?_)
    have hD : va_D (lA s) (lw cI cJ ad o (nI N) (nI (m_n g0 N)) (nI (m_tn g0 g1 g2 N)) pa pe f0 f1 f2 f3 f4 (vp_updL fo 0 (((x_mc f0 f1 f2 f3 (nI g))).toInt64)) ++ mw cI cZ ad2 0 (nI N) pa pe g0 g1 g2) := q_Dc (L := [ad 0, ad 1, ad 2, ad 3, ad 4, ad 5, o, ad2 0, ad2 1, ad2 2, ad2 3]) hD rfl rfl
    refine lv_istore (lv' := [(6, .int (m_md g0 g1 g2 N g)), (5, .int 0), (4, .int (nI i)), (3, .ref o), (2, .ref (ad2 0)), (1, .ref (ad 0)), (0, .ref b)]) hx hb dL_law_1563 hl (by decide) rfl (fun ls hl => ?_)
    refine lv_aload_n hx hb dL_law_1565 rfl (lv_at hl 4 rfl) ?_
    refine q_callV (As := []) (rest := []) ⟨hx, hb, hml, hown, hts⟩ (c_X1_thrown l D cI cZ ad2 0 N pa pe g0 g1 g2 (by omega)) (cwV 0 hts gL_law_X1_thrown rfl rfl rfl kv_X1_thrown ⟨Nat.le_of_ble_eq_true rfl, Nat.le_of_ble_eq_true rfl⟩) (va_recv hK hP (ci := 1) (q0 := 7) rfl rfl) (hP.sub [7, 8, 9, 10] rfl) (hK.sub [0, 2] rfl) rfl hl.1 rfl (Nat.le_of_ble_eq_true rfl) dL_law_1566 (show cells ≤ 650192 by omega) (show slots ≤ 7145529 by omega) hS (fun H locs hsm hS => ?_)
    have hP := hsm.P hP
    refine lv_iload hx hb dL_law_1569 (lv_at hl 1 rfl) ?_
    refine lv_icmp_eq (tgt := 1576) hx hb dL_law_1571 (by decide) (fun _ => ?_) (fun h9 => absurd rfl h9)
    refine lv_iload hx hb dL_law_1576 (lv_at hl 1 rfl) ?_
    refine lv_if_ne (tgt := 1593) hx hb dL_law_1578 (by decide) (fun h9 => absurd (by decide) h9) (fun _ => ?_)
    refine lv_aload_n hx hb dL_law_1581 rfl (lv_at hl 3 rfl) ?_
    refine lv_iconst (v := 0) hx hb dL_law_1582 (by decide) ?_
    refine va_lald hx hb hK hP 6 1 rfl rfl (vp_in_nI (n := 0) (by decide) (by decide)) dL_law_1583 ?_
    rw [upd0]
    refine lv_iload hx hb dL_law_1584 (lv_at hl 0 rfl) ?_
    refine lv_i2l (v := ((m_md g0 g1 g2 N g)).toInt64) hx hb dL_law_1586 rfl ?_
    refine l_lcmp0 hx hb (by rw [h.mc q hg]) dL_law_1587 ?_
    refine lv_if_eq (tgt := 1593) hx hb dL_law_1588 (by decide) (fun _ => ?_) (fun h9 => absurd rfl h9)
    refine lv_goto (tgt := 1808) hx hb dL_law_1593 (by decide) ?_
    refine W.widen (k := cells + 24) (n := slots + 125) (by omega) (by omega) ?_
    exact kk _ _ _ _ _ _ _ _ _ _ _ _ _ _ _ H locs ls (h) (r) hP hD hS (lv_sub hl [2, 3, 4, 5, 6] rfl)

set_option maxHeartbeats 4000000 in
set_option maxRecDepth 100000 in
theorem law_lengthOf {p : Program} {l : Launch} {e : Env} {s : State} {m : MethodId} {args : Array Value} {below : List Frame} {meth : Method} {c : Code} {b L : Nat} {xs : Nat → Int32} {D : va_G} {cI cJ cZ : ClassId} {sa ad ad2 : Nat → Nat} {o cells slots i : Nat} {Q : State → Prop}
    (C : law_C p l s m c args b L xs D cI cJ cZ sa) (kk : law_K p l e s m args below meth c b D cI cJ cZ ad ad2 o cells slots Q i) {N : Nat} {w t pa pe : Int32} {f0 f1 f2 f3 f4 : Nat → Int32} {fo : Nat → Int64} {th : Int32} {g0 g1 g2 : Nat → Int32} {H : Heap} {locs : List Loc} {ls : Array Slot}
    (h : Ra N f0 f1 f2 g0 g1 g2) (r : Rw N f3 f4 g0 g1 g2 w t) (hP : va_P D vwCl (lW cI cJ cZ ad ad2 o (nI N) w t pa pe f0 f1 f2 f3 f4 fo th g0 g1 g2) H) (hD : va_D (lA s) (lW cI cJ cZ ad ad2 o (nI N) w t pa pe f0 f1 f2 f3 f4 fo th g0 g1 g2)) (hS : va_S (lA s) s.heap H locs) (hl : lv_has ls 9 (law_L b ad ad2 o i))
    (hi : i + 2 < L) (hc : cells + 24 ≤ 650192) (hs : slots + 125 ≤ 7145529) : W p l e room_1 s m args below meth c H locs cells slots Q (F0 m 1359 ls []) := by
  obtain ⟨hx, hb, hml, hown, hts, hX, hbl, hK, hZ, hN9, hst, hL⟩ := C
  have ew := r.ww
  have et := r.tt
  subst ew
  subst et
  have q := r.rp
  have hN := h.n
  have hn : m_n g0 N ≤ 24 := Nat.le_trans (m_n_le g0 N) hN
  have ht : m_tn g0 g1 g2 N ≤ 24 := by
    have h9 := m_ab_lt (g0 := g0) (g1 := g1) (g2 := g2) hN
    unfold m_tn
    split <;> omega
  have hA : ∀ q : Nat, s.heap.size ≤ q → lA s q := fun _ h => h
  obtain ⟨x1, e1⟩ : ∃ x1, xs (i + 1) = x1 := ⟨_, rfl⟩
  obtain ⟨x2, e2⟩ : ∃ x2, xs (i + 2) = x2 := ⟨_, rfl⟩
  have hl : lv_has ls 9 [(4, .int (nI i)), (3, .ref o), (2, .ref (ad2 0)), (1, .ref (ad 0)), (0, .ref b)] := hl
  cases hm : m_in x1 0 (nI (m_tn g0 g1 g2 N) - 1) with
  | false =>
    refine lv_aload_n hx hb dL_law_1359 rfl (lv_at hl 3 rfl) ?_
    refine l_arg (k := 1) hx hb hX hbl hS (by omega) hL rfl e1 (lv_at hl 4 rfl) (lv_at hl 0 rfl) dL_law_1360 dL_law_1361 dL_law_1363 dL_law_1364 dL_law_1365 ?_
    refine lv_aload_n hx hb dL_law_1366 rfl (lv_at hl 1 rfl) ?_
    refine l_callE (As := [.ref (ad 0), .int x1, .ref o]) (rest := []) ⟨hx, hb, hml, hown, hts⟩ (t_L_lengthOf_1 l D sa hst cI cJ ad o (nI N) (m_n g0 N) (nI (m_tn g0 g1 g2 N)) pa pe f0 f1 f2 f3 f4 x1 (in_place0 ht hm) hn fo) (vx_cwSW 3 hts gL_law_L_lengthOf rfl rfl rfl kq_L_lengthOf ⟨Nat.le_of_ble_eq_true rfl, Nat.le_of_ble_eq_true rfl⟩) (hP.sub [0, 1, 2, 3, 4, 5, 6] rfl) (hK.sub [0, 1] rfl) (hZ.kept fun a ha => hS.2.1 a ha (Nat.not_le.mpr ha)) hN9 rfl hl.1 rfl (Nat.le_of_ble_eq_true rfl) dL_law_1367 (show cells + 1 ≤ 650192 by omega) (show slots + 6 ≤ 7145529 by omega) hS (fun H locs hsm hS => ?_)
    have hP := hsm.P hP
    refine lv_istore (lv' := [(5, .int 1), (4, .int (nI i)), (3, .ref o), (2, .ref (ad2 0)), (1, .ref (ad 0)), (0, .ref b)]) hx hb dL_law_1370 hl (by decide) rfl (fun ls hl => ?_)
    refine lv_aload_n hx hb dL_law_1372 rfl (lv_at hl 3 rfl) ?_
    refine l_arg (k := 1) hx hb hX hbl hS (by omega) hL rfl e1 (lv_at hl 5 rfl) (lv_at hl 1 rfl) dL_law_1373 dL_law_1374 dL_law_1376 dL_law_1377 dL_law_1378 ?_
    refine m_callVI (As := [.int x1]) (rest := []) (Wr := (lw cI cJ ad o (nI N) (nI (m_n g0 N)) (nI (m_tn g0 g1 g2 N)) pa pe f0 f1 f2 f3 f4 fo)) (W2 := (lw cI cJ ad o (nI N) (nI (m_n g0 N)) (nI (m_tn g0 g1 g2 N)) pa pe f0 f1 f2 f3 f4 fo ++ mw cI cZ ad2 1 (nI N) pa pe g0 g1 g2)) ⟨hx, hb, hml, hown, hts⟩ (c_X1_lengthOf_1 l D cI cZ ad2 th N pa pe g0 g1 g2 hN x1 hm) (cwV 1 hts gL_law_X1_lengthOf rfl rfl rfl kv_X1_lengthOf ⟨Nat.le_of_ble_eq_true rfl, Nat.le_of_ble_eq_true rfl⟩) (va_recv hK hP (ci := 1) (q0 := 7) rfl rfl) hP hD (hK.sub [0, 2] rfl) hA [7, 8, 9, 10] [0, 1, 2, 3, 4, 5, 6] [0, 1, 2, 3, 4, 5, 6, 7, 8, 9, 10] rfl rfl rfl rfl rfl (by decide) rfl rfl rfl hl.1 rfl (Nat.le_of_ble_eq_true rfl) dL_law_1379 (show cells + 1 ≤ 650192 by omega) (show slots + 6 ≤ 7145529 by omega) hS (fun H locs hP hS => ?_)
    have hD : va_D (lA s) (lw cI cJ ad o (nI N) (nI (m_n g0 N)) (nI (m_tn g0 g1 g2 N)) pa pe f0 f1 f2 f3 f4 fo ++ mw cI cZ ad2 1 (nI N) pa pe g0 g1 g2) := q_Dc (L := [ad 0, ad 1, ad 2, ad 3, ad 4, ad 5, o, ad2 0, ad2 1, ad2 2, ad2 3]) hD rfl rfl
    refine lv_istore (lv' := [(6, .int 0), (5, .int 1), (4, .int (nI i)), (3, .ref o), (2, .ref (ad2 0)), (1, .ref (ad 0)), (0, .ref b)]) hx hb dL_law_1382 hl (by decide) rfl (fun ls hl => ?_)
    refine lv_aload_n hx hb dL_law_1384 rfl (lv_at hl 4 rfl) ?_
    refine q_callV (As := []) (rest := []) ⟨hx, hb, hml, hown, hts⟩ (c_X1_thrown l D cI cZ ad2 1 N pa pe g0 g1 g2 (by omega)) (cwV 0 hts gL_law_X1_thrown rfl rfl rfl kv_X1_thrown ⟨Nat.le_of_ble_eq_true rfl, Nat.le_of_ble_eq_true rfl⟩) (va_recv hK hP (ci := 1) (q0 := 7) rfl rfl) (hP.sub [7, 8, 9, 10] rfl) (hK.sub [0, 2] rfl) rfl hl.1 rfl (Nat.le_of_ble_eq_true rfl) dL_law_1385 (show cells + 1 ≤ 650192 by omega) (show slots + 6 ≤ 7145529 by omega) hS (fun H locs hsm hS => ?_)
    have hP := hsm.P hP
    refine lv_iload hx hb dL_law_1388 (lv_at hl 1 rfl) ?_
    refine lv_icmp_eq (tgt := 1395) hx hb dL_law_1390 (by decide) (fun _ => ?_) (fun h9 => absurd rfl h9)
    refine lv_iload hx hb dL_law_1395 (lv_at hl 1 rfl) ?_
    refine lv_if_ne (tgt := 1412) hx hb dL_law_1397 (by decide) (fun _ => ?_) (fun h9 => absurd h9 (by decide))
    refine lv_goto (tgt := 1808) hx hb dL_law_1412 (by decide) ?_
    refine W.widen (k := cells + 24) (n := slots + 125) (by omega) (by omega) ?_
    exact kk _ _ _ _ _ _ _ _ _ _ _ _ _ _ _ H locs ls (h) (r) hP hD hS (lv_sub hl [2, 3, 4, 5, 6] rfl)
  | true =>
    obtain ⟨k, hk, rfl⟩ := in_place1 ht hm
    have hi9 := place_in ht hk
    refine lv_aload_n hx hb dL_law_1359 rfl (lv_at hl 3 rfl) ?_
    refine l_arg (k := 1) hx hb hX hbl hS (by omega) hL rfl e1 (lv_at hl 4 rfl) (lv_at hl 0 rfl) dL_law_1360 dL_law_1361 dL_law_1363 dL_law_1364 dL_law_1365 ?_
    refine lv_aload_n hx hb dL_law_1366 rfl (lv_at hl 1 rfl) ?_
    refine l_callI (As := [.ref (ad 0), .int (nI k), .ref o]) (rest := []) (Wr := [(ad2 0, .inr (1, [.int th, .int (nI N), .int pa, .int pe, .ref (ad2 1), .ref (ad2 2), .ref (ad2 3)])), (ad2 1, .inl (cI, 25, .inl g0)), (ad2 2, .inl (cI, 25, .inl g1)), (ad2 3, .inl (cZ, 25, .inl g2))]) (W2 := (lw cI cJ ad o (nI N) (nI (m_n g0 N)) (nI (m_tn g0 g1 g2 N)) pa pe f0 f1 f2 f3 f4 (vp_updL fo 0 (((x_wt f4 (nI k) (m_n g0 N))).toInt64)) ++ [(ad2 0, .inr (1, [.int th, .int (nI N), .int pa, .int pe, .ref (ad2 1), .ref (ad2 2), .ref (ad2 3)])), (ad2 1, .inl (cI, 25, .inl g0)), (ad2 2, .inl (cI, 25, .inl g1)), (ad2 3, .inl (cZ, 25, .inl g2))])) ⟨hx, hb, hml, hown, hts⟩ (c_L_lengthOf l D cI cJ ad o (nI N) (m_n g0 N) (nI (m_tn g0 g1 g2 N)) pa pe f0 f1 f2 f3 f4 (nI k) hi9.1 hi9.2 hn fo) (vx_cwSW 3 hts gL_law_L_lengthOf rfl rfl rfl kq_L_lengthOf ⟨Nat.le_of_ble_eq_true rfl, Nat.le_of_ble_eq_true rfl⟩) hP hD (hK.sub [0, 1] rfl) hA [0, 1, 2, 3, 4, 5, 6] [7, 8, 9, 10] [4, 5, 6, 7, 8, 9, 10, 0, 1, 2, 3] rfl rfl rfl rfl rfl (by decide) rfl rfl rfl hl.1 rfl (Nat.le_of_ble_eq_true rfl) dL_law_1367 (show cells ≤ 650192 by omega) (show slots ≤ 7145529 by omega) hS (fun H locs hP hS => ?_)
    have hD : va_D (lA s) (lw cI cJ ad o (nI N) (nI (m_n g0 N)) (nI (m_tn g0 g1 g2 N)) pa pe f0 f1 f2 f3 f4 (vp_updL fo 0 (((x_wt f4 (nI k) (m_n g0 N))).toInt64)) ++ [(ad2 0, .inr (1, [.int th, .int (nI N), .int pa, .int pe, .ref (ad2 1), .ref (ad2 2), .ref (ad2 3)])), (ad2 1, .inl (cI, 25, .inl g0)), (ad2 2, .inl (cI, 25, .inl g1)), (ad2 3, .inl (cZ, 25, .inl g2))]) := q_Dc (L := [ad 0, ad 1, ad 2, ad 3, ad 4, ad 5, o, ad2 0, ad2 1, ad2 2, ad2 3]) hD rfl rfl
    refine lv_istore (lv' := [(5, .int 0), (4, .int (nI i)), (3, .ref o), (2, .ref (ad2 0)), (1, .ref (ad 0)), (0, .ref b)]) hx hb dL_law_1370 hl (by decide) rfl (fun ls hl => ?_)
    refine lv_aload_n hx hb dL_law_1372 rfl (lv_at hl 3 rfl) ?_
    refine l_arg (k := 1) hx hb hX hbl hS (by omega) hL rfl e1 (lv_at hl 5 rfl) (lv_at hl 1 rfl) dL_law_1373 dL_law_1374 dL_law_1376 dL_law_1377 dL_law_1378 ?_
    refine m_callVI (As := [.int (nI k)]) (rest := []) (Wr := (lw cI cJ ad o (nI N) (nI (m_n g0 N)) (nI (m_tn g0 g1 g2 N)) pa pe f0 f1 f2 f3 f4 (vp_updL fo 0 (((x_wt f4 (nI k) (m_n g0 N))).toInt64)))) (W2 := (lw cI cJ ad o (nI N) (nI (m_n g0 N)) (nI (m_tn g0 g1 g2 N)) pa pe f0 f1 f2 f3 f4 (vp_updL fo 0 (((x_wt f4 (nI k) (m_n g0 N))).toInt64)) ++ mw cI cZ ad2 0 (nI N) pa pe g0 g1 g2)) ⟨hx, hb, hml, hown, hts⟩ (c_X1_lengthOf_ok l D cI cZ ad2 th N pa pe g0 g1 g2 hN (nI k) hm) (cwV 1 hts gL_law_X1_lengthOf rfl rfl rfl kv_X1_lengthOf ⟨Nat.le_of_ble_eq_true rfl, Nat.le_of_ble_eq_true rfl⟩) (va_recv hK hP (ci := 1) (q0 := 7) rfl rfl) hP hD (hK.sub [0, 2] rfl) hA [7, 8, 9, 10] [0, 1, 2, 3, 4, 5, 6] [0, 1, 2, 3, 4, 5, 6, 7, 8, 9, 10] rfl rfl rfl rfl rfl (by decide) rfl rfl rfl hl.1 rfl (Nat.le_of_ble_eq_true rfl) dL_law_1379 (show cells ≤ 650192 by omega) (show slots ≤ 7145529 by omega) hS (fun H locs hP hS => ?_)
    have hD : va_D (lA s) (lw cI cJ ad o (nI N) (nI (m_n g0 N)) (nI (m_tn g0 g1 g2 N)) pa pe f0 f1 f2 f3 f4 (vp_updL fo 0 (((x_wt f4 (nI k) (m_n g0 N))).toInt64)) ++ mw cI cZ ad2 0 (nI N) pa pe g0 g1 g2) := q_Dc (L := [ad 0, ad 1, ad 2, ad 3, ad 4, ad 5, o, ad2 0, ad2 1, ad2 2, ad2 3]) hD rfl rfl
    refine lv_istore (lv' := [(6, .int (nI (m_ln g0 g1 g2 N (nI k)))), (5, .int 0), (4, .int (nI i)), (3, .ref o), (2, .ref (ad2 0)), (1, .ref (ad 0)), (0, .ref b)]) hx hb dL_law_1382 hl (by decide) rfl (fun ls hl => ?_)
    refine lv_aload_n hx hb dL_law_1384 rfl (lv_at hl 4 rfl) ?_
    refine q_callV (As := []) (rest := []) ⟨hx, hb, hml, hown, hts⟩ (c_X1_thrown l D cI cZ ad2 0 N pa pe g0 g1 g2 (by omega)) (cwV 0 hts gL_law_X1_thrown rfl rfl rfl kv_X1_thrown ⟨Nat.le_of_ble_eq_true rfl, Nat.le_of_ble_eq_true rfl⟩) (va_recv hK hP (ci := 1) (q0 := 7) rfl rfl) (hP.sub [7, 8, 9, 10] rfl) (hK.sub [0, 2] rfl) rfl hl.1 rfl (Nat.le_of_ble_eq_true rfl) dL_law_1385 (show cells ≤ 650192 by omega) (show slots ≤ 7145529 by omega) hS (fun H locs hsm hS => ?_)
    have hP := hsm.P hP
    refine lv_iload hx hb dL_law_1388 (lv_at hl 1 rfl) ?_
    refine lv_icmp_eq (tgt := 1395) hx hb dL_law_1390 (by decide) (fun _ => ?_) (fun h9 => absurd rfl h9)
    refine lv_iload hx hb dL_law_1395 (lv_at hl 1 rfl) ?_
    refine lv_if_ne (tgt := 1412) hx hb dL_law_1397 (by decide) (fun h9 => absurd (by decide) h9) (fun _ => ?_)
    refine lv_aload_n hx hb dL_law_1400 rfl (lv_at hl 3 rfl) ?_
    refine lv_iconst (v := 0) hx hb dL_law_1401 (by decide) ?_
    refine va_lald hx hb hK hP 6 1 rfl rfl (vp_in_nI (n := 0) (by decide) (by decide)) dL_law_1402 ?_
    rw [upd0]
    refine lv_iload hx hb dL_law_1403 (lv_at hl 0 rfl) ?_
    refine lv_i2l (v := ((nI (m_ln g0 g1 g2 N (nI k)))).toInt64) hx hb dL_law_1405 rfl ?_
    refine l_lcmp0 hx hb (by rw [r.wt hN]) dL_law_1406 ?_
    refine lv_if_eq (tgt := 1412) hx hb dL_law_1407 (by decide) (fun _ => ?_) (fun h9 => absurd rfl h9)
    refine lv_goto (tgt := 1808) hx hb dL_law_1412 (by decide) ?_
    refine W.widen (k := cells + 24) (n := slots + 125) (by omega) (by omega) ?_
    exact kk _ _ _ _ _ _ _ _ _ _ _ _ _ _ _ H locs ls (h) (r) hP hD hS (lv_sub hl [2, 3, 4, 5, 6] rfl)

set_option maxHeartbeats 4000000 in
set_option maxRecDepth 100000 in
theorem law_topicsIn {p : Program} {l : Launch} {e : Env} {s : State} {m : MethodId} {args : Array Value} {below : List Frame} {meth : Method} {c : Code} {b L : Nat} {xs : Nat → Int32} {D : va_G} {cI cJ cZ : ClassId} {sa ad ad2 : Nat → Nat} {o cells slots i : Nat} {Q : State → Prop}
    (C : law_C p l s m c args b L xs D cI cJ cZ sa) (kk : law_K p l e s m args below meth c b D cI cJ cZ ad ad2 o cells slots Q i) {N : Nat} {w t pa pe : Int32} {f0 f1 f2 f3 f4 : Nat → Int32} {fo : Nat → Int64} {th : Int32} {g0 g1 g2 : Nat → Int32} {H : Heap} {locs : List Loc} {ls : Array Slot}
    (h : Ra N f0 f1 f2 g0 g1 g2) (r : Rw N f3 f4 g0 g1 g2 w t) (hP : va_P D vwCl (lW cI cJ cZ ad ad2 o (nI N) w t pa pe f0 f1 f2 f3 f4 fo th g0 g1 g2) H) (hD : va_D (lA s) (lW cI cJ cZ ad ad2 o (nI N) w t pa pe f0 f1 f2 f3 f4 fo th g0 g1 g2)) (hS : va_S (lA s) s.heap H locs) (hl : lv_has ls 9 (law_L b ad ad2 o i))
    (hi : i + 2 < L) (hc : cells + 24 ≤ 650192) (hs : slots + 125 ≤ 7145529) : W p l e room_1 s m args below meth c H locs cells slots Q (F0 m 1484 ls []) := by
  obtain ⟨hx, hb, hml, hown, hts, hX, hbl, hK, hZ, hN9, hst, hL⟩ := C
  have ew := r.ww
  have et := r.tt
  subst ew
  subst et
  have q := r.rp
  have hN := h.n
  have hn : m_n g0 N ≤ 24 := Nat.le_trans (m_n_le g0 N) hN
  have ht : m_tn g0 g1 g2 N ≤ 24 := by
    have h9 := m_ab_lt (g0 := g0) (g1 := g1) (g2 := g2) hN
    unfold m_tn
    split <;> omega
  have hA : ∀ q : Nat, s.heap.size ≤ q → lA s q := fun _ h => h
  obtain ⟨x1, e1⟩ : ∃ x1, xs (i + 1) = x1 := ⟨_, rfl⟩
  obtain ⟨x2, e2⟩ : ∃ x2, xs (i + 2) = x2 := ⟨_, rfl⟩
  have hl : lv_has ls 9 [(4, .int (nI i)), (3, .ref o), (2, .ref (ad2 0)), (1, .ref (ad 0)), (0, .ref b)] := hl
  cases hm : m_in x1 0 (nI (m_tn g0 g1 g2 N) - 1) with
  | false =>
    refine lv_aload_n hx hb dL_law_1484 rfl (lv_at hl 3 rfl) ?_
    refine l_arg (k := 1) hx hb hX hbl hS (by omega) hL rfl e1 (lv_at hl 4 rfl) (lv_at hl 0 rfl) dL_law_1485 dL_law_1486 dL_law_1488 dL_law_1489 dL_law_1490 ?_
    refine lv_aload_n hx hb dL_law_1491 rfl (lv_at hl 1 rfl) ?_
    refine l_callE (As := [.ref (ad 0), .int x1, .ref o]) (rest := []) ⟨hx, hb, hml, hown, hts⟩ (t_L_topicsIn_1 l D sa hst cI cJ ad o (nI N) (m_n g0 N) (nI (m_tn g0 g1 g2 N)) pa pe f0 f1 f2 f3 f4 x1 (in_place0 ht hm) hn fo) (vx_cwSW 3 hts gL_law_L_topicsIn rfl rfl rfl kq_L_topicsIn ⟨Nat.le_of_ble_eq_true rfl, Nat.le_of_ble_eq_true rfl⟩) (hP.sub [0, 1, 2, 3, 4, 5, 6] rfl) (hK.sub [0, 1] rfl) (hZ.kept fun a ha => hS.2.1 a ha (Nat.not_le.mpr ha)) hN9 rfl hl.1 rfl (Nat.le_of_ble_eq_true rfl) dL_law_1492 (show cells + 1 ≤ 650192 by omega) (show slots + 6 ≤ 7145529 by omega) hS (fun H locs hsm hS => ?_)
    have hP := hsm.P hP
    refine lv_istore (lv' := [(5, .int 1), (4, .int (nI i)), (3, .ref o), (2, .ref (ad2 0)), (1, .ref (ad 0)), (0, .ref b)]) hx hb dL_law_1495 hl (by decide) rfl (fun ls hl => ?_)
    refine lv_aload_n hx hb dL_law_1497 rfl (lv_at hl 3 rfl) ?_
    refine l_arg (k := 1) hx hb hX hbl hS (by omega) hL rfl e1 (lv_at hl 5 rfl) (lv_at hl 1 rfl) dL_law_1498 dL_law_1499 dL_law_1501 dL_law_1502 dL_law_1503 ?_
    refine m_callVI (As := [.int x1]) (rest := []) (Wr := (lw cI cJ ad o (nI N) (nI (m_n g0 N)) (nI (m_tn g0 g1 g2 N)) pa pe f0 f1 f2 f3 f4 fo)) (W2 := (lw cI cJ ad o (nI N) (nI (m_n g0 N)) (nI (m_tn g0 g1 g2 N)) pa pe f0 f1 f2 f3 f4 fo ++ mw cI cZ ad2 1 (nI N) pa pe g0 g1 g2)) ⟨hx, hb, hml, hown, hts⟩ (c_X1_topicsIn_1 l D cI cZ ad2 th N pa pe g0 g1 g2 hN x1 hm) (cwV 1 hts gL_law_X1_topicsIn rfl rfl rfl kv_X1_topicsIn ⟨Nat.le_of_ble_eq_true rfl, Nat.le_of_ble_eq_true rfl⟩) (va_recv hK hP (ci := 1) (q0 := 7) rfl rfl) hP hD (hK.sub [0, 2] rfl) hA [7, 8, 9, 10] [0, 1, 2, 3, 4, 5, 6] [0, 1, 2, 3, 4, 5, 6, 7, 8, 9, 10] rfl rfl rfl rfl rfl (by decide) rfl rfl rfl hl.1 rfl (Nat.le_of_ble_eq_true rfl) dL_law_1504 (show cells + 1 ≤ 650192 by omega) (show slots + 6 ≤ 7145529 by omega) hS (fun H locs hP hS => ?_)
    have hD : va_D (lA s) (lw cI cJ ad o (nI N) (nI (m_n g0 N)) (nI (m_tn g0 g1 g2 N)) pa pe f0 f1 f2 f3 f4 fo ++ mw cI cZ ad2 1 (nI N) pa pe g0 g1 g2) := q_Dc (L := [ad 0, ad 1, ad 2, ad 3, ad 4, ad 5, o, ad2 0, ad2 1, ad2 2, ad2 3]) hD rfl rfl
    refine lv_istore (lv' := [(6, .int 0), (5, .int 1), (4, .int (nI i)), (3, .ref o), (2, .ref (ad2 0)), (1, .ref (ad 0)), (0, .ref b)]) hx hb dL_law_1507 hl (by decide) rfl (fun ls hl => ?_)
    refine lv_aload_n hx hb dL_law_1509 rfl (lv_at hl 4 rfl) ?_
    refine q_callV (As := []) (rest := []) ⟨hx, hb, hml, hown, hts⟩ (c_X1_thrown l D cI cZ ad2 1 N pa pe g0 g1 g2 (by omega)) (cwV 0 hts gL_law_X1_thrown rfl rfl rfl kv_X1_thrown ⟨Nat.le_of_ble_eq_true rfl, Nat.le_of_ble_eq_true rfl⟩) (va_recv hK hP (ci := 1) (q0 := 7) rfl rfl) (hP.sub [7, 8, 9, 10] rfl) (hK.sub [0, 2] rfl) rfl hl.1 rfl (Nat.le_of_ble_eq_true rfl) dL_law_1510 (show cells + 1 ≤ 650192 by omega) (show slots + 6 ≤ 7145529 by omega) hS (fun H locs hsm hS => ?_)
    have hP := hsm.P hP
    refine lv_iload hx hb dL_law_1513 (lv_at hl 1 rfl) ?_
    refine lv_icmp_eq (tgt := 1520) hx hb dL_law_1515 (by decide) (fun _ => ?_) (fun h9 => absurd rfl h9)
    refine lv_iload hx hb dL_law_1520 (lv_at hl 1 rfl) ?_
    refine lv_if_ne (tgt := 1537) hx hb dL_law_1522 (by decide) (fun _ => ?_) (fun h9 => absurd h9 (by decide))
    refine lv_goto (tgt := 1808) hx hb dL_law_1537 (by decide) ?_
    refine W.widen (k := cells + 24) (n := slots + 125) (by omega) (by omega) ?_
    exact kk _ _ _ _ _ _ _ _ _ _ _ _ _ _ _ H locs ls (h) (r) hP hD hS (lv_sub hl [2, 3, 4, 5, 6] rfl)
  | true =>
    obtain ⟨k, hk, rfl⟩ := in_place1 ht hm
    have hi9 := place_in ht hk
    refine lv_aload_n hx hb dL_law_1484 rfl (lv_at hl 3 rfl) ?_
    refine l_arg (k := 1) hx hb hX hbl hS (by omega) hL rfl e1 (lv_at hl 4 rfl) (lv_at hl 0 rfl) dL_law_1485 dL_law_1486 dL_law_1488 dL_law_1489 dL_law_1490 ?_
    refine lv_aload_n hx hb dL_law_1491 rfl (lv_at hl 1 rfl) ?_
    refine l_callI (As := [.ref (ad 0), .int (nI k), .ref o]) (rest := []) (Wr := [(ad2 0, .inr (1, [.int th, .int (nI N), .int pa, .int pe, .ref (ad2 1), .ref (ad2 2), .ref (ad2 3)])), (ad2 1, .inl (cI, 25, .inl g0)), (ad2 2, .inl (cI, 25, .inl g1)), (ad2 3, .inl (cZ, 25, .inl g2))]) (W2 := (lw cI cJ ad o (nI N) (nI (m_n g0 N)) (nI (m_tn g0 g1 g2 N)) pa pe f0 f1 f2 f3 f4 (vp_updL fo 0 (((i_bits (x_tm f1 f3 f4 (nI k) (m_n g0 N)))).toInt64)) ++ [(ad2 0, .inr (1, [.int th, .int (nI N), .int pa, .int pe, .ref (ad2 1), .ref (ad2 2), .ref (ad2 3)])), (ad2 1, .inl (cI, 25, .inl g0)), (ad2 2, .inl (cI, 25, .inl g1)), (ad2 3, .inl (cZ, 25, .inl g2))])) ⟨hx, hb, hml, hown, hts⟩ (c_L_topicsIn l D cI cJ ad o (nI N) (m_n g0 N) (nI (m_tn g0 g1 g2 N)) pa pe f0 f1 f2 f3 f4 (nI k) hi9.1 hi9.2 hn fo) (vx_cwSW 3 hts gL_law_L_topicsIn rfl rfl rfl kq_L_topicsIn ⟨Nat.le_of_ble_eq_true rfl, Nat.le_of_ble_eq_true rfl⟩) hP hD (hK.sub [0, 1] rfl) hA [0, 1, 2, 3, 4, 5, 6] [7, 8, 9, 10] [4, 5, 6, 7, 8, 9, 10, 0, 1, 2, 3] rfl rfl rfl rfl rfl (by decide) rfl rfl rfl hl.1 rfl (Nat.le_of_ble_eq_true rfl) dL_law_1492 (show cells ≤ 650192 by omega) (show slots ≤ 7145529 by omega) hS (fun H locs hP hS => ?_)
    have hD : va_D (lA s) (lw cI cJ ad o (nI N) (nI (m_n g0 N)) (nI (m_tn g0 g1 g2 N)) pa pe f0 f1 f2 f3 f4 (vp_updL fo 0 (((i_bits (x_tm f1 f3 f4 (nI k) (m_n g0 N)))).toInt64)) ++ [(ad2 0, .inr (1, [.int th, .int (nI N), .int pa, .int pe, .ref (ad2 1), .ref (ad2 2), .ref (ad2 3)])), (ad2 1, .inl (cI, 25, .inl g0)), (ad2 2, .inl (cI, 25, .inl g1)), (ad2 3, .inl (cZ, 25, .inl g2))]) := q_Dc (L := [ad 0, ad 1, ad 2, ad 3, ad 4, ad 5, o, ad2 0, ad2 1, ad2 2, ad2 3]) hD rfl rfl
    refine lv_istore (lv' := [(5, .int 0), (4, .int (nI i)), (3, .ref o), (2, .ref (ad2 0)), (1, .ref (ad 0)), (0, .ref b)]) hx hb dL_law_1495 hl (by decide) rfl (fun ls hl => ?_)
    refine lv_aload_n hx hb dL_law_1497 rfl (lv_at hl 3 rfl) ?_
    refine l_arg (k := 1) hx hb hX hbl hS (by omega) hL rfl e1 (lv_at hl 5 rfl) (lv_at hl 1 rfl) dL_law_1498 dL_law_1499 dL_law_1501 dL_law_1502 dL_law_1503 ?_
    refine m_callVI (As := [.int (nI k)]) (rest := []) (Wr := (lw cI cJ ad o (nI N) (nI (m_n g0 N)) (nI (m_tn g0 g1 g2 N)) pa pe f0 f1 f2 f3 f4 (vp_updL fo 0 (((i_bits (x_tm f1 f3 f4 (nI k) (m_n g0 N)))).toInt64)))) (W2 := (lw cI cJ ad o (nI N) (nI (m_n g0 N)) (nI (m_tn g0 g1 g2 N)) pa pe f0 f1 f2 f3 f4 (vp_updL fo 0 (((i_bits (x_tm f1 f3 f4 (nI k) (m_n g0 N)))).toInt64)) ++ mw cI cZ ad2 0 (nI N) pa pe g0 g1 g2)) ⟨hx, hb, hml, hown, hts⟩ (c_X1_topicsIn_ok l D cI cZ ad2 th N pa pe g0 g1 g2 hN (nI k) hm h.hT) (cwV 1 hts gL_law_X1_topicsIn rfl rfl rfl kv_X1_topicsIn ⟨Nat.le_of_ble_eq_true rfl, Nat.le_of_ble_eq_true rfl⟩) (va_recv hK hP (ci := 1) (q0 := 7) rfl rfl) hP hD (hK.sub [0, 2] rfl) hA [7, 8, 9, 10] [0, 1, 2, 3, 4, 5, 6] [0, 1, 2, 3, 4, 5, 6, 7, 8, 9, 10] rfl rfl rfl rfl rfl (by decide) rfl rfl rfl hl.1 rfl (Nat.le_of_ble_eq_true rfl) dL_law_1504 (show cells ≤ 650192 by omega) (show slots ≤ 7145529 by omega) hS (fun H locs hP hS => ?_)
    have hD : va_D (lA s) (lw cI cJ ad o (nI N) (nI (m_n g0 N)) (nI (m_tn g0 g1 g2 N)) pa pe f0 f1 f2 f3 f4 (vp_updL fo 0 (((i_bits (x_tm f1 f3 f4 (nI k) (m_n g0 N)))).toInt64)) ++ mw cI cZ ad2 0 (nI N) pa pe g0 g1 g2) := q_Dc (L := [ad 0, ad 1, ad 2, ad 3, ad 4, ad 5, o, ad2 0, ad2 1, ad2 2, ad2 3]) hD rfl rfl
    refine lv_istore (lv' := [(6, .int (nI (pcn (m_tq g0 g1 g2 N (nI k) (m_n g0 N))))), (5, .int 0), (4, .int (nI i)), (3, .ref o), (2, .ref (ad2 0)), (1, .ref (ad 0)), (0, .ref b)]) hx hb dL_law_1507 hl (by decide) rfl (fun ls hl => ?_)
    refine lv_aload_n hx hb dL_law_1509 rfl (lv_at hl 4 rfl) ?_
    refine q_callV (As := []) (rest := []) ⟨hx, hb, hml, hown, hts⟩ (c_X1_thrown l D cI cZ ad2 0 N pa pe g0 g1 g2 (by omega)) (cwV 0 hts gL_law_X1_thrown rfl rfl rfl kv_X1_thrown ⟨Nat.le_of_ble_eq_true rfl, Nat.le_of_ble_eq_true rfl⟩) (va_recv hK hP (ci := 1) (q0 := 7) rfl rfl) (hP.sub [7, 8, 9, 10] rfl) (hK.sub [0, 2] rfl) rfl hl.1 rfl (Nat.le_of_ble_eq_true rfl) dL_law_1510 (show cells ≤ 650192 by omega) (show slots ≤ 7145529 by omega) hS (fun H locs hsm hS => ?_)
    have hP := hsm.P hP
    refine lv_iload hx hb dL_law_1513 (lv_at hl 1 rfl) ?_
    refine lv_icmp_eq (tgt := 1520) hx hb dL_law_1515 (by decide) (fun _ => ?_) (fun h9 => absurd rfl h9)
    refine lv_iload hx hb dL_law_1520 (lv_at hl 1 rfl) ?_
    refine lv_if_ne (tgt := 1537) hx hb dL_law_1522 (by decide) (fun h9 => absurd (by decide) h9) (fun _ => ?_)
    refine lv_aload_n hx hb dL_law_1525 rfl (lv_at hl 3 rfl) ?_
    refine lv_iconst (v := 0) hx hb dL_law_1526 (by decide) ?_
    refine va_lald hx hb hK hP 6 1 rfl rfl (vp_in_nI (n := 0) (by decide) (by decide)) dL_law_1527 ?_
    rw [upd0]
    refine lv_iload hx hb dL_law_1528 (lv_at hl 0 rfl) ?_
    refine lv_i2l (v := ((nI (pcn (m_tq g0 g1 g2 N (nI k) (m_n g0 N))))).toInt64) hx hb dL_law_1530 rfl ?_
    refine l_lcmp0 hx hb (by rw [h.tq r]) dL_law_1531 ?_
    refine lv_if_eq (tgt := 1537) hx hb dL_law_1532 (by decide) (fun _ => ?_) (fun h9 => absurd rfl h9)
    refine lv_goto (tgt := 1808) hx hb dL_law_1537 (by decide) ?_
    refine W.widen (k := cells + 24) (n := slots + 125) (by omega) (by omega) ?_
    exact kk _ _ _ _ _ _ _ _ _ _ _ _ _ _ _ H locs ls (h) (r) hP hD hS (lv_sub hl [2, 3, 4, 5, 6] rfl)
