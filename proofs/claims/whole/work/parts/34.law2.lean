/-! own rows, written by wip/whole/law.py: the law's turns that only read, two more -/
set_option maxHeartbeats 4000000 in
set_option maxRecDepth 100000 in
theorem law_wouldBreak {p : Program} {l : Launch} {e : Env} {s : State} {m : MethodId} {args : Array Value} {below : List Frame} {meth : Method} {c : Code} {b L : Nat} {xs : Nat → Int32} {D : va_G} {cI cJ cZ : ClassId} {sa ad ad2 : Nat → Nat} {o cells slots i : Nat} {Q : State → Prop}
    (C : law_C p l s m c args b L xs D cI cJ cZ sa) (kk : law_K p l e s m args below meth c b D cI cJ cZ ad ad2 o cells slots Q i) {N : Nat} {w t pa pe : Int32} {f0 f1 f2 f3 f4 : Nat → Int32} {fo : Nat → Int64} {th : Int32} {g0 g1 g2 : Nat → Int32} {H : Heap} {locs : List Loc} {ls : Array Slot}
    (h : Ra N f0 f1 f2 g0 g1 g2) (r : Rw N f3 f4 g0 g1 g2 w t) (hP : va_P D vwCl (lW cI cJ cZ ad ad2 o (nI N) w t pa pe f0 f1 f2 f3 f4 fo th g0 g1 g2) H) (hD : va_D (lA s) (lW cI cJ cZ ad ad2 o (nI N) w t pa pe f0 f1 f2 f3 f4 fo th g0 g1 g2)) (hS : va_S (lA s) s.heap H locs) (hl : lv_has ls 9 (law_L b ad ad2 o i))
    (hi : i + 2 < L) (hc : cells + 24 ≤ 650192) (hs : slots + 125 ≤ 7145529) : W p l e room_1 s m args below meth c H locs cells slots Q (F0 m 1678 ls []) := by
  obtain ⟨hx, hb, hml, hown, hts, hX, hbl, hK, hZ, hN9, hst, hL⟩ := C
  have ew := r.ww
  have et := r.tt
  subst ew
  subst et
  have q := r.rp
  have hN := h.n
  have hn : m_n g0 N ≤ 24 := Nat.le_trans (m_n_le g0 N) hN
  have ht : m_tn g0 g1 g2 N ≤ 24 := by
    have h9 := m_ab_lt (g0 := g0) (g1 := g1) (g2 := g2) hN
    unfold m_tn
    split <;> omega
  have hA : ∀ q : Nat, s.heap.size ≤ q → lA s q := fun _ h => h
  obtain ⟨x1, e1⟩ : ∃ x1, xs (i + 1) = x1 := ⟨_, rfl⟩
  obtain ⟨x2, e2⟩ : ∃ x2, xs (i + 2) = x2 := ⟨_, rfl⟩
  have hl : lv_has ls 9 [(4, .int (nI i)), (3, .ref o), (2, .ref (ad2 0)), (1, .ref (ad 0)), (0, .ref b)] := hl
  cases hm : m_in x1 0 5 with
  | false =>
    refine lv_aload_n hx hb dL_law_1678 rfl (lv_at hl 3 rfl) ?_
    refine l_arg (k := 1) hx hb hX hbl hS (by omega) hL rfl e1 (lv_at hl 4 rfl) (lv_at hl 0 rfl) dL_law_1679 dL_law_1680 dL_law_1682 dL_law_1683 dL_law_1684 ?_
    refine l_arg (k := 2) hx hb hX hbl hS (by omega) hL rfl e2 (lv_at hl 4 rfl) (lv_at hl 0 rfl) dL_law_1685 dL_law_1686 dL_law_1688 dL_law_1689 dL_law_1690 ?_
    refine lv_aload_n hx hb dL_law_1691 rfl (lv_at hl 1 rfl) ?_
    refine l_callE (As := [.ref (ad 0), .int x1, .int x2, .ref o]) (rest := []) ⟨hx, hb, hml, hown, hts⟩ (t_L_wouldBreak_1 l D sa hst cI cJ ad o (nI N) (nI (m_n g0 N)) (nI (m_tn g0 g1 g2 N)) pa pe f0 f1 f2 f3 f4 x1 x2 (in_sp0 hm) fo) (vx_cwSW 4 hts gL_law_L_wouldBreak rfl rfl rfl kq_L_wouldBreak ⟨Nat.le_of_ble_eq_true rfl, Nat.le_of_ble_eq_true rfl⟩) (hP.sub [0, 1, 2, 3, 4, 5, 6] rfl) (hK.sub [0, 1] rfl) (hZ.kept fun a ha => hS.2.1 a ha (Nat.not_le.mpr ha)) hN9 rfl hl.1 rfl (Nat.le_of_ble_eq_true rfl) dL_law_1692 (show cells + 1 ≤ 650192 by omega) (show slots + 6 ≤ 7145529 by omega) hS (fun H locs hsm hS => ?_)
    have hP := hsm.P hP
    refine lv_istore (lv' := [(5, .int 1), (4, .int (nI i)), (3, .ref o), (2, .ref (ad2 0)), (1, .ref (ad 0)), (0, .ref b)]) hx hb dL_law_1695 hl (by decide) rfl (fun ls hl => ?_)
    refine lv_aload_n hx hb dL_law_1697 rfl (lv_at hl 3 rfl) ?_
    refine l_arg (k := 1) hx hb hX hbl hS (by omega) hL rfl e1 (lv_at hl 5 rfl) (lv_at hl 1 rfl) dL_law_1698 dL_law_1699 dL_law_1701 dL_law_1702 dL_law_1703 ?_
    refine l_arg (k := 2) hx hb hX hbl hS (by omega) hL rfl e2 (lv_at hl 5 rfl) (lv_at hl 1 rfl) dL_law_1704 dL_law_1705 dL_law_1707 dL_law_1708 dL_law_1709 ?_
    refine m_callVI (As := [.int x1, .int x2]) (rest := []) (Wr := (lw cI cJ ad o (nI N) (nI (m_n g0 N)) (nI (m_tn g0 g1 g2 N)) pa pe f0 f1 f2 f3 f4 fo)) (W2 := (lw cI cJ ad o (nI N) (nI (m_n g0 N)) (nI (m_tn g0 g1 g2 N)) pa pe f0 f1 f2 f3 f4 fo ++ mw cI cZ ad2 1 (nI N) pa pe g0 g1 g2)) ⟨hx, hb, hml, hown, hts⟩ (c_X1_wouldBreak_1 l D cI cZ ad2 th N pa pe g0 g1 g2 hN x1 x2 hm) (cwV 2 hts gL_law_X1_wouldBreak rfl rfl rfl kv_X1_wouldBreak ⟨Nat.le_of_ble_eq_true rfl, Nat.le_of_ble_eq_true rfl⟩) (va_recv hK hP (ci := 1) (q0 := 7) rfl rfl) hP hD (hK.sub [0, 2] rfl) hA [7, 8, 9, 10] [0, 1, 2, 3, 4, 5, 6] [0, 1, 2, 3, 4, 5, 6, 7, 8, 9, 10] rfl rfl rfl rfl rfl (by decide) rfl rfl rfl hl.1 rfl (Nat.le_of_ble_eq_true rfl) dL_law_1710 (show cells + 1 ≤ 650192 by omega) (show slots + 6 ≤ 7145529 by omega) hS (fun H locs hP hS => ?_)
    have hD : va_D (lA s) (lw cI cJ ad o (nI N) (nI (m_n g0 N)) (nI (m_tn g0 g1 g2 N)) pa pe f0 f1 f2 f3 f4 fo ++ mw cI cZ ad2 1 (nI N) pa pe g0 g1 g2) := q_Dc (L := [ad 0, ad 1, ad 2, ad 3, ad 4, ad 5, o, ad2 0, ad2 1, ad2 2, ad2 3]) hD rfl rfl
    refine lv_istore (lv' := [(6, .int 0), (5, .int 1), (4, .int (nI i)), (3, .ref o), (2, .ref (ad2 0)), (1, .ref (ad 0)), (0, .ref b)]) hx hb dL_law_1713 hl (by decide) rfl (fun ls hl => ?_)
    refine lv_aload_n hx hb dL_law_1715 rfl (lv_at hl 4 rfl) ?_
    refine q_callV (As := []) (rest := []) ⟨hx, hb, hml, hown, hts⟩ (c_X1_thrown l D cI cZ ad2 1 N pa pe g0 g1 g2 (by omega)) (cwV 0 hts gL_law_X1_thrown rfl rfl rfl kv_X1_thrown ⟨Nat.le_of_ble_eq_true rfl, Nat.le_of_ble_eq_true rfl⟩) (va_recv hK hP (ci := 1) (q0 := 7) rfl rfl) (hP.sub [7, 8, 9, 10] rfl) (hK.sub [0, 2] rfl) rfl hl.1 rfl (Nat.le_of_ble_eq_true rfl) dL_law_1716 (show cells + 1 ≤ 650192 by omega) (show slots + 6 ≤ 7145529 by omega) hS (fun H locs hsm hS => ?_)
    have hP := hsm.P hP
    refine lv_iload hx hb dL_law_1719 (lv_at hl 1 rfl) ?_
    refine lv_icmp_eq (tgt := 1726) hx hb dL_law_1721 (by decide) (fun _ => ?_) (fun h9 => absurd rfl h9)
    refine lv_iload hx hb dL_law_1726 (lv_at hl 1 rfl) ?_
    refine lv_if_ne (tgt := 1750) hx hb dL_law_1728 (by decide) (fun _ => ?_) (fun h9 => absurd h9 (by decide))
    refine lv_goto (tgt := 1808) hx hb dL_law_1750 (by decide) ?_
    refine W.widen (k := cells + 24) (n := slots + 125) (by omega) (by omega) ?_
    exact kk _ _ _ _ _ _ _ _ _ _ _ _ _ _ _ H locs ls (h) (r) hP hD hS (lv_sub hl [2, 3, 4, 5, 6] rfl)
  | true =>
    have hi9 := in_sp1 hm
    cases hm2 : m_in x2 0 9 with
    | false =>
      refine lv_aload_n hx hb dL_law_1678 rfl (lv_at hl 3 rfl) ?_
      refine l_arg (k := 1) hx hb hX hbl hS (by omega) hL rfl e1 (lv_at hl 4 rfl) (lv_at hl 0 rfl) dL_law_1679 dL_law_1680 dL_law_1682 dL_law_1683 dL_law_1684 ?_
      refine l_arg (k := 2) hx hb hX hbl hS (by omega) hL rfl e2 (lv_at hl 4 rfl) (lv_at hl 0 rfl) dL_law_1685 dL_law_1686 dL_law_1688 dL_law_1689 dL_law_1690 ?_
      refine lv_aload_n hx hb dL_law_1691 rfl (lv_at hl 1 rfl) ?_
      refine l_callE (As := [.ref (ad 0), .int x1, .int x2, .ref o]) (rest := []) ⟨hx, hb, hml, hown, hts⟩ (t_L_wouldBreak_2 l D sa hst cI cJ ad o (nI N) (nI (m_n g0 N)) (nI (m_tn g0 g1 g2 N)) pa pe f0 f1 f2 f3 f4 x1 x2 hi9.1 hi9.2 (in_tp0 hm2) fo) (vx_cwSW 4 hts gL_law_L_wouldBreak rfl rfl rfl kq_L_wouldBreak ⟨Nat.le_of_ble_eq_true rfl, Nat.le_of_ble_eq_true rfl⟩) (hP.sub [0, 1, 2, 3, 4, 5, 6] rfl) (hK.sub [0, 1] rfl) (hZ.kept fun a ha => hS.2.1 a ha (Nat.not_le.mpr ha)) hN9 rfl hl.1 rfl (Nat.le_of_ble_eq_true rfl) dL_law_1692 (show cells + 1 ≤ 650192 by omega) (show slots + 6 ≤ 7145529 by omega) hS (fun H locs hsm hS => ?_)
      have hP := hsm.P hP
      refine lv_istore (lv' := [(5, .int 2), (4, .int (nI i)), (3, .ref o), (2, .ref (ad2 0)), (1, .ref (ad 0)), (0, .ref b)]) hx hb dL_law_1695 hl (by decide) rfl (fun ls hl => ?_)
      refine lv_aload_n hx hb dL_law_1697 rfl (lv_at hl 3 rfl) ?_
      refine l_arg (k := 1) hx hb hX hbl hS (by omega) hL rfl e1 (lv_at hl 5 rfl) (lv_at hl 1 rfl) dL_law_1698 dL_law_1699 dL_law_1701 dL_law_1702 dL_law_1703 ?_
      refine l_arg (k := 2) hx hb hX hbl hS (by omega) hL rfl e2 (lv_at hl 5 rfl) (lv_at hl 1 rfl) dL_law_1704 dL_law_1705 dL_law_1707 dL_law_1708 dL_law_1709 ?_
      refine m_callVI (As := [.int x1, .int x2]) (rest := []) (Wr := (lw cI cJ ad o (nI N) (nI (m_n g0 N)) (nI (m_tn g0 g1 g2 N)) pa pe f0 f1 f2 f3 f4 fo)) (W2 := (lw cI cJ ad o (nI N) (nI (m_n g0 N)) (nI (m_tn g0 g1 g2 N)) pa pe f0 f1 f2 f3 f4 fo ++ mw cI cZ ad2 2 (nI N) pa pe g0 g1 g2)) ⟨hx, hb, hml, hown, hts⟩ (c_X1_wouldBreak_2 l D cI cZ ad2 th N pa pe g0 g1 g2 hN x1 x2 hm hm2) (cwV 2 hts gL_law_X1_wouldBreak rfl rfl rfl kv_X1_wouldBreak ⟨Nat.le_of_ble_eq_true rfl, Nat.le_of_ble_eq_true rfl⟩) (va_recv hK hP (ci := 1) (q0 := 7) rfl rfl) hP hD (hK.sub [0, 2] rfl) hA [7, 8, 9, 10] [0, 1, 2, 3, 4, 5, 6] [0, 1, 2, 3, 4, 5, 6, 7, 8, 9, 10] rfl rfl rfl rfl rfl (by decide) rfl rfl rfl hl.1 rfl (Nat.le_of_ble_eq_true rfl) dL_law_1710 (show cells + 1 ≤ 650192 by omega) (show slots + 6 ≤ 7145529 by omega) hS (fun H locs hP hS => ?_)
      have hD : va_D (lA s) (lw cI cJ ad o (nI N) (nI (m_n g0 N)) (nI (m_tn g0 g1 g2 N)) pa pe f0 f1 f2 f3 f4 fo ++ mw cI cZ ad2 2 (nI N) pa pe g0 g1 g2) := q_Dc (L := [ad 0, ad 1, ad 2, ad 3, ad 4, ad 5, o, ad2 0, ad2 1, ad2 2, ad2 3]) hD rfl rfl
      refine lv_istore (lv' := [(6, .int 0), (5, .int 2), (4, .int (nI i)), (3, .ref o), (2, .ref (ad2 0)), (1, .ref (ad 0)), (0, .ref b)]) hx hb dL_law_1713 hl (by decide) rfl (fun ls hl => ?_)
      refine lv_aload_n hx hb dL_law_1715 rfl (lv_at hl 4 rfl) ?_
      refine q_callV (As := []) (rest := []) ⟨hx, hb, hml, hown, hts⟩ (c_X1_thrown l D cI cZ ad2 2 N pa pe g0 g1 g2 (by omega)) (cwV 0 hts gL_law_X1_thrown rfl rfl rfl kv_X1_thrown ⟨Nat.le_of_ble_eq_true rfl, Nat.le_of_ble_eq_true rfl⟩) (va_recv hK hP (ci := 1) (q0 := 7) rfl rfl) (hP.sub [7, 8, 9, 10] rfl) (hK.sub [0, 2] rfl) rfl hl.1 rfl (Nat.le_of_ble_eq_true rfl) dL_law_1716 (show cells + 1 ≤ 650192 by omega) (show slots + 6 ≤ 7145529 by omega) hS (fun H locs hsm hS => ?_)
      have hP := hsm.P hP
      refine lv_iload hx hb dL_law_1719 (lv_at hl 1 rfl) ?_
      refine lv_icmp_eq (tgt := 1726) hx hb dL_law_1721 (by decide) (fun _ => ?_) (fun h9 => absurd rfl h9)
      refine lv_iload hx hb dL_law_1726 (lv_at hl 1 rfl) ?_
      refine lv_if_ne (tgt := 1750) hx hb dL_law_1728 (by decide) (fun _ => ?_) (fun h9 => absurd h9 (by decide))
      refine lv_goto (tgt := 1808) hx hb dL_law_1750 (by decide) ?_
      refine W.widen (k := cells + 24) (n := slots + 125) (by omega) (by omega) ?_
      exact kk _ _ _ _ _ _ _ _ _ _ _ _ _ _ _ H locs ls (h) (r) hP hD hS (lv_sub hl [2, 3, 4, 5, 6] rfl)
    | true =>
      have hj9 := in_tp1 hm2
      refine lv_aload_n hx hb dL_law_1678 rfl (lv_at hl 3 rfl) ?_
      refine l_arg (k := 1) hx hb hX hbl hS (by omega) hL rfl e1 (lv_at hl 4 rfl) (lv_at hl 0 rfl) dL_law_1679 dL_law_1680 dL_law_1682 dL_law_1683 dL_law_1684 ?_
      refine l_arg (k := 2) hx hb hX hbl hS (by omega) hL rfl e2 (lv_at hl 4 rfl) (lv_at hl 0 rfl) dL_law_1685 dL_law_1686 dL_law_1688 dL_law_1689 dL_law_1690 ?_
      refine lv_aload_n hx hb dL_law_1691 rfl (lv_at hl 1 rfl) ?_
      refine l_callI (As := [.ref (ad 0), .int x1, .int x2, .ref o]) (rest := []) (Wr := [(ad2 0, .inr (1, [.int th, .int (nI N), .int pa, .int pe, .ref (ad2 1), .ref (ad2 2), .ref (ad2 3)])), (ad2 1, .inl (cI, 25, .inl g0)), (ad2 2, .inl (cI, 25, .inl g1)), (ad2 3, .inl (cZ, 25, .inl g2))]) (W2 := (lw cI cJ ad o (nI N) (nI (m_n g0 N)) (nI (m_tn g0 g1 g2 N)) pa pe f0 f1 f2 f3 f4 (vp_updL fo 0 (bL (x_wb f0 f1 f3 (nI N) (nI (m_n g0 N)) x1 x2))) ++ [(ad2 0, .inr (1, [.int th, .int (nI N), .int pa, .int pe, .ref (ad2 1), .ref (ad2 2), .ref (ad2 3)])), (ad2 1, .inl (cI, 25, .inl g0)), (ad2 2, .inl (cI, 25, .inl g1)), (ad2 3, .inl (cZ, 25, .inl g2))])) ⟨hx, hb, hml, hown, hts⟩ (c_L_wouldBreak l D cI cJ ad o (nI N) (nI (m_n g0 N)) (nI (m_tn g0 g1 g2 N)) pa pe f0 f1 f2 f3 f4 x1 x2 hi9.1 hi9.2 hj9.1 hj9.2 fo) (vx_cwSW 4 hts gL_law_L_wouldBreak rfl rfl rfl kq_L_wouldBreak ⟨Nat.le_of_ble_eq_true rfl, Nat.le_of_ble_eq_true rfl⟩) hP hD (hK.sub [0, 1] rfl) hA [0, 1, 2, 3, 4, 5, 6] [7, 8, 9, 10] [4, 5, 6, 7, 8, 9, 10, 0, 1, 2, 3] rfl rfl rfl rfl rfl (by decide) rfl rfl rfl hl.1 rfl (Nat.le_of_ble_eq_true rfl) dL_law_1692 (show cells ≤ 650192 by omega) (show slots ≤ 7145529 by omega) hS (fun H locs hP hS => ?_)
      have hD : va_D (lA s) (lw cI cJ ad o (nI N) (nI (m_n g0 N)) (nI (m_tn g0 g1 g2 N)) pa pe f0 f1 f2 f3 f4 (vp_updL fo 0 (bL (x_wb f0 f1 f3 (nI N) (nI (m_n g0 N)) x1 x2))) ++ [(ad2 0, .inr (1, [.int th, .int (nI N), .int pa, .int pe, .ref (ad2 1), .ref (ad2 2), .ref (ad2 3)])), (ad2 1, .inl (cI, 25, .inl g0)), (ad2 2, .inl (cI, 25, .inl g1)), (ad2 3, .inl (cZ, 25, .inl g2))]) := q_Dc (L := [ad 0, ad 1, ad 2, ad 3, ad 4, ad 5, o, ad2 0, ad2 1, ad2 2, ad2 3]) hD rfl rfl
      refine lv_istore (lv' := [(5, .int 0), (4, .int (nI i)), (3, .ref o), (2, .ref (ad2 0)), (1, .ref (ad 0)), (0, .ref b)]) hx hb dL_law_1695 hl (by decide) rfl (fun ls hl => ?_)
      refine lv_aload_n hx hb dL_law_1697 rfl (lv_at hl 3 rfl) ?_
      refine l_arg (k := 1) hx hb hX hbl hS (by omega) hL rfl e1 (lv_at hl 5 rfl) (lv_at hl 1 rfl) dL_law_1698 dL_law_1699 dL_law_1701 dL_law_1702 dL_law_1703 ?_
      refine l_arg (k := 2) hx hb hX hbl hS (by omega) hL rfl e2 (lv_at hl 5 rfl) (lv_at hl 1 rfl) dL_law_1704 dL_law_1705 dL_law_1707 dL_law_1708 dL_law_1709 ?_
      refine m_callVI (As := [.int x1, .int x2]) (rest := []) (Wr := (lw cI cJ ad o (nI N) (nI (m_n g0 N)) (nI (m_tn g0 g1 g2 N)) pa pe f0 f1 f2 f3 f4 (vp_updL fo 0 (bL (x_wb f0 f1 f3 (nI N) (nI (m_n g0 N)) x1 x2))))) (W2 := (lw cI cJ ad o (nI N) (nI (m_n g0 N)) (nI (m_tn g0 g1 g2 N)) pa pe f0 f1 f2 f3 f4 (vp_updL fo 0 (bL (x_wb f0 f1 f3 (nI N) (nI (m_n g0 N)) x1 x2))) ++ mw cI cZ ad2 0 (nI N) pa pe g0 g1 g2)) ⟨hx, hb, hml, hown, hts⟩ (c_X1_wouldBreak_ok l D cI cZ ad2 th N pa pe g0 g1 g2 hN x1 x2 hm hm2) (cwV 2 hts gL_law_X1_wouldBreak rfl rfl rfl kv_X1_wouldBreak ⟨Nat.le_of_ble_eq_true rfl, Nat.le_of_ble_eq_true rfl⟩) (va_recv hK hP (ci := 1) (q0 := 7) rfl rfl) hP hD (hK.sub [0, 2] rfl) hA [7, 8, 9, 10] [0, 1, 2, 3, 4, 5, 6] [0, 1, 2, 3, 4, 5, 6, 7, 8, 9, 10] rfl rfl rfl rfl rfl (by decide) rfl rfl rfl hl.1 rfl (Nat.le_of_ble_eq_true rfl) dL_law_1710 (show cells ≤ 650192 by omega) (show slots ≤ 7145529 by omega) hS (fun H locs hP hS => ?_)
      have hD : va_D (lA s) (lw cI cJ ad o (nI N) (nI (m_n g0 N)) (nI (m_tn g0 g1 g2 N)) pa pe f0 f1 f2 f3 f4 (vp_updL fo 0 (bL (x_wb f0 f1 f3 (nI N) (nI (m_n g0 N)) x1 x2))) ++ mw cI cZ ad2 0 (nI N) pa pe g0 g1 g2) := q_Dc (L := [ad 0, ad 1, ad 2, ad 3, ad 4, ad 5, o, ad2 0, ad2 1, ad2 2, ad2 3]) hD rfl rfl
      refine lv_istore (lv' := [(6, .int (bI (m_wb g0 g1 N x1 x2))), (5, .int 0), (4, .int (nI i)), (3, .ref o), (2, .ref (ad2 0)), (1, .ref (ad 0)), (0, .ref b)]) hx hb dL_law_1713 hl (by decide) rfl (fun ls hl => ?_)
      refine lv_aload_n hx hb dL_law_1715 rfl (lv_at hl 4 rfl) ?_
      refine q_callV (As := []) (rest := []) ⟨hx, hb, hml, hown, hts⟩ (c_X1_thrown l D cI cZ ad2 0 N pa pe g0 g1 g2 (by omega)) (cwV 0 hts gL_law_X1_thrown rfl rfl rfl kv_X1_thrown ⟨Nat.le_of_ble_eq_true rfl, Nat.le_of_ble_eq_true rfl⟩) (va_recv hK hP (ci := 1) (q0 := 7) rfl rfl) (hP.sub [7, 8, 9, 10] rfl) (hK.sub [0, 2] rfl) rfl hl.1 rfl (Nat.le_of_ble_eq_true rfl) dL_law_1716 (show cells ≤ 650192 by omega) (show slots ≤ 7145529 by omega) hS (fun H locs hsm hS => ?_)
      have hP := hsm.P hP
      refine lv_iload hx hb dL_law_1719 (lv_at hl 1 rfl) ?_
      refine lv_icmp_eq (tgt := 1726) hx hb dL_law_1721 (by decide) (fun _ => ?_) (fun h9 => absurd rfl h9)
      refine lv_iload hx hb dL_law_1726 (lv_at hl 1 rfl) ?_
      refine lv_if_ne (tgt := 1750) hx hb dL_law_1728 (by decide) (fun h9 => absurd (by decide) h9) (fun _ => ?_)
      refine lv_aload_n hx hb dL_law_1731 rfl (lv_at hl 3 rfl) ?_
      refine lv_iconst (v := 0) hx hb dL_law_1732 (by decide) ?_
      refine va_lald hx hb hK hP 6 1 rfl rfl (vp_in_nI (n := 0) (by decide) (by decide)) dL_law_1733 ?_
      rw [upd0]
      refine lv_iload hx hb dL_law_1734 (lv_at hl 0 rfl) ?_
      suffices K : ∀ v9 : Int64, v9 = bL (m_wb g0 g1 N x1 x2) → W p l e room_1 s m args below meth c H locs (cells) (slots) Q (F0 m 1744 ls [.long v9, .long (bL (x_wb f0 f1 f3 (nI N) (nI (m_n g0 N)) x1 x2))]) from by
        refine lv_if_eq (tgt := 1743) hx hb dL_law_1736 (by decide) (fun h9 => ?_) (fun h9 => ?_)
        · refine lv_lconst (v := 0) hx hb dL_law_1743 (by decide) ?_
          exact K _ (by rw [bI_0.mp h9]; rfl)
        · refine lv_lconst (v := 1) hx hb dL_law_1739 (by decide) ?_
          refine lv_goto (tgt := 1744) hx hb dL_law_1740 (by decide) ?_
          exact K _ (by rw [bI_n0.mp h9]; rfl)
      intro v9 hv9
      refine l_lcmp0 hx hb (by rw [hv9, h.wb q x1 x2]) dL_law_1744 ?_
      refine lv_if_eq (tgt := 1750) hx hb dL_law_1745 (by decide) (fun _ => ?_) (fun h9 => absurd rfl h9)
      refine lv_goto (tgt := 1808) hx hb dL_law_1750 (by decide) ?_
      refine W.widen (k := cells + 24) (n := slots + 125) (by omega) (by omega) ?_
      exact kk _ _ _ _ _ _ _ _ _ _ _ _ _ _ _ H locs ls (h) (r) hP hD hS (lv_sub hl [2, 3, 4, 5, 6] rfl)

set_option maxHeartbeats 4000000 in
set_option maxRecDepth 100000 in
theorem law_brokenAfterSplice {p : Program} {l : Launch} {e : Env} {s : State} {m : MethodId} {args : Array Value} {below : List Frame} {meth : Method} {c : Code} {b L : Nat} {xs : Nat → Int32} {D : va_G} {cI cJ cZ : ClassId} {sa ad ad2 : Nat → Nat} {o cells slots i : Nat} {Q : State → Prop}
    (C : law_C p l s m c args b L xs D cI cJ cZ sa) (kk : law_K p l e s m args below meth c b D cI cJ cZ ad ad2 o cells slots Q i) {N : Nat} {w t pa pe : Int32} {f0 f1 f2 f3 f4 : Nat → Int32} {fo : Nat → Int64} {th : Int32} {g0 g1 g2 : Nat → Int32} {H : Heap} {locs : List Loc} {ls : Array Slot}
    (h : Ra N f0 f1 f2 g0 g1 g2) (r : Rw N f3 f4 g0 g1 g2 w t) (hP : va_P D vwCl (lW cI cJ cZ ad ad2 o (nI N) w t pa pe f0 f1 f2 f3 f4 fo th g0 g1 g2) H) (hD : va_D (lA s) (lW cI cJ cZ ad ad2 o (nI N) w t pa pe f0 f1 f2 f3 f4 fo th g0 g1 g2)) (hS : va_S (lA s) s.heap H locs) (hl : lv_has ls 9 (law_L b ad ad2 o i))
    (hi : i + 2 < L) (hc : cells + 24 ≤ 650192) (hs : slots + 125 ≤ 7145529) : W p l e room_1 s m args below meth c H locs cells slots Q (F0 m 1609 ls []) := by
  obtain ⟨hx, hb, hml, hown, hts, hX, hbl, hK, hZ, hN9, hst, hL⟩ := C
  have ew := r.ww
  have et := r.tt
  subst ew
  subst et
  have q := r.rp
  have hN := h.n
  have hn : m_n g0 N ≤ 24 := Nat.le_trans (m_n_le g0 N) hN
  have ht : m_tn g0 g1 g2 N ≤ 24 := by
    have h9 := m_ab_lt (g0 := g0) (g1 := g1) (g2 := g2) hN
    unfold m_tn
    split <;> omega
  have hA : ∀ q : Nat, s.heap.size ≤ q → lA s q := fun _ h => h
  obtain ⟨x1, e1⟩ : ∃ x1, xs (i + 1) = x1 := ⟨_, rfl⟩
  obtain ⟨x2, e2⟩ : ∃ x2, xs (i + 2) = x2 := ⟨_, rfl⟩
  have hl : lv_has ls 9 [(4, .int (nI i)), (3, .ref o), (2, .ref (ad2 0)), (1, .ref (ad 0)), (0, .ref b)] := hl
  cases hm : m_in x1 0 (nI (m_n g0 N) - 2) with
  | false =>
    refine lv_aload_n hx hb dL_law_1609 rfl (lv_at hl 3 rfl) ?_
    refine l_arg (k := 1) hx hb hX hbl hS (by omega) hL rfl e1 (lv_at hl 4 rfl) (lv_at hl 0 rfl) dL_law_1610 dL_law_1611 dL_law_1613 dL_law_1614 dL_law_1615 ?_
    refine lv_aload_n hx hb dL_law_1616 rfl (lv_at hl 1 rfl) ?_
    refine l_callE (As := [.ref (ad 0), .int x1, .ref o]) (rest := []) ⟨hx, hb, hml, hown, hts⟩ (t_L_brokenAfterSplice_1 l D sa hst cI cJ ad o (nI N) (m_n g0 N) (nI (m_tn g0 g1 g2 N)) pa pe f0 f1 f2 f3 f4 x1 (in_gap0 hn hm) hn fo) (vx_cwSW 3 hts gL_law_L_brokenAfterSplice rfl rfl rfl kq_L_brokenAfterSplice ⟨Nat.le_of_ble_eq_true rfl, Nat.le_of_ble_eq_true rfl⟩) (hP.sub [0, 1, 2, 3, 4, 5, 6] rfl) (hK.sub [0, 1] rfl) (hZ.kept fun a ha => hS.2.1 a ha (Nat.not_le.mpr ha)) hN9 rfl hl.1 rfl (Nat.le_of_ble_eq_true rfl) dL_law_1617 (show cells + 1 ≤ 650192 by omega) (show slots + 6 ≤ 7145529 by omega) hS (fun H locs hsm hS => ?_)
    have hP := hsm.P hP
    refine lv_istore (lv' := [(5, .int 1), (4, .int (nI i)), (3, .ref o), (2, .ref (ad2 0)), (1, .ref (ad 0)), (0, .ref b)]) hx hb dL_law_1620 hl (by decide) rfl (fun ls hl => ?_)
    refine lv_aload_n hx hb dL_law_1622 rfl (lv_at hl 3 rfl) ?_
    refine l_arg (k := 1) hx hb hX hbl hS (by omega) hL rfl e1 (lv_at hl 5 rfl) (lv_at hl 1 rfl) dL_law_1623 dL_law_1624 dL_law_1626 dL_law_1627 dL_law_1628 ?_
    refine m_callVI (As := [.int x1]) (rest := []) (Wr := (lw cI cJ ad o (nI N) (nI (m_n g0 N)) (nI (m_tn g0 g1 g2 N)) pa pe f0 f1 f2 f3 f4 fo)) (W2 := (lw cI cJ ad o (nI N) (nI (m_n g0 N)) (nI (m_tn g0 g1 g2 N)) pa pe f0 f1 f2 f3 f4 fo ++ mw cI cZ ad2 1 (nI N) pa pe g0 g1 g2)) ⟨hx, hb, hml, hown, hts⟩ (c_X1_brokenAfterSplice_1 l D cI cZ ad2 th N pa pe g0 g1 g2 hN x1 hm) (cwV 1 hts gL_law_X1_brokenAfterSplice rfl rfl rfl kv_X1_brokenAfterSplice ⟨Nat.le_of_ble_eq_true rfl, Nat.le_of_ble_eq_true rfl⟩) (va_recv hK hP (ci := 1) (q0 := 7) rfl rfl) hP hD (hK.sub [0, 2] rfl) hA [7, 8, 9, 10] [0, 1, 2, 3, 4, 5, 6] [0, 1, 2, 3, 4, 5, 6, 7, 8, 9, 10] rfl rfl rfl rfl rfl (by decide) rfl rfl rfl hl.1 rfl (Nat.le_of_ble_eq_true rfl) dL_law_1629 (show cells + 1 ≤ 650192 by omega) (show slots + 6 ≤ 7145529 by omega) hS (fun H locs hP hS => ?_)
    have hD : va_D (lA s) (lw cI cJ ad o (nI N) (nI (m_n g0 N)) (nI (m_tn g0 g1 g2 N)) pa pe f0 f1 f2 f3 f4 fo ++ mw cI cZ ad2 1 (nI N) pa pe g0 g1 g2) := q_Dc (L := [ad 0, ad 1, ad 2, ad 3, ad 4, ad 5, o, ad2 0, ad2 1, ad2 2, ad2 3]) hD rfl rfl
    refine lv_istore (lv' := [(6, .int 0), (5, .int 1), (4, .int (nI i)), (3, .ref o), (2, .ref (ad2 0)), (1, .ref (ad 0)), (0, .ref b)]) hx hb dL_law_1632 hl (by decide) rfl (fun ls hl => ?_)
    refine lv_aload_n hx hb dL_law_1634 rfl (lv_at hl 4 rfl) ?_
    refine q_callV (As := []) (rest := []) ⟨hx, hb, hml, hown, hts⟩ (c_X1_thrown l D cI cZ ad2 1 N pa pe g0 g1 g2 (by omega)) (cwV 0 hts gL_law_X1_thrown rfl rfl rfl kv_X1_thrown ⟨Nat.le_of_ble_eq_true rfl, Nat.le_of_ble_eq_true rfl⟩) (va_recv hK hP (ci := 1) (q0 := 7) rfl rfl) (hP.sub [7, 8, 9, 10] rfl) (hK.sub [0, 2] rfl) rfl hl.1 rfl (Nat.le_of_ble_eq_true rfl) dL_law_1635 (show cells + 1 ≤ 650192 by omega) (show slots + 6 ≤ 7145529 by omega) hS (fun H locs hsm hS => ?_)
    have hP := hsm.P hP
    refine lv_iload hx hb dL_law_1638 (lv_at hl 1 rfl) ?_
    refine lv_icmp_eq (tgt := 1645) hx hb dL_law_1640 (by decide) (fun _ => ?_) (fun h9 => absurd rfl h9)
    refine lv_iload hx hb dL_law_1645 (lv_at hl 1 rfl) ?_
    refine lv_if_ne (tgt := 1662) hx hb dL_law_1647 (by decide) (fun _ => ?_) (fun h9 => absurd h9 (by decide))
    refine lv_goto (tgt := 1808) hx hb dL_law_1662 (by decide) ?_
    refine W.widen (k := cells + 24) (n := slots + 125) (by omega) (by omega) ?_
    exact kk _ _ _ _ _ _ _ _ _ _ _ _ _ _ _ H locs ls (h) (r) hP hD hS (lv_sub hl [2, 3, 4, 5, 6] rfl)
  | true =>
    obtain ⟨g, hg, rfl⟩ := in_gap1 hn hm
    have hi9 := gap_in hn hg
    by_cases hz : g2 (m_P g0 N g) = 0
    · refine lv_aload_n hx hb dL_law_1609 rfl (lv_at hl 3 rfl) ?_
      refine l_arg (k := 1) hx hb hX hbl hS (by omega) hL rfl e1 (lv_at hl 4 rfl) (lv_at hl 0 rfl) dL_law_1610 dL_law_1611 dL_law_1613 dL_law_1614 dL_law_1615 ?_
      refine lv_aload_n hx hb dL_law_1616 rfl (lv_at hl 1 rfl) ?_
      refine l_callI (As := [.ref (ad 0), .int (nI g), .ref o]) (rest := []) (Wr := [(ad2 0, .inr (1, [.int th, .int (nI N), .int pa, .int pe, .ref (ad2 1), .ref (ad2 2), .ref (ad2 3)])), (ad2 1, .inl (cI, 25, .inl g0)), (ad2 2, .inl (cI, 25, .inl g1)), (ad2 3, .inl (cZ, 25, .inl g2))]) (W2 := (lw cI cJ ad o (nI N) (nI (m_n g0 N)) (nI (m_tn g0 g1 g2 N)) pa pe f0 f1 f2 f3 f4 (vp_updL fo 0 (((x_gk f0 f1 f2 f3 2 (m_n g0 N) + x_bc f0 f1 f2 f3 (nI g))).toInt64)) ++ [(ad2 0, .inr (1, [.int th, .int (nI N), .int pa, .int pe, .ref (ad2 1), .ref (ad2 2), .ref (ad2 3)])), (ad2 1, .inl (cI, 25, .inl g0)), (ad2 2, .inl (cI, 25, .inl g1)), (ad2 3, .inl (cZ, 25, .inl g2))])) ⟨hx, hb, hml, hown, hts⟩ (c_L_brokenAfterSplice l D cI cJ ad o (nI N) (m_n g0 N) (nI (m_tn g0 g1 g2 N)) pa pe f0 f1 f2 f3 f4 (nI g) hi9.1 hi9.2 (h.ti0 q (by omega) hz) hn fo) (vx_cwSW 3 hts gL_law_L_brokenAfterSplice rfl rfl rfl kq_L_brokenAfterSplice ⟨Nat.le_of_ble_eq_true rfl, Nat.le_of_ble_eq_true rfl⟩) hP hD (hK.sub [0, 1] rfl) hA [0, 1, 2, 3, 4, 5, 6] [7, 8, 9, 10] [4, 5, 6, 7, 8, 9, 10, 0, 1, 2, 3] rfl rfl rfl rfl rfl (by decide) rfl rfl rfl hl.1 rfl (Nat.le_of_ble_eq_true rfl) dL_law_1617 (show cells ≤ 650192 by omega) (show slots ≤ 7145529 by omega) hS (fun H locs hP hS => ?_)
      have hD : va_D (lA s) (lw cI cJ ad o (nI N) (nI (m_n g0 N)) (nI (m_tn g0 g1 g2 N)) pa pe f0 f1 f2 f3 f4 (vp_updL fo 0 (((x_gk f0 f1 f2 f3 2 (m_n g0 N) + x_bc f0 f1 f2 f3 (nI g))).toInt64)) ++ [(ad2 0, .inr (1, [.int th, .int (nI N), .int pa, .int pe, .ref (ad2 1), .ref (ad2 2), .ref (ad2 3)])), (ad2 1, .inl (cI, 25, .inl g0)), (ad2 2, .inl (cI, 25, .inl g1)), (ad2 3, .inl (cZ, 25, .inl g2))]) := q_Dc (L := [ad 0, ad 1, ad 2, ad 3, ad 4, ad 5, o, ad2 0, ad2 1, ad2 2, ad2 3]) hD rfl rfl
      refine lv_istore (lv' := [(5, .int 0), (4, .int (nI i)), (3, .ref o), (2, .ref (ad2 0)), (1, .ref (ad 0)), (0, .ref b)]) hx hb dL_law_1620 hl (by decide) rfl (fun ls hl => ?_)
      refine lv_aload_n hx hb dL_law_1622 rfl (lv_at hl 3 rfl) ?_
      refine l_arg (k := 1) hx hb hX hbl hS (by omega) hL rfl e1 (lv_at hl 5 rfl) (lv_at hl 1 rfl) dL_law_1623 dL_law_1624 dL_law_1626 dL_law_1627 dL_law_1628 ?_
      refine m_callVI (As := [.int (nI g)]) (rest := []) (Wr := (lw cI cJ ad o (nI N) (nI (m_n g0 N)) (nI (m_tn g0 g1 g2 N)) pa pe f0 f1 f2 f3 f4 (vp_updL fo 0 (((x_gk f0 f1 f2 f3 2 (m_n g0 N) + x_bc f0 f1 f2 f3 (nI g))).toInt64)))) (W2 := (lw cI cJ ad o (nI N) (nI (m_n g0 N)) (nI (m_tn g0 g1 g2 N)) pa pe f0 f1 f2 f3 f4 (vp_updL fo 0 (((x_gk f0 f1 f2 f3 2 (m_n g0 N) + x_bc f0 f1 f2 f3 (nI g))).toInt64)) ++ mw cI cZ ad2 0 (nI N) pa pe g0 g1 g2)) ⟨hx, hb, hml, hown, hts⟩ (c_X1_brokenAfterSplice_ok l D cI cZ ad2 th N pa pe g0 g1 g2 hN g hg hm hz) (cwV 1 hts gL_law_X1_brokenAfterSplice rfl rfl rfl kv_X1_brokenAfterSplice ⟨Nat.le_of_ble_eq_true rfl, Nat.le_of_ble_eq_true rfl⟩) (va_recv hK hP (ci := 1) (q0 := 7) rfl rfl) hP hD (hK.sub [0, 2] rfl) hA [7, 8, 9, 10] [0, 1, 2, 3, 4, 5, 6] [0, 1, 2, 3, 4, 5, 6, 7, 8, 9, 10] rfl rfl rfl rfl rfl (by decide) rfl rfl rfl hl.1 rfl (Nat.le_of_ble_eq_true rfl) dL_law_1629 (show cells ≤ 650192 by omega) (show slots ≤ 7145529 by omega) hS (fun H locs hP hS => ?_)
      have hD : va_D (lA s) (lw cI cJ ad o (nI N) (nI (m_n g0 N)) (nI (m_tn g0 g1 g2 N)) pa pe f0 f1 f2 f3 f4 (vp_updL fo 0 (((x_gk f0 f1 f2 f3 2 (m_n g0 N) + x_bc f0 f1 f2 f3 (nI g))).toInt64)) ++ mw cI cZ ad2 0 (nI N) pa pe g0 g1 g2) := q_Dc (L := [ad 0, ad 1, ad 2, ad 3, ad 4, ad 5, o, ad2 0, ad2 1, ad2 2, ad2 3]) hD rfl rfl
      refine lv_istore (lv' := [(6, .int (m_sp g0 g1 g2 N g)), (5, .int 0), (4, .int (nI i)), (3, .ref o), (2, .ref (ad2 0)), (1, .ref (ad 0)), (0, .ref b)]) hx hb dL_law_1632 hl (by decide) rfl (fun ls hl => ?_)
      refine lv_aload_n hx hb dL_law_1634 rfl (lv_at hl 4 rfl) ?_
      refine q_callV (As := []) (rest := []) ⟨hx, hb, hml, hown, hts⟩ (c_X1_thrown l D cI cZ ad2 0 N pa pe g0 g1 g2 (by omega)) (cwV 0 hts gL_law_X1_thrown rfl rfl rfl kv_X1_thrown ⟨Nat.le_of_ble_eq_true rfl, Nat.le_of_ble_eq_true rfl⟩) (va_recv hK hP (ci := 1) (q0 := 7) rfl rfl) (hP.sub [7, 8, 9, 10] rfl) (hK.sub [0, 2] rfl) rfl hl.1 rfl (Nat.le_of_ble_eq_true rfl) dL_law_1635 (show cells ≤ 650192 by omega) (show slots ≤ 7145529 by omega) hS (fun H locs hsm hS => ?_)
      have hP := hsm.P hP
      refine lv_iload hx hb dL_law_1638 (lv_at hl 1 rfl) ?_
      refine lv_icmp_eq (tgt := 1645) hx hb dL_law_1640 (by decide) (fun _ => ?_) (fun h9 => absurd rfl h9)
      refine lv_iload hx hb dL_law_1645 (lv_at hl 1 rfl) ?_
      refine lv_if_ne (tgt := 1662) hx hb dL_law_1647 (by decide) (fun h9 => absurd (by decide) h9) (fun _ => ?_)
      refine lv_aload_n hx hb dL_law_1650 rfl (lv_at hl 3 rfl) ?_
      refine lv_iconst (v := 0) hx hb dL_law_1651 (by decide) ?_
      refine va_lald hx hb hK hP 6 1 rfl rfl (vp_in_nI (n := 0) (by decide) (by decide)) dL_law_1652 ?_
      rw [upd0]
      refine lv_iload hx hb dL_law_1653 (lv_at hl 0 rfl) ?_
      refine lv_i2l (v := ((m_sp g0 g1 g2 N g)).toInt64) hx hb dL_law_1655 rfl ?_
      refine l_lcmp0 hx hb (by rw [h.sp q hg]) dL_law_1656 ?_
      refine lv_if_eq (tgt := 1662) hx hb dL_law_1657 (by decide) (fun _ => ?_) (fun h9 => absurd rfl h9)
      refine lv_goto (tgt := 1808) hx hb dL_law_1662 (by decide) ?_
      refine W.widen (k := cells + 24) (n := slots + 125) (by omega) (by omega) ?_
      exact kk _ _ _ _ _ _ _ _ _ _ _ _ _ _ _ H locs ls (h) (r) hP hD hS (lv_sub hl [2, 3, 4, 5, 6] rfl)
    · refine lv_aload_n hx hb dL_law_1609 rfl (lv_at hl 3 rfl) ?_
      refine l_arg (k := 1) hx hb hX hbl hS (by omega) hL rfl e1 (lv_at hl 4 rfl) (lv_at hl 0 rfl) dL_law_1610 dL_law_1611 dL_law_1613 dL_law_1614 dL_law_1615 ?_
      refine lv_aload_n hx hb dL_law_1616 rfl (lv_at hl 1 rfl) ?_
      refine l_callE (As := [.ref (ad 0), .int (nI g), .ref o]) (rest := []) ⟨hx, hb, hml, hown, hts⟩ (t_L_brokenAfterSplice_2 l D sa hst cI cJ ad o (nI N) (m_n g0 N) (nI (m_tn g0 g1 g2 N)) pa pe f0 f1 f2 f3 f4 (nI g) hi9.1 hi9.2 (h.ti1 q (by omega) hz) hn fo) (vx_cwSW 3 hts gL_law_L_brokenAfterSplice rfl rfl rfl kq_L_brokenAfterSplice ⟨Nat.le_of_ble_eq_true rfl, Nat.le_of_ble_eq_true rfl⟩) (hP.sub [0, 1, 2, 3, 4, 5, 6] rfl) (hK.sub [0, 1] rfl) (hZ.kept fun a ha => hS.2.1 a ha (Nat.not_le.mpr ha)) hN9 rfl hl.1 rfl (Nat.le_of_ble_eq_true rfl) dL_law_1617 (show cells + 1 ≤ 650192 by omega) (show slots + 6 ≤ 7145529 by omega) hS (fun H locs hsm hS => ?_)
      have hP := hsm.P hP
      refine lv_istore (lv' := [(5, .int 2), (4, .int (nI i)), (3, .ref o), (2, .ref (ad2 0)), (1, .ref (ad 0)), (0, .ref b)]) hx hb dL_law_1620 hl (by decide) rfl (fun ls hl => ?_)
      refine lv_aload_n hx hb dL_law_1622 rfl (lv_at hl 3 rfl) ?_
      refine l_arg (k := 1) hx hb hX hbl hS (by omega) hL rfl e1 (lv_at hl 5 rfl) (lv_at hl 1 rfl) dL_law_1623 dL_law_1624 dL_law_1626 dL_law_1627 dL_law_1628 ?_
      refine m_callVI (As := [.int (nI g)]) (rest := []) (Wr := (lw cI cJ ad o (nI N) (nI (m_n g0 N)) (nI (m_tn g0 g1 g2 N)) pa pe f0 f1 f2 f3 f4 fo)) (W2 := (lw cI cJ ad o (nI N) (nI (m_n g0 N)) (nI (m_tn g0 g1 g2 N)) pa pe f0 f1 f2 f3 f4 fo ++ mw cI cZ ad2 2 (nI N) pa pe g0 g1 g2)) ⟨hx, hb, hml, hown, hts⟩ (c_X1_brokenAfterSplice_2 l D cI cZ ad2 th N pa pe g0 g1 g2 hN g hg hm hz) (cwV 1 hts gL_law_X1_brokenAfterSplice rfl rfl rfl kv_X1_brokenAfterSplice ⟨Nat.le_of_ble_eq_true rfl, Nat.le_of_ble_eq_true rfl⟩) (va_recv hK hP (ci := 1) (q0 := 7) rfl rfl) hP hD (hK.sub [0, 2] rfl) hA [7, 8, 9, 10] [0, 1, 2, 3, 4, 5, 6] [0, 1, 2, 3, 4, 5, 6, 7, 8, 9, 10] rfl rfl rfl rfl rfl (by decide) rfl rfl rfl hl.1 rfl (Nat.le_of_ble_eq_true rfl) dL_law_1629 (show cells + 1 ≤ 650192 by omega) (show slots + 6 ≤ 7145529 by omega) hS (fun H locs hP hS => ?_)
      have hD : va_D (lA s) (lw cI cJ ad o (nI N) (nI (m_n g0 N)) (nI (m_tn g0 g1 g2 N)) pa pe f0 f1 f2 f3 f4 fo ++ mw cI cZ ad2 2 (nI N) pa pe g0 g1 g2) := q_Dc (L := [ad 0, ad 1, ad 2, ad 3, ad 4, ad 5, o, ad2 0, ad2 1, ad2 2, ad2 3]) hD rfl rfl
      refine lv_istore (lv' := [(6, .int 0), (5, .int 2), (4, .int (nI i)), (3, .ref o), (2, .ref (ad2 0)), (1, .ref (ad 0)), (0, .ref b)]) hx hb dL_law_1632 hl (by decide) rfl (fun ls hl => ?_)
      refine lv_aload_n hx hb dL_law_1634 rfl (lv_at hl 4 rfl) ?_
      refine q_callV (As := []) (rest := []) ⟨hx, hb, hml, hown, hts⟩ (c_X1_thrown l D cI cZ ad2 2 N pa pe g0 g1 g2 (by omega)) (cwV 0 hts gL_law_X1_thrown rfl rfl rfl kv_X1_thrown ⟨Nat.le_of_ble_eq_true rfl, Nat.le_of_ble_eq_true rfl⟩) (va_recv hK hP (ci := 1) (q0 := 7) rfl rfl) (hP.sub [7, 8, 9, 10] rfl) (hK.sub [0, 2] rfl) rfl hl.1 rfl (Nat.le_of_ble_eq_true rfl) dL_law_1635 (show cells + 1 ≤ 650192 by omega) (show slots + 6 ≤ 7145529 by omega) hS (fun H locs hsm hS => ?_)
      have hP := hsm.P hP
      refine lv_iload hx hb dL_law_1638 (lv_at hl 1 rfl) ?_
      refine lv_icmp_eq (tgt := 1645) hx hb dL_law_1640 (by decide) (fun _ => ?_) (fun h9 => absurd rfl h9)
      refine lv_iload hx hb dL_law_1645 (lv_at hl 1 rfl) ?_
      refine lv_if_ne (tgt := 1662) hx hb dL_law_1647 (by decide) (fun _ => ?_) (fun h9 => absurd h9 (by decide))
      refine lv_goto (tgt := 1808) hx hb dL_law_1662 (by decide) ?_
      refine W.widen (k := cells + 24) (n := slots + 125) (by omega) (by omega) ?_
      exact kk _ _ _ _ _ _ _ _ _ _ _ _ _ _ _ H locs ls (h) (r) hP hD hS (lv_sub hl [2, 3, 4, 5, 6] rfl)
