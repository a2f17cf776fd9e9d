/-! own rows, written by wip/whole/law.py: the law's turns that only read, without an argument -/
set_option maxHeartbeats 4000000 in
set_option maxRecDepth 100000 in
theorem law_remarks {p : Program} {l : Launch} {e : Env} {s : State} {m : MethodId} {args : Array Value} {below : List Frame} {meth : Method} {c : Code} {b L : Nat} {xs : Nat → Int32} {D : va_G} {cI cJ cZ : ClassId} {sa ad ad2 : Nat → Nat} {o cells slots i : Nat} {Q : State → Prop}
    (C : law_C p l s m c args b L xs D cI cJ cZ sa) (kk : law_K p l e s m args below meth c b D cI cJ cZ ad ad2 o cells slots Q i) {N : Nat} {w t pa pe : Int32} {f0 f1 f2 f3 f4 : Nat → Int32} {fo : Nat → Int64} {th : Int32} {g0 g1 g2 : Nat → Int32} {H : Heap} {locs : List Loc} {ls : Array Slot}
    (h : Ra N f0 f1 f2 g0 g1 g2) (r : Rw N f3 f4 g0 g1 g2 w t) (hP : va_P D vwCl (lW cI cJ cZ ad ad2 o (nI N) w t pa pe f0 f1 f2 f3 f4 fo th g0 g1 g2) H) (hD : va_D (lA s) (lW cI cJ cZ ad ad2 o (nI N) w t pa pe f0 f1 f2 f3 f4 fo th g0 g1 g2)) (hS : va_S (lA s) s.heap H locs) (hl : lv_has ls 9 (law_L b ad ad2 o i))
    (hi : i + 2 < L) (hc : cells + 24 ≤ 650192) (hs : slots + 125 ≤ 7145529) : W p l e room_1 s m args below meth c H locs cells slots Q (F0 m 548 ls []) := by
  obtain ⟨hx, hb, hml, hown, hts, hX, hbl, hK, hZ, hN9, hst, hL⟩ := C
  have ew := r.ww
  have et := r.tt
  subst ew
  subst et
  have q := r.rp
  have hN := h.n
  have hn : m_n g0 N ≤ 24 := Nat.le_trans (m_n_le g0 N) hN
  have ht : m_tn g0 g1 g2 N ≤ 24 := by
    have h9 := m_ab_lt (g0 := g0) (g1 := g1) (g2 := g2) hN
    unfold m_tn
    split <;> omega
  have hA : ∀ q : Nat, s.heap.size ≤ q → lA s q := fun _ h => h
  obtain ⟨x1, e1⟩ : ∃ x1, xs (i + 1) = x1 := ⟨_, rfl⟩
  obtain ⟨x2, e2⟩ : ∃ x2, xs (i + 2) = x2 := ⟨_, rfl⟩
  have hl : lv_has ls 9 [(4, .int (nI i)), (3, .ref o), (2, .ref (ad2 0)), (1, .ref (ad 0)), (0, .ref b)] := hl
  refine lv_aload_n hx hb dL_law_548 rfl (lv_at hl 3 rfl) ?_
  refine q_callV (As := []) (rest := []) ⟨hx, hb, hml, hown, hts⟩ (c_X0_remarks l D cI ad (nI N) (nI (m_n g0 N)) (nI (m_tn g0 g1 g2 N)) pa pe f0 f1 f2 f3 f4) (cwV 0 hts gL_law_X0_remarks rfl rfl rfl kv_X0_remarks ⟨Nat.le_of_ble_eq_true rfl, Nat.le_of_ble_eq_true rfl⟩) (va_recv hK hP (ci := 0) (q0 := 0) rfl rfl) (hP.sub [0, 1, 2, 3, 4, 5] rfl) (hK.sub [0] rfl) rfl hl.1 rfl (Nat.le_of_ble_eq_true rfl) dL_law_549 (show cells ≤ 650192 by omega) (show slots ≤ 7145529 by omega) hS (fun H locs hsm hS => ?_)
  have hP := hsm.P hP
  refine lv_aload_n hx hb dL_law_552 rfl (lv_at hl 2 rfl) ?_
  refine m_callVI (As := []) (rest := [.int (nI N)]) (Wr := (lw cI cJ ad o (nI N) (nI (m_n g0 N)) (nI (m_tn g0 g1 g2 N)) pa pe f0 f1 f2 f3 f4 fo)) (W2 := (lw cI cJ ad o (nI N) (nI (m_n g0 N)) (nI (m_tn g0 g1 g2 N)) pa pe f0 f1 f2 f3 f4 fo ++ mw cI cZ ad2 0 (nI N) pa pe g0 g1 g2)) ⟨hx, hb, hml, hown, hts⟩ (c_X1_remarks_ok l D cI cZ ad2 th N pa pe g0 g1 g2 hN) (cwV 0 hts gL_law_X1_remarks rfl rfl rfl kv_X1_remarks ⟨Nat.le_of_ble_eq_true rfl, Nat.le_of_ble_eq_true rfl⟩) (va_recv hK hP (ci := 1) (q0 := 7) rfl rfl) hP hD (hK.sub [0, 2] rfl) hA [7, 8, 9, 10] [0, 1, 2, 3, 4, 5, 6] [0, 1, 2, 3, 4, 5, 6, 7, 8, 9, 10] rfl rfl rfl rfl rfl (by decide) rfl rfl rfl hl.1 rfl (Nat.le_of_ble_eq_true rfl) dL_law_553 (show cells ≤ 650192 by omega) (show slots ≤ 7145529 by omega) hS (fun H locs hP hS => ?_)
  have hD : va_D (lA s) (lw cI cJ ad o (nI N) (nI (m_n g0 N)) (nI (m_tn g0 g1 g2 N)) pa pe f0 f1 f2 f3 f4 fo ++ mw cI cZ ad2 0 (nI N) pa pe g0 g1 g2) := q_Dc (L := [ad 0, ad 1, ad 2, ad 3, ad 4, ad 5, o, ad2 0, ad2 1, ad2 2, ad2 3]) hD rfl rfl
  refine lv_icmp_eq (tgt := 1808) hx hb dL_law_556 (by decide) (fun _ => ?_) (fun h9 => absurd (rfl) h9)
  refine W.widen (k := cells + 24) (n := slots + 125) (by omega) (by omega) ?_
  exact kk _ _ _ _ _ _ _ _ _ _ _ _ _ _ _ H locs ls (h) (r) hP hD hS (lv_sub hl [0, 1, 2, 3, 4] rfl)

set_option maxHeartbeats 4000000 in
set_option maxRecDepth 100000 in
theorem law_words {p : Program} {l : Launch} {e : Env} {s : State} {m : MethodId} {args : Array Value} {below : List Frame} {meth : Method} {c : Code} {b L : Nat} {xs : Nat → Int32} {D : va_G} {cI cJ cZ : ClassId} {sa ad ad2 : Nat → Nat} {o cells slots i : Nat} {Q : State → Prop}
    (C : law_C p l s m c args b L xs D cI cJ cZ sa) (kk : law_K p l e s m args below meth c b D cI cJ cZ ad ad2 o cells slots Q i) {N : Nat} {w t pa pe : Int32} {f0 f1 f2 f3 f4 : Nat → Int32} {fo : Nat → Int64} {th : Int32} {g0 g1 g2 : Nat → Int32} {H : Heap} {locs : List Loc} {ls : Array Slot}
    (h : Ra N f0 f1 f2 g0 g1 g2) (r : Rw N f3 f4 g0 g1 g2 w t) (hP : va_P D vwCl (lW cI cJ cZ ad ad2 o (nI N) w t pa pe f0 f1 f2 f3 f4 fo th g0 g1 g2) H) (hD : va_D (lA s) (lW cI cJ cZ ad ad2 o (nI N) w t pa pe f0 f1 f2 f3 f4 fo th g0 g1 g2)) (hS : va_S (lA s) s.heap H locs) (hl : lv_has ls 9 (law_L b ad ad2 o i))
    (hi : i + 2 < L) (hc : cells + 24 ≤ 650192) (hs : slots + 125 ≤ 7145529) : W p l e room_1 s m args below meth c H locs cells slots Q (F0 m 561 ls []) := by
  obtain ⟨hx, hb, hml, hown, hts, hX, hbl, hK, hZ, hN9, hst, hL⟩ := C
  have ew := r.ww
  have et := r.tt
  subst ew
  subst et
  have q := r.rp
  have hN := h.n
  have hn : m_n g0 N ≤ 24 := Nat.le_trans (m_n_le g0 N) hN
  have ht : m_tn g0 g1 g2 N ≤ 24 := by
    have h9 := m_ab_lt (g0 := g0) (g1 := g1) (g2 := g2) hN
    unfold m_tn
    split <;> omega
  have hA : ∀ q : Nat, s.heap.size ≤ q → lA s q := fun _ h => h
  obtain ⟨x1, e1⟩ : ∃ x1, xs (i + 1) = x1 := ⟨_, rfl⟩
  obtain ⟨x2, e2⟩ : ∃ x2, xs (i + 2) = x2 := ⟨_, rfl⟩
  have hl : lv_has ls 9 [(4, .int (nI i)), (3, .ref o), (2, .ref (ad2 0)), (1, .ref (ad 0)), (0, .ref b)] := hl
  refine lv_aload_n hx hb dL_law_561 rfl (lv_at hl 3 rfl) ?_
  refine q_callV (As := []) (rest := []) ⟨hx, hb, hml, hown, hts⟩ (c_X0_words l D cI ad (nI N) (nI (m_n g0 N)) (nI (m_tn g0 g1 g2 N)) pa pe f0 f1 f2 f3 f4) (cwV 0 hts gL_law_X0_words rfl rfl rfl kv_X0_words ⟨Nat.le_of_ble_eq_true rfl, Nat.le_of_ble_eq_true rfl⟩) (va_recv hK hP (ci := 0) (q0 := 0) rfl rfl) (hP.sub [0, 1, 2, 3, 4, 5] rfl) (hK.sub [0] rfl) rfl hl.1 rfl (Nat.le_of_ble_eq_true rfl) dL_law_562 (show cells ≤ 650192 by omega) (show slots ≤ 7145529 by omega) hS (fun H locs hsm hS => ?_)
  have hP := hsm.P hP
  refine lv_aload_n hx hb dL_law_565 rfl (lv_at hl 2 rfl) ?_
  refine m_callVI (As := []) (rest := [.int (nI (m_n g0 N))]) (Wr := (lw cI cJ ad o (nI N) (nI (m_n g0 N)) (nI (m_tn g0 g1 g2 N)) pa pe f0 f1 f2 f3 f4 fo)) (W2 := (lw cI cJ ad o (nI N) (nI (m_n g0 N)) (nI (m_tn g0 g1 g2 N)) pa pe f0 f1 f2 f3 f4 fo ++ mw cI cZ ad2 0 (nI N) pa pe g0 g1 g2)) ⟨hx, hb, hml, hown, hts⟩ (c_X1_words_ok l D cI cZ ad2 th N pa pe g0 g1 g2 hN) (cwV 0 hts gL_law_X1_words rfl rfl rfl kv_X1_words ⟨Nat.le_of_ble_eq_true rfl, Nat.le_of_ble_eq_true rfl⟩) (va_recv hK hP (ci := 1) (q0 := 7) rfl rfl) hP hD (hK.sub [0, 2] rfl) hA [7, 8, 9, 10] [0, 1, 2, 3, 4, 5, 6] [0, 1, 2, 3, 4, 5, 6, 7, 8, 9, 10] rfl rfl rfl rfl rfl (by decide) rfl rfl rfl hl.1 rfl (Nat.le_of_ble_eq_true rfl) dL_law_566 (show cells ≤ 650192 by omega) (show slots ≤ 7145529 by omega) hS (fun H locs hP hS => ?_)
  have hD : va_D (lA s) (lw cI cJ ad o (nI N) (nI (m_n g0 N)) (nI (m_tn g0 g1 g2 N)) pa pe f0 f1 f2 f3 f4 fo ++ mw cI cZ ad2 0 (nI N) pa pe g0 g1 g2) := q_Dc (L := [ad 0, ad 1, ad 2, ad 3, ad 4, ad 5, o, ad2 0, ad2 1, ad2 2, ad2 3]) hD rfl rfl
  refine lv_icmp_eq (tgt := 1808) hx hb dL_law_569 (by decide) (fun _ => ?_) (fun h9 => absurd (rfl) h9)
  refine W.widen (k := cells + 24) (n := slots + 125) (by omega) (by omega) ?_
  exact kk _ _ _ _ _ _ _ _ _ _ _ _ _ _ _ H locs ls (h) (r) hP hD hS (lv_sub hl [0, 1, 2, 3, 4] rfl)

set_option maxHeartbeats 4000000 in
set_option maxRecDepth 100000 in
theorem law_coughs {p : Program} {l : Launch} {e : Env} {s : State} {m : MethodId} {args : Array Value} {below : List Frame} {meth : Method} {c : Code} {b L : Nat} {xs : Nat → Int32} {D : va_G} {cI cJ cZ : ClassId} {sa ad ad2 : Nat → Nat} {o cells slots i : Nat} {Q : State → Prop}
    (C : law_C p l s m c args b L xs D cI cJ cZ sa) (kk : law_K p l e s m args below meth c b D cI cJ cZ ad ad2 o cells slots Q i) {N : Nat} {w t pa pe : Int32} {f0 f1 f2 f3 f4 : Nat → Int32} {fo : Nat → Int64} {th : Int32} {g0 g1 g2 : Nat → Int32} {H : Heap} {locs : List Loc} {ls : Array Slot}
    (h : Ra N f0 f1 f2 g0 g1 g2) (r : Rw N f3 f4 g0 g1 g2 w t) (hP : va_P D vwCl (lW cI cJ cZ ad ad2 o (nI N) w t pa pe f0 f1 f2 f3 f4 fo th g0 g1 g2) H) (hD : va_D (lA s) (lW cI cJ cZ ad ad2 o (nI N) w t pa pe f0 f1 f2 f3 f4 fo th g0 g1 g2)) (hS : va_S (lA s) s.heap H locs) (hl : lv_has ls 9 (law_L b ad ad2 o i))
    (hi : i + 2 < L) (hc : cells + 24 ≤ 650192) (hs : slots + 125 ≤ 7145529) : W p l e room_1 s m args below meth c H locs cells slots Q (F0 m 574 ls []) := by
  obtain ⟨hx, hb, hml, hown, hts, hX, hbl, hK, hZ, hN9, hst, hL⟩ := C
  have ew := r.ww
  have et := r.tt
  subst ew
  subst et
  have q := r.rp
  have hN := h.n
  have hn : m_n g0 N ≤ 24 := Nat.le_trans (m_n_le g0 N) hN
  have ht : m_tn g0 g1 g2 N ≤ 24 := by
    have h9 := m_ab_lt (g0 := g0) (g1 := g1) (g2 := g2) hN
    unfold m_tn
    split <;> omega
  have hA : ∀ q : Nat, s.heap.size ≤ q → lA s q := fun _ h => h
  obtain ⟨x1, e1⟩ : ∃ x1, xs (i + 1) = x1 := ⟨_, rfl⟩
  obtain ⟨x2, e2⟩ : ∃ x2, xs (i + 2) = x2 := ⟨_, rfl⟩
  have hl : lv_has ls 9 [(4, .int (nI i)), (3, .ref o), (2, .ref (ad2 0)), (1, .ref (ad 0)), (0, .ref b)] := hl
  refine lv_aload_n hx hb dL_law_574 rfl (lv_at hl 3 rfl) ?_
  refine q_callV (As := []) (rest := []) ⟨hx, hb, hml, hown, hts⟩ (c_X0_coughs l D cI ad (nI N) (nI (m_n g0 N)) (nI (m_tn g0 g1 g2 N)) pa pe f0 f1 f2 f3 f4) (cwV 0 hts gL_law_X0_coughs rfl rfl rfl kv_X0_coughs ⟨Nat.le_of_ble_eq_true rfl, Nat.le_of_ble_eq_true rfl⟩) (va_recv hK hP (ci := 0) (q0 := 0) rfl rfl) (hP.sub [0, 1, 2, 3, 4, 5] rfl) (hK.sub [0] rfl) rfl hl.1 rfl (Nat.le_of_ble_eq_true rfl) dL_law_575 (show cells ≤ 650192 by omega) (show slots ≤ 7145529 by omega) hS (fun H locs hsm hS => ?_)
  have hP := hsm.P hP
  refine lv_aload_n hx hb dL_law_578 rfl (lv_at hl 2 rfl) ?_
  refine m_callVI (As := []) (rest := [.int ((nI N) - (nI (m_n g0 N)))]) (Wr := (lw cI cJ ad o (nI N) (nI (m_n g0 N)) (nI (m_tn g0 g1 g2 N)) pa pe f0 f1 f2 f3 f4 fo)) (W2 := (lw cI cJ ad o (nI N) (nI (m_n g0 N)) (nI (m_tn g0 g1 g2 N)) pa pe f0 f1 f2 f3 f4 fo ++ mw cI cZ ad2 0 (nI N) pa pe g0 g1 g2)) ⟨hx, hb, hml, hown, hts⟩ (c_X1_coughs_ok l D cI cZ ad2 th N pa pe g0 g1 g2 hN) (cwV 0 hts gL_law_X1_coughs rfl rfl rfl kv_X1_coughs ⟨Nat.le_of_ble_eq_true rfl, Nat.le_of_ble_eq_true rfl⟩) (va_recv hK hP (ci := 1) (q0 := 7) rfl rfl) hP hD (hK.sub [0, 2] rfl) hA [7, 8, 9, 10] [0, 1, 2, 3, 4, 5, 6] [0, 1, 2, 3, 4, 5, 6, 7, 8, 9, 10] rfl rfl rfl rfl rfl (by decide) rfl rfl rfl hl.1 rfl (Nat.le_of_ble_eq_true rfl) dL_law_579 (show cells ≤ 650192 by omega) (show slots ≤ 7145529 by omega) hS (fun H locs hP hS => ?_)
  have hD : va_D (lA s) (lw cI cJ ad o (nI N) (nI (m_n g0 N)) (nI (m_tn g0 g1 g2 N)) pa pe f0 f1 f2 f3 f4 fo ++ mw cI cZ ad2 0 (nI N) pa pe g0 g1 g2) := q_Dc (L := [ad 0, ad 1, ad 2, ad 3, ad 4, ad 5, o, ad2 0, ad2 1, ad2 2, ad2 3]) hD rfl rfl
  refine lv_icmp_eq (tgt := 1808) hx hb dL_law_582 (by decide) (fun _ => ?_) (fun h9 => absurd (rfl) h9)
  refine W.widen (k := cells + 24) (n := slots + 125) (by omega) (by omega) ?_
  exact kk _ _ _ _ _ _ _ _ _ _ _ _ _ _ _ H locs ls (h) (r) hP hD hS (lv_sub hl [0, 1, 2, 3, 4] rfl)

set_option maxHeartbeats 4000000 in
set_option maxRecDepth 100000 in
theorem law_patience {p : Program} {l : Launch} {e : Env} {s : State} {m : MethodId} {args : Array Value} {below : List Frame} {meth : Method} {c : Code} {b L : Nat} {xs : Nat → Int32} {D : va_G} {cI cJ cZ : ClassId} {sa ad ad2 : Nat → Nat} {o cells slots i : Nat} {Q : State → Prop}
    (C : law_C p l s m c args b L xs D cI cJ cZ sa) (kk : law_K p l e s m args below meth c b D cI cJ cZ ad ad2 o cells slots Q i) {N : Nat} {w t pa pe : Int32} {f0 f1 f2 f3 f4 : Nat → Int32} {fo : Nat → Int64} {th : Int32} {g0 g1 g2 : Nat → Int32} {H : Heap} {locs : List Loc} {ls : Array Slot}
    (h : Ra N f0 f1 f2 g0 g1 g2) (r : Rw N f3 f4 g0 g1 g2 w t) (hP : va_P D vwCl (lW cI cJ cZ ad ad2 o (nI N) w t pa pe f0 f1 f2 f3 f4 fo th g0 g1 g2) H) (hD : va_D (lA s) (lW cI cJ cZ ad ad2 o (nI N) w t pa pe f0 f1 f2 f3 f4 fo th g0 g1 g2)) (hS : va_S (lA s) s.heap H locs) (hl : lv_has ls 9 (law_L b ad ad2 o i))
    (hi : i + 2 < L) (hc : cells + 24 ≤ 650192) (hs : slots + 125 ≤ 7145529) : W p l e room_1 s m args below meth c H locs cells slots Q (F0 m 587 ls []) := by
  obtain ⟨hx, hb, hml, hown, hts, hX, hbl, hK, hZ, hN9, hst, hL⟩ := C
  have ew := r.ww
  have et := r.tt
  subst ew
  subst et
  have q := r.rp
  have hN := h.n
  have hn : m_n g0 N ≤ 24 := Nat.le_trans (m_n_le g0 N) hN
  have ht : m_tn g0 g1 g2 N ≤ 24 := by
    have h9 := m_ab_lt (g0 := g0) (g1 := g1) (g2 := g2) hN
    unfold m_tn
    split <;> omega
  have hA : ∀ q : Nat, s.heap.size ≤ q → lA s q := fun _ h => h
  obtain ⟨x1, e1⟩ : ∃ x1, xs (i + 1) = x1 := ⟨_, rfl⟩
  obtain ⟨x2, e2⟩ : ∃ x2, xs (i + 2) = x2 := ⟨_, rfl⟩
  have hl : lv_has ls 9 [(4, .int (nI i)), (3, .ref o), (2, .ref (ad2 0)), (1, .ref (ad 0)), (0, .ref b)] := hl
  refine lv_aload_n hx hb dL_law_587 rfl (lv_at hl 3 rfl) ?_
  refine q_callV (As := []) (rest := []) ⟨hx, hb, hml, hown, hts⟩ (c_X0_patience l D cI ad (nI N) (nI (m_n g0 N)) (nI (m_tn g0 g1 g2 N)) pa pe f0 f1 f2 f3 f4) (cwV 0 hts gL_law_X0_patience rfl rfl rfl kv_X0_patience ⟨Nat.le_of_ble_eq_true rfl, Nat.le_of_ble_eq_true rfl⟩) (va_recv hK hP (ci := 0) (q0 := 0) rfl rfl) (hP.sub [0, 1, 2, 3, 4, 5] rfl) (hK.sub [0] rfl) rfl hl.1 rfl (Nat.le_of_ble_eq_true rfl) dL_law_588 (show cells ≤ 650192 by omega) (show slots ≤ 7145529 by omega) hS (fun H locs hsm hS => ?_)
  have hP := hsm.P hP
  refine lv_aload_n hx hb dL_law_591 rfl (lv_at hl 2 rfl) ?_
  refine m_callVI (As := []) (rest := [.int pa]) (Wr := (lw cI cJ ad o (nI N) (nI (m_n g0 N)) (nI (m_tn g0 g1 g2 N)) pa pe f0 f1 f2 f3 f4 fo)) (W2 := (lw cI cJ ad o (nI N) (nI (m_n g0 N)) (nI (m_tn g0 g1 g2 N)) pa pe f0 f1 f2 f3 f4 fo ++ mw cI cZ ad2 0 (nI N) pa pe g0 g1 g2)) ⟨hx, hb, hml, hown, hts⟩ (c_X1_patience_ok l D cI cZ ad2 th N pa pe g0 g1 g2 hN) (cwV 0 hts gL_law_X1_patience rfl rfl rfl kv_X1_patience ⟨Nat.le_of_ble_eq_true rfl, Nat.le_of_ble_eq_true rfl⟩) (va_recv hK hP (ci := 1) (q0 := 7) rfl rfl) hP hD (hK.sub [0, 2] rfl) hA [7, 8, 9, 10] [0, 1, 2, 3, 4, 5, 6] [0, 1, 2, 3, 4, 5, 6, 7, 8, 9, 10] rfl rfl rfl rfl rfl (by decide) rfl rfl rfl hl.1 rfl (Nat.le_of_ble_eq_true rfl) dL_law_592 (show cells ≤ 650192 by omega) (show slots ≤ 7145529 by omega) hS (fun H locs hP hS => ?_)
  have hD : va_D (lA s) (lw cI cJ ad o (nI N) (nI (m_n g0 N)) (nI (m_tn g0 g1 g2 N)) pa pe f0 f1 f2 f3 f4 fo ++ mw cI cZ ad2 0 (nI N) pa pe g0 g1 g2) := q_Dc (L := [ad 0, ad 1, ad 2, ad 3, ad 4, ad 5, o, ad2 0, ad2 1, ad2 2, ad2 3]) hD rfl rfl
  refine lv_icmp_eq (tgt := 1808) hx hb dL_law_595 (by decide) (fun _ => ?_) (fun h9 => absurd (rfl) h9)
  refine W.widen (k := cells + 24) (n := slots + 125) (by omega) (by omega) ?_
  exact kk _ _ _ _ _ _ _ _ _ _ _ _ _ _ _ H locs ls (h) (r) hP hD hS (lv_sub hl [0, 1, 2, 3, 4] rfl)

set_option maxHeartbeats 4000000 in
set_option maxRecDepth 100000 in
theorem law_spent {p : Program} {l : Launch} {e : Env} {s : State} {m : MethodId} {args : Array Value} {below : List Frame} {meth : Method} {c : Code} {b L : Nat} {xs : Nat → Int32} {D : va_G} {cI cJ cZ : ClassId} {sa ad ad2 : Nat → Nat} {o cells slots i : Nat} {Q : State → Prop}
    (C : law_C p l s m c args b L xs D cI cJ cZ sa) (kk : law_K p l e s m args below meth c b D cI cJ cZ ad ad2 o cells slots Q i) {N : Nat} {w t pa pe : Int32} {f0 f1 f2 f3 f4 : Nat → Int32} {fo : Nat → Int64} {th : Int32} {g0 g1 g2 : Nat → Int32} {H : Heap} {locs : List Loc} {ls : Array Slot}
    (h : Ra N f0 f1 f2 g0 g1 g2) (r : Rw N f3 f4 g0 g1 g2 w t) (hP : va_P D vwCl (lW cI cJ cZ ad ad2 o (nI N) w t pa pe f0 f1 f2 f3 f4 fo th g0 g1 g2) H) (hD : va_D (lA s) (lW cI cJ cZ ad ad2 o (nI N) w t pa pe f0 f1 f2 f3 f4 fo th g0 g1 g2)) (hS : va_S (lA s) s.heap H locs) (hl : lv_has ls 9 (law_L b ad ad2 o i))
    (hi : i + 2 < L) (hc : cells + 24 ≤ 650192) (hs : slots + 125 ≤ 7145529) : W p l e room_1 s m args below meth c H locs cells slots Q (F0 m 600 ls []) := by
  obtain ⟨hx, hb, hml, hown, hts, hX, hbl, hK, hZ, hN9, hst, hL⟩ := C
  have ew := r.ww
  have et := r.tt
  subst ew
  subst et
  have q := r.rp
  have hN := h.n
  have hn : m_n g0 N ≤ 24 := Nat.le_trans (m_n_le g0 N) hN
  have ht : m_tn g0 g1 g2 N ≤ 24 := by
    have h9 := m_ab_lt (g0 := g0) (g1 := g1) (g2 := g2) hN
    unfold m_tn
    split <;> omega
  have hA : ∀ q : Nat, s.heap.size ≤ q → lA s q := fun _ h => h
  obtain ⟨x1, e1⟩ : ∃ x1, xs (i + 1) = x1 := ⟨_, rfl⟩
  obtain ⟨x2, e2⟩ : ∃ x2, xs (i + 2) = x2 := ⟨_, rfl⟩
  have hl : lv_has ls 9 [(4, .int (nI i)), (3, .ref o), (2, .ref (ad2 0)), (1, .ref (ad 0)), (0, .ref b)] := hl
  refine lv_aload_n hx hb dL_law_600 rfl (lv_at hl 3 rfl) ?_
  refine q_callV (As := []) (rest := []) ⟨hx, hb, hml, hown, hts⟩ (c_X0_spent l D cI ad (nI N) (nI (m_n g0 N)) (nI (m_tn g0 g1 g2 N)) pa pe f0 f1 f2 f3 f4) (cwV 0 hts gL_law_X0_spent rfl rfl rfl kv_X0_spent ⟨Nat.le_of_ble_eq_true rfl, Nat.le_of_ble_eq_true rfl⟩) (va_recv hK hP (ci := 0) (q0 := 0) rfl rfl) (hP.sub [0, 1, 2, 3, 4, 5] rfl) (hK.sub [0] rfl) rfl hl.1 rfl (Nat.le_of_ble_eq_true rfl) dL_law_601 (show cells ≤ 650192 by omega) (show slots ≤ 7145529 by omega) hS (fun H locs hsm hS => ?_)
  have hP := hsm.P hP
  refine lv_aload_n hx hb dL_law_604 rfl (lv_at hl 2 rfl) ?_
  refine m_callVI (As := []) (rest := [.int pe]) (Wr := (lw cI cJ ad o (nI N) (nI (m_n g0 N)) (nI (m_tn g0 g1 g2 N)) pa pe f0 f1 f2 f3 f4 fo)) (W2 := (lw cI cJ ad o (nI N) (nI (m_n g0 N)) (nI (m_tn g0 g1 g2 N)) pa pe f0 f1 f2 f3 f4 fo ++ mw cI cZ ad2 0 (nI N) pa pe g0 g1 g2)) ⟨hx, hb, hml, hown, hts⟩ (c_X1_spent_ok l D cI cZ ad2 th N pa pe g0 g1 g2 hN) (cwV 0 hts gL_law_X1_spent rfl rfl rfl kv_X1_spent ⟨Nat.le_of_ble_eq_true rfl, Nat.le_of_ble_eq_true rfl⟩) (va_recv hK hP (ci := 1) (q0 := 7) rfl rfl) hP hD (hK.sub [0, 2] rfl) hA [7, 8, 9, 10] [0, 1, 2, 3, 4, 5, 6] [0, 1, 2, 3, 4, 5, 6, 7, 8, 9, 10] rfl rfl rfl rfl rfl (by decide) rfl rfl rfl hl.1 rfl (Nat.le_of_ble_eq_true rfl) dL_law_605 (show cells ≤ 650192 by omega) (show slots ≤ 7145529 by omega) hS (fun H locs hP hS => ?_)
  have hD : va_D (lA s) (lw cI cJ ad o (nI N) (nI (m_n g0 N)) (nI (m_tn g0 g1 g2 N)) pa pe f0 f1 f2 f3 f4 fo ++ mw cI cZ ad2 0 (nI N) pa pe g0 g1 g2) := q_Dc (L := [ad 0, ad 1, ad 2, ad 3, ad 4, ad 5, o, ad2 0, ad2 1, ad2 2, ad2 3]) hD rfl rfl
  refine lv_icmp_eq (tgt := 1808) hx hb dL_law_608 (by decide) (fun _ => ?_) (fun h9 => absurd (rfl) h9)
  refine W.widen (k := cells + 24) (n := slots + 125) (by omega) (by omega) ?_
  exact kk _ _ _ _ _ _ _ _ _ _ _ _ _ _ _ H locs ls (h) (r) hP hD hS (lv_sub hl [0, 1, 2, 3, 4] rfl)

set_option maxHeartbeats 4000000 in
set_option maxRecDepth 100000 in
theorem law_brokenGaps {p : Program} {l : Launch} {e : Env} {s : State} {m : MethodId} {args : Array Value} {below : List Frame} {meth : Method} {c : Code} {b L : Nat} {xs : Nat → Int32} {D : va_G} {cI cJ cZ : ClassId} {sa ad ad2 : Nat → Nat} {o cells slots i : Nat} {Q : State → Prop}
    (C : law_C p l s m c args b L xs D cI cJ cZ sa) (kk : law_K p l e s m args below meth c b D cI cJ cZ ad ad2 o cells slots Q i) {N : Nat} {w t pa pe : Int32} {f0 f1 f2 f3 f4 : Nat → Int32} {fo : Nat → Int64} {th : Int32} {g0 g1 g2 : Nat → Int32} {H : Heap} {locs : List Loc} {ls : Array Slot}
    (h : Ra N f0 f1 f2 g0 g1 g2) (r : Rw N f3 f4 g0 g1 g2 w t) (hP : va_P D vwCl (lW cI cJ cZ ad ad2 o (nI N) w t pa pe f0 f1 f2 f3 f4 fo th g0 g1 g2) H) (hD : va_D (lA s) (lW cI cJ cZ ad ad2 o (nI N) w t pa pe f0 f1 f2 f3 f4 fo th g0 g1 g2)) (hS : va_S (lA s) s.heap H locs) (hl : lv_has ls 9 (law_L b ad ad2 o i))
    (hi : i + 2 < L) (hc : cells + 24 ≤ 650192) (hs : slots + 125 ≤ 7145529) : W p l e room_1 s m args below meth c H locs cells slots Q (F0 m 1264 ls []) := by
  obtain ⟨hx, hb, hml, hown, hts, hX, hbl, hK, hZ, hN9, hst, hL⟩ := C
  have ew := r.ww
  have et := r.tt
  subst ew
  subst et
  have q := r.rp
  have hN := h.n
  have hn : m_n g0 N ≤ 24 := Nat.le_trans (m_n_le g0 N) hN
  have ht : m_tn g0 g1 g2 N ≤ 24 := by
    have h9 := m_ab_lt (g0 := g0) (g1 := g1) (g2 := g2) hN
    unfold m_tn
    split <;> omega
  have hA : ∀ q : Nat, s.heap.size ≤ q → lA s q := fun _ h => h
  obtain ⟨x1, e1⟩ : ∃ x1, xs (i + 1) = x1 := ⟨_, rfl⟩
  obtain ⟨x2, e2⟩ : ∃ x2, xs (i + 2) = x2 := ⟨_, rfl⟩
  have hl : lv_has ls 9 [(4, .int (nI i)), (3, .ref o), (2, .ref (ad2 0)), (1, .ref (ad 0)), (0, .ref b)] := hl
  refine lv_aload_n hx hb dL_law_1264 rfl (lv_at hl 3 rfl) ?_
  refine q_callV (As := []) (rest := []) ⟨hx, hb, hml, hown, hts⟩ (c_X0_brokenGaps l D cI ad (nI N) (m_n g0 N) (nI (m_tn g0 g1 g2 N)) pa pe f0 f1 f2 f3 f4 hn) (cwV 0 hts gL_law_X0_brokenGaps rfl rfl rfl kv_X0_brokenGaps ⟨Nat.le_of_ble_eq_true rfl, Nat.le_of_ble_eq_true rfl⟩) (va_recv hK hP (ci := 0) (q0 := 0) rfl rfl) (hP.sub [0, 1, 2, 3, 4, 5] rfl) (hK.sub [0] rfl) rfl hl.1 rfl (Nat.le_of_ble_eq_true rfl) dL_law_1265 (show cells ≤ 650192 by omega) (show slots ≤ 7145529 by omega) hS (fun H locs hsm hS => ?_)
  have hP := hsm.P hP
  refine lv_aload_n hx hb dL_law_1268 rfl (lv_at hl 2 rfl) ?_
  refine m_callVI (As := []) (rest := [.int (x_gk f0 f1 f2 f3 2 (m_n g0 N))]) (Wr := (lw cI cJ ad o (nI N) (nI (m_n g0 N)) (nI (m_tn g0 g1 g2 N)) pa pe f0 f1 f2 f3 f4 fo)) (W2 := (lw cI cJ ad o (nI N) (nI (m_n g0 N)) (nI (m_tn g0 g1 g2 N)) pa pe f0 f1 f2 f3 f4 fo ++ mw cI cZ ad2 0 (nI N) pa pe g0 g1 g2)) ⟨hx, hb, hml, hown, hts⟩ (c_X1_brokenGaps_ok l D cI cZ ad2 th N pa pe g0 g1 g2 hN) (cwV 0 hts gL_law_X1_brokenGaps rfl rfl rfl kv_X1_brokenGaps ⟨Nat.le_of_ble_eq_true rfl, Nat.le_of_ble_eq_true rfl⟩) (va_recv hK hP (ci := 1) (q0 := 7) rfl rfl) hP hD (hK.sub [0, 2] rfl) hA [7, 8, 9, 10] [0, 1, 2, 3, 4, 5, 6] [0, 1, 2, 3, 4, 5, 6, 7, 8, 9, 10] rfl rfl rfl rfl rfl (by decide) rfl rfl rfl hl.1 rfl (Nat.le_of_ble_eq_true rfl) dL_law_1269 (show cells ≤ 650192 by omega) (show slots ≤ 7145529 by omega) hS (fun H locs hP hS => ?_)
  have hD : va_D (lA s) (lw cI cJ ad o (nI N) (nI (m_n g0 N)) (nI (m_tn g0 g1 g2 N)) pa pe f0 f1 f2 f3 f4 fo ++ mw cI cZ ad2 0 (nI N) pa pe g0 g1 g2) := q_Dc (L := [ad 0, ad 1, ad 2, ad 3, ad 4, ad 5, o, ad2 0, ad2 1, ad2 2, ad2 3]) hD rfl rfl
  refine lv_icmp_eq (tgt := 1808) hx hb dL_law_1272 (by decide) (fun _ => ?_) (fun h9 => absurd (h.gk2 q) h9)
  refine W.widen (k := cells + 24) (n := slots + 125) (by omega) (by omega) ?_
  exact kk _ _ _ _ _ _ _ _ _ _ _ _ _ _ _ H locs ls (h) (r) hP hD hS (lv_sub hl [0, 1, 2, 3, 4] rfl)

set_option maxHeartbeats 4000000 in
set_option maxRecDepth 100000 in
theorem law_politeGaps {p : Program} {l : Launch} {e : Env} {s : State} {m : MethodId} {args : Array Value} {below : List Frame} {meth : Method} {c : Code} {b L : Nat} {xs : Nat → Int32} {D : va_G} {cI cJ cZ : ClassId} {sa ad ad2 : Nat → Nat} {o cells slots i : Nat} {Q : State → Prop}
    (C : law_C p l s m c args b L xs D cI cJ cZ sa) (kk : law_K p l e s m args below meth c b D cI cJ cZ ad ad2 o cells slots Q i) {N : Nat} {w t pa pe : Int32} {f0 f1 f2 f3 f4 : Nat → Int32} {fo : Nat → Int64} {th : Int32} {g0 g1 g2 : Nat → Int32} {H : Heap} {locs : List Loc} {ls : Array Slot}
    (h : Ra N f0 f1 f2 g0 g1 g2) (r : Rw N f3 f4 g0 g1 g2 w t) (hP : va_P D vwCl (lW cI cJ cZ ad ad2 o (nI N) w t pa pe f0 f1 f2 f3 f4 fo th g0 g1 g2) H) (hD : va_D (lA s) (lW cI cJ cZ ad ad2 o (nI N) w t pa pe f0 f1 f2 f3 f4 fo th g0 g1 g2)) (hS : va_S (lA s) s.heap H locs) (hl : lv_has ls 9 (law_L b ad ad2 o i))
    (hi : i + 2 < L) (hc : cells + 24 ≤ 650192) (hs : slots + 125 ≤ 7145529) : W p l e room_1 s m args below meth c H locs cells slots Q (F0 m 1277 ls []) := by
  obtain ⟨hx, hb, hml, hown, hts, hX, hbl, hK, hZ, hN9, hst, hL⟩ := C
  have ew := r.ww
  have et := r.tt
  subst ew
  subst et
  have q := r.rp
  have hN := h.n
  have hn : m_n g0 N ≤ 24 := Nat.le_trans (m_n_le g0 N) hN
  have ht : m_tn g0 g1 g2 N ≤ 24 := by
    have h9 := m_ab_lt (g0 := g0) (g1 := g1) (g2 := g2) hN
    unfold m_tn
    split <;> omega
  have hA : ∀ q : Nat, s.heap.size ≤ q → lA s q := fun _ h => h
  obtain ⟨x1, e1⟩ : ∃ x1, xs (i + 1) = x1 := ⟨_, rfl⟩
  obtain ⟨x2, e2⟩ : ∃ x2, xs (i + 2) = x2 := ⟨_, rfl⟩
  have hl : lv_has ls 9 [(4, .int (nI i)), (3, .ref o), (2, .ref (ad2 0)), (1, .ref (ad 0)), (0, .ref b)] := hl
  refine lv_aload_n hx hb dL_law_1277 rfl (lv_at hl 3 rfl) ?_
  refine q_callV (As := []) (rest := []) ⟨hx, hb, hml, hown, hts⟩ (c_X0_politeGaps l D cI ad (nI N) (m_n g0 N) (nI (m_tn g0 g1 g2 N)) pa pe f0 f1 f2 f3 f4 hn) (cwV 0 hts gL_law_X0_politeGaps rfl rfl rfl kv_X0_politeGaps ⟨Nat.le_of_ble_eq_true rfl, Nat.le_of_ble_eq_true rfl⟩) (va_recv hK hP (ci := 0) (q0 := 0) rfl rfl) (hP.sub [0, 1, 2, 3, 4, 5] rfl) (hK.sub [0] rfl) rfl hl.1 rfl (Nat.le_of_ble_eq_true rfl) dL_law_1278 (show cells ≤ 650192 by omega) (show slots ≤ 7145529 by omega) hS (fun H locs hsm hS => ?_)
  have hP := hsm.P hP
  refine lv_aload_n hx hb dL_law_1281 rfl (lv_at hl 2 rfl) ?_
  refine m_callVI (As := []) (rest := [.int (x_gk f0 f1 f2 f3 1 (m_n g0 N))]) (Wr := (lw cI cJ ad o (nI N) (nI (m_n g0 N)) (nI (m_tn g0 g1 g2 N)) pa pe f0 f1 f2 f3 f4 fo)) (W2 := (lw cI cJ ad o (nI N) (nI (m_n g0 N)) (nI (m_tn g0 g1 g2 N)) pa pe f0 f1 f2 f3 f4 fo ++ mw cI cZ ad2 0 (nI N) pa pe g0 g1 g2)) ⟨hx, hb, hml, hown, hts⟩ (c_X1_politeGaps_ok l D cI cZ ad2 th N pa pe g0 g1 g2 hN) (cwV 0 hts gL_law_X1_politeGaps rfl rfl rfl kv_X1_politeGaps ⟨Nat.le_of_ble_eq_true rfl, Nat.le_of_ble_eq_true rfl⟩) (va_recv hK hP (ci := 1) (q0 := 7) rfl rfl) hP hD (hK.sub [0, 2] rfl) hA [7, 8, 9, 10] [0, 1, 2, 3, 4, 5, 6] [0, 1, 2, 3, 4, 5, 6, 7, 8, 9, 10] rfl rfl rfl rfl rfl (by decide) rfl rfl rfl hl.1 rfl (Nat.le_of_ble_eq_true rfl) dL_law_1282 (show cells ≤ 650192 by omega) (show slots ≤ 7145529 by omega) hS (fun H locs hP hS => ?_)
  have hD : va_D (lA s) (lw cI cJ ad o (nI N) (nI (m_n g0 N)) (nI (m_tn g0 g1 g2 N)) pa pe f0 f1 f2 f3 f4 fo ++ mw cI cZ ad2 0 (nI N) pa pe g0 g1 g2) := q_Dc (L := [ad 0, ad 1, ad 2, ad 3, ad 4, ad 5, o, ad2 0, ad2 1, ad2 2, ad2 3]) hD rfl rfl
  refine lv_icmp_eq (tgt := 1808) hx hb dL_law_1285 (by decide) (fun _ => ?_) (fun h9 => absurd (h.gk1 q) h9)
  refine W.widen (k := cells + 24) (n := slots + 125) (by omega) (by omega) ?_
  exact kk _ _ _ _ _ _ _ _ _ _ _ _ _ _ _ H locs ls (h) (r) hP hD hS (lv_sub hl [0, 1, 2, 3, 4] rfl)

set_option maxHeartbeats 4000000 in
set_option maxRecDepth 100000 in
theorem law_threads {p : Program} {l : Launch} {e : Env} {s : State} {m : MethodId} {args : Array Value} {below : List Frame} {meth : Method} {c : Code} {b L : Nat} {xs : Nat → Int32} {D : va_G} {cI cJ cZ : ClassId} {sa ad ad2 : Nat → Nat} {o cells slots i : Nat} {Q : State → Prop}
    (C : law_C p l s m c args b L xs D cI cJ cZ sa) (kk : law_K p l e s m args below meth c b D cI cJ cZ ad ad2 o cells slots Q i) {N : Nat} {w t pa pe : Int32} {f0 f1 f2 f3 f4 : Nat → Int32} {fo : Nat → Int64} {th : Int32} {g0 g1 g2 : Nat → Int32} {H : Heap} {locs : List Loc} {ls : Array Slot}
    (h : Ra N f0 f1 f2 g0 g1 g2) (r : Rw N f3 f4 g0 g1 g2 w t) (hP : va_P D vwCl (lW cI cJ cZ ad ad2 o (nI N) w t pa pe f0 f1 f2 f3 f4 fo th g0 g1 g2) H) (hD : va_D (lA s) (lW cI cJ cZ ad ad2 o (nI N) w t pa pe f0 f1 f2 f3 f4 fo th g0 g1 g2)) (hS : va_S (lA s) s.heap H locs) (hl : lv_has ls 9 (law_L b ad ad2 o i))
    (hi : i + 2 < L) (hc : cells + 24 ≤ 650192) (hs : slots + 125 ≤ 7145529) : W p l e room_1 s m args below meth c H locs cells slots Q (F0 m 1290 ls []) := by
  obtain ⟨hx, hb, hml, hown, hts, hX, hbl, hK, hZ, hN9, hst, hL⟩ := C
  have ew := r.ww
  have et := r.tt
  subst ew
  subst et
  have q := r.rp
  have hN := h.n
  have hn : m_n g0 N ≤ 24 := Nat.le_trans (m_n_le g0 N) hN
  have ht : m_tn g0 g1 g2 N ≤ 24 := by
    have h9 := m_ab_lt (g0 := g0) (g1 := g1) (g2 := g2) hN
    unfold m_tn
    split <;> omega
  have hA : ∀ q : Nat, s.heap.size ≤ q → lA s q := fun _ h => h
  obtain ⟨x1, e1⟩ : ∃ x1, xs (i + 1) = x1 := ⟨_, rfl⟩
  obtain ⟨x2, e2⟩ : ∃ x2, xs (i + 2) = x2 := ⟨_, rfl⟩
  have hl : lv_has ls 9 [(4, .int (nI i)), (3, .ref o), (2, .ref (ad2 0)), (1, .ref (ad 0)), (0, .ref b)] := hl
  refine lv_aload_n hx hb dL_law_1290 rfl (lv_at hl 3 rfl) ?_
  refine q_callV (As := []) (rest := []) ⟨hx, hb, hml, hown, hts⟩ (c_X0_threads l D cI ad (nI N) (nI (m_n g0 N)) (nI (m_tn g0 g1 g2 N)) pa pe f0 f1 f2 f3 f4) (cwV 0 hts gL_law_X0_threads rfl rfl rfl kv_X0_threads ⟨Nat.le_of_ble_eq_true rfl, Nat.le_of_ble_eq_true rfl⟩) (va_recv hK hP (ci := 0) (q0 := 0) rfl rfl) (hP.sub [0, 1, 2, 3, 4, 5] rfl) (hK.sub [0] rfl) rfl hl.1 rfl (Nat.le_of_ble_eq_true rfl) dL_law_1291 (show cells ≤ 650192 by omega) (show slots ≤ 7145529 by omega) hS (fun H locs hsm hS => ?_)
  have hP := hsm.P hP
  refine lv_aload_n hx hb dL_law_1294 rfl (lv_at hl 2 rfl) ?_
  refine m_callVI (As := []) (rest := [.int (nI (m_tn g0 g1 g2 N))]) (Wr := (lw cI cJ ad o (nI N) (nI (m_n g0 N)) (nI (m_tn g0 g1 g2 N)) pa pe f0 f1 f2 f3 f4 fo)) (W2 := (lw cI cJ ad o (nI N) (nI (m_n g0 N)) (nI (m_tn g0 g1 g2 N)) pa pe f0 f1 f2 f3 f4 fo ++ mw cI cZ ad2 0 (nI N) pa pe g0 g1 g2)) ⟨hx, hb, hml, hown, hts⟩ (c_X1_threads_ok l D cI cZ ad2 th N pa pe g0 g1 g2 hN) (cwV 0 hts gL_law_X1_threads rfl rfl rfl kv_X1_threads ⟨Nat.le_of_ble_eq_true rfl, Nat.le_of_ble_eq_true rfl⟩) (va_recv hK hP (ci := 1) (q0 := 7) rfl rfl) hP hD (hK.sub [0, 2] rfl) hA [7, 8, 9, 10] [0, 1, 2, 3, 4, 5, 6] [0, 1, 2, 3, 4, 5, 6, 7, 8, 9, 10] rfl rfl rfl rfl rfl (by decide) rfl rfl rfl hl.1 rfl (Nat.le_of_ble_eq_true rfl) dL_law_1295 (show cells ≤ 650192 by omega) (show slots ≤ 7145529 by omega) hS (fun H locs hP hS => ?_)
  have hD : va_D (lA s) (lw cI cJ ad o (nI N) (nI (m_n g0 N)) (nI (m_tn g0 g1 g2 N)) pa pe f0 f1 f2 f3 f4 fo ++ mw cI cZ ad2 0 (nI N) pa pe g0 g1 g2) := q_Dc (L := [ad 0, ad 1, ad 2, ad 3, ad 4, ad 5, o, ad2 0, ad2 1, ad2 2, ad2 3]) hD rfl rfl
  refine lv_icmp_eq (tgt := 1808) hx hb dL_law_1298 (by decide) (fun _ => ?_) (fun h9 => absurd (rfl) h9)
  refine W.widen (k := cells + 24) (n := slots + 125) (by omega) (by omega) ?_
  exact kk _ _ _ _ _ _ _ _ _ _ _ _ _ _ _ H locs ls (h) (r) hP hD hS (lv_sub hl [0, 1, 2, 3, 4] rfl)

set_option maxHeartbeats 4000000 in
set_option maxRecDepth 100000 in
theorem law_longestThread {p : Program} {l : Launch} {e : Env} {s : State} {m : MethodId} {args : Array Value} {below : List Frame} {meth : Method} {c : Code} {b L : Nat} {xs : Nat → Int32} {D : va_G} {cI cJ cZ : ClassId} {sa ad ad2 : Nat → Nat} {o cells slots i : Nat} {Q : State → Prop}
    (C : law_C p l s m c args b L xs D cI cJ cZ sa) (kk : law_K p l e s m args below meth c b D cI cJ cZ ad ad2 o cells slots Q i) {N : Nat} {w t pa pe : Int32} {f0 f1 f2 f3 f4 : Nat → Int32} {fo : Nat → Int64} {th : Int32} {g0 g1 g2 : Nat → Int32} {H : Heap} {locs : List Loc} {ls : Array Slot}
    (h : Ra N f0 f1 f2 g0 g1 g2) (r : Rw N f3 f4 g0 g1 g2 w t) (hP : va_P D vwCl (lW cI cJ cZ ad ad2 o (nI N) w t pa pe f0 f1 f2 f3 f4 fo th g0 g1 g2) H) (hD : va_D (lA s) (lW cI cJ cZ ad ad2 o (nI N) w t pa pe f0 f1 f2 f3 f4 fo th g0 g1 g2)) (hS : va_S (lA s) s.heap H locs) (hl : lv_has ls 9 (law_L b ad ad2 o i))
    (hi : i + 2 < L) (hc : cells + 24 ≤ 650192) (hs : slots + 125 ≤ 7145529) : W p l e room_1 s m args below meth c H locs cells slots Q (F0 m 1415 ls []) := by
  obtain ⟨hx, hb, hml, hown, hts, hX, hbl, hK, hZ, hN9, hst, hL⟩ := C
  have ew := r.ww
  have et := r.tt
  subst ew
  subst et
  have q := r.rp
  have hN := h.n
  have hn : m_n g0 N ≤ 24 := Nat.le_trans (m_n_le g0 N) hN
  have ht : m_tn g0 g1 g2 N ≤ 24 := by
    have h9 := m_ab_lt (g0 := g0) (g1 := g1) (g2 := g2) hN
    unfold m_tn
    split <;> omega
  have hA : ∀ q : Nat, s.heap.size ≤ q → lA s q := fun _ h => h
  obtain ⟨x1, e1⟩ : ∃ x1, xs (i + 1) = x1 := ⟨_, rfl⟩
  obtain ⟨x2, e2⟩ : ∃ x2, xs (i + 2) = x2 := ⟨_, rfl⟩
  have hl : lv_has ls 9 [(4, .int (nI i)), (3, .ref o), (2, .ref (ad2 0)), (1, .ref (ad 0)), (0, .ref b)] := hl
  refine lv_aload_n hx hb dL_law_1415 rfl (lv_at hl 3 rfl) ?_
  refine q_callV (As := []) (rest := []) ⟨hx, hb, hml, hown, hts⟩ (c_X0_longestThread l D cI ad (nI N) (m_n g0 N) (m_tn g0 g1 g2 N) pa pe f0 f1 f2 f3 f4 hn ht) (cwV 0 hts gL_law_X0_longestThread rfl rfl rfl kv_X0_longestThread ⟨Nat.le_of_ble_eq_true rfl, Nat.le_of_ble_eq_true rfl⟩) (va_recv hK hP (ci := 0) (q0 := 0) rfl rfl) (hP.sub [0, 1, 2, 3, 4, 5] rfl) (hK.sub [0] rfl) rfl hl.1 rfl (Nat.le_of_ble_eq_true rfl) dL_law_1416 (show cells ≤ 650192 by omega) (show slots ≤ 7145529 by omega) hS (fun H locs hsm hS => ?_)
  have hP := hsm.P hP
  refine lv_aload_n hx hb dL_law_1419 rfl (lv_at hl 2 rfl) ?_
  refine m_callVI (As := []) (rest := [.int ((x_lg f4 (m_n g0 N) (m_tn g0 g1 g2 N)).1)]) (Wr := (lw cI cJ ad o (nI N) (nI (m_n g0 N)) (nI (m_tn g0 g1 g2 N)) pa pe f0 f1 f2 f3 f4 fo)) (W2 := (lw cI cJ ad o (nI N) (nI (m_n g0 N)) (nI (m_tn g0 g1 g2 N)) pa pe f0 f1 f2 f3 f4 fo ++ mw cI cZ ad2 0 (nI N) pa pe g0 g1 g2)) ⟨hx, hb, hml, hown, hts⟩ (c_X1_longestThread_ok l D cI cZ ad2 th N pa pe g0 g1 g2 hN) (cwV 0 hts gL_law_X1_longestThread rfl rfl rfl kv_X1_longestThread ⟨Nat.le_of_ble_eq_true rfl, Nat.le_of_ble_eq_true rfl⟩) (va_recv hK hP (ci := 1) (q0 := 7) rfl rfl) hP hD (hK.sub [0, 2] rfl) hA [7, 8, 9, 10] [0, 1, 2, 3, 4, 5, 6] [0, 1, 2, 3, 4, 5, 6, 7, 8, 9, 10] rfl rfl rfl rfl rfl (by decide) rfl rfl rfl hl.1 rfl (Nat.le_of_ble_eq_true rfl) dL_law_1420 (show cells ≤ 650192 by omega) (show slots ≤ 7145529 by omega) hS (fun H locs hP hS => ?_)
  have hD : va_D (lA s) (lw cI cJ ad o (nI N) (nI (m_n g0 N)) (nI (m_tn g0 g1 g2 N)) pa pe f0 f1 f2 f3 f4 fo ++ mw cI cZ ad2 0 (nI N) pa pe g0 g1 g2) := q_Dc (L := [ad 0, ad 1, ad 2, ad 3, ad 4, ad 5, o, ad2 0, ad2 1, ad2 2, ad2 3]) hD rfl rfl
  refine lv_icmp_eq (tgt := 1808) hx hb dL_law_1423 (by decide) (fun _ => ?_) (fun h9 => absurd (r.lgt hN) h9)
  refine W.widen (k := cells + 24) (n := slots + 125) (by omega) (by omega) ?_
  exact kk _ _ _ _ _ _ _ _ _ _ _ _ _ _ _ H locs ls (h) (r) hP hD hS (lv_sub hl [0, 1, 2, 3, 4] rfl)

set_option maxHeartbeats 4000000 in
set_option maxRecDepth 100000 in
theorem law_costOfAll {p : Program} {l : Launch} {e : Env} {s : State} {m : MethodId} {args : Array Value} {below : List Frame} {meth : Method} {c : Code} {b L : Nat} {xs : Nat → Int32} {D : va_G} {cI cJ cZ : ClassId} {sa ad ad2 : Nat → Nat} {o cells slots i : Nat} {Q : State → Prop}
    (C : law_C p l s m c args b L xs D cI cJ cZ sa) (kk : law_K p l e s m args below meth c b D cI cJ cZ ad ad2 o cells slots Q i) {N : Nat} {w t pa pe : Int32} {f0 f1 f2 f3 f4 : Nat → Int32} {fo : Nat → Int64} {th : Int32} {g0 g1 g2 : Nat → Int32} {H : Heap} {locs : List Loc} {ls : Array Slot}
    (h : Ra N f0 f1 f2 g0 g1 g2) (r : Rw N f3 f4 g0 g1 g2 w t) (hP : va_P D vwCl (lW cI cJ cZ ad ad2 o (nI N) w t pa pe f0 f1 f2 f3 f4 fo th g0 g1 g2) H) (hD : va_D (lA s) (lW cI cJ cZ ad ad2 o (nI N) w t pa pe f0 f1 f2 f3 f4 fo th g0 g1 g2)) (hS : va_S (lA s) s.heap H locs) (hl : lv_has ls 9 (law_L b ad ad2 o i))
    (hi : i + 2 < L) (hc : cells + 24 ≤ 650192) (hs : slots + 125 ≤ 7145529) : W p l e room_1 s m args below meth c H locs cells slots Q (F0 m 1596 ls []) := by
  obtain ⟨hx, hb, hml, hown, hts, hX, hbl, hK, hZ, hN9, hst, hL⟩ := C
  have ew := r.ww
  have et := r.tt
  subst ew
  subst et
  have q := r.rp
  have hN := h.n
  have hn : m_n g0 N ≤ 24 := Nat.le_trans (m_n_le g0 N) hN
  have ht : m_tn g0 g1 g2 N ≤ 24 := by
    have h9 := m_ab_lt (g0 := g0) (g1 := g1) (g2 := g2) hN
    unfold m_tn
    split <;> omega
  have hA : ∀ q : Nat, s.heap.size ≤ q → lA s q := fun _ h => h
  obtain ⟨x1, e1⟩ : ∃ x1, xs (i + 1) = x1 := ⟨_, rfl⟩
  obtain ⟨x2, e2⟩ : ∃ x2, xs (i + 2) = x2 := ⟨_, rfl⟩
  have hl : lv_has ls 9 [(4, .int (nI i)), (3, .ref o), (2, .ref (ad2 0)), (1, .ref (ad 0)), (0, .ref b)] := hl
  refine lv_aload_n hx hb dL_law_1596 rfl (lv_at hl 3 rfl) ?_
  refine q_callV (As := []) (rest := []) ⟨hx, hb, hml, hown, hts⟩ (c_X0_costOfAll l D cI ad (nI N) (m_n g0 N) (nI (m_tn g0 g1 g2 N)) pa pe f0 f1 f2 f3 f4 hn) (cwV 0 hts gL_law_X0_costOfAll rfl rfl rfl kv_X0_costOfAll ⟨Nat.le_of_ble_eq_true rfl, Nat.le_of_ble_eq_true rfl⟩) (va_recv hK hP (ci := 0) (q0 := 0) rfl rfl) (hP.sub [0, 1, 2, 3, 4, 5] rfl) (hK.sub [0] rfl) rfl hl.1 rfl (Nat.le_of_ble_eq_true rfl) dL_law_1597 (show cells ≤ 650192 by omega) (show slots ≤ 7145529 by omega) hS (fun H locs hsm hS => ?_)
  have hP := hsm.P hP
  refine lv_aload_n hx hb dL_law_1600 rfl (lv_at hl 2 rfl) ?_
  refine m_callVI (As := []) (rest := [.int (x_ca f0 f1 f2 f3 ((m_n g0 N) - 1))]) (Wr := (lw cI cJ ad o (nI N) (nI (m_n g0 N)) (nI (m_tn g0 g1 g2 N)) pa pe f0 f1 f2 f3 f4 fo)) (W2 := (lw cI cJ ad o (nI N) (nI (m_n g0 N)) (nI (m_tn g0 g1 g2 N)) pa pe f0 f1 f2 f3 f4 fo ++ mw cI cZ ad2 0 (nI N) pa pe g0 g1 g2)) ⟨hx, hb, hml, hown, hts⟩ (c_X1_costOfAll_ok l D cI cZ ad2 th N pa pe g0 g1 g2 hN) (cwV 0 hts gL_law_X1_costOfAll rfl rfl rfl kv_X1_costOfAll ⟨Nat.le_of_ble_eq_true rfl, Nat.le_of_ble_eq_true rfl⟩) (va_recv hK hP (ci := 1) (q0 := 7) rfl rfl) hP hD (hK.sub [0, 2] rfl) hA [7, 8, 9, 10] [0, 1, 2, 3, 4, 5, 6] [0, 1, 2, 3, 4, 5, 6, 7, 8, 9, 10] rfl rfl rfl rfl rfl (by decide) rfl rfl rfl hl.1 rfl (Nat.le_of_ble_eq_true rfl) dL_law_1601 (show cells ≤ 650192 by omega) (show slots ≤ 7145529 by omega) hS (fun H locs hP hS => ?_)
  have hD : va_D (lA s) (lw cI cJ ad o (nI N) (nI (m_n g0 N)) (nI (m_tn g0 g1 g2 N)) pa pe f0 f1 f2 f3 f4 fo ++ mw cI cZ ad2 0 (nI N) pa pe g0 g1 g2) := q_Dc (L := [ad 0, ad 1, ad 2, ad 3, ad 4, ad 5, o, ad2 0, ad2 1, ad2 2, ad2 3]) hD rfl rfl
  refine lv_icmp_eq (tgt := 1808) hx hb dL_law_1604 (by decide) (fun _ => ?_) (fun h9 => absurd (h.ca q) h9)
  refine W.widen (k := cells + 24) (n := slots + 125) (by omega) (by omega) ?_
  exact kk _ _ _ _ _ _ _ _ _ _ _ _ _ _ _ H locs ls (h) (r) hP hD hS (lv_sub hl [0, 1, 2, 3, 4] rfl)

set_option maxHeartbeats 4000000 in
set_option maxRecDepth 100000 in
theorem law_bestSplice {p : Program} {l : Launch} {e : Env} {s : State} {m : MethodId} {args : Array Value} {below : List Frame} {meth : Method} {c : Code} {b L : Nat} {xs : Nat → Int32} {D : va_G} {cI cJ cZ : ClassId} {sa ad ad2 : Nat → Nat} {o cells slots i : Nat} {Q : State → Prop}
    (C : law_C p l s m c args b L xs D cI cJ cZ sa) (kk : law_K p l e s m args below meth c b D cI cJ cZ ad ad2 o cells slots Q i) {N : Nat} {w t pa pe : Int32} {f0 f1 f2 f3 f4 : Nat → Int32} {fo : Nat → Int64} {th : Int32} {g0 g1 g2 : Nat → Int32} {H : Heap} {locs : List Loc} {ls : Array Slot}
    (h : Ra N f0 f1 f2 g0 g1 g2) (r : Rw N f3 f4 g0 g1 g2 w t) (hP : va_P D vwCl (lW cI cJ cZ ad ad2 o (nI N) w t pa pe f0 f1 f2 f3 f4 fo th g0 g1 g2) H) (hD : va_D (lA s) (lW cI cJ cZ ad ad2 o (nI N) w t pa pe f0 f1 f2 f3 f4 fo th g0 g1 g2)) (hS : va_S (lA s) s.heap H locs) (hl : lv_has ls 9 (law_L b ad ad2 o i))
    (hi : i + 2 < L) (hc : cells + 24 ≤ 650192) (hs : slots + 125 ≤ 7145529) : W p l e room_1 s m args below meth c H locs cells slots Q (F0 m 1665 ls []) := by
  obtain ⟨hx, hb, hml, hown, hts, hX, hbl, hK, hZ, hN9, hst, hL⟩ := C
  have ew := r.ww
  have et := r.tt
  subst ew
  subst et
  have q := r.rp
  have hN := h.n
  have hn : m_n g0 N ≤ 24 := Nat.le_trans (m_n_le g0 N) hN
  have ht : m_tn g0 g1 g2 N ≤ 24 := by
    have h9 := m_ab_lt (g0 := g0) (g1 := g1) (g2 := g2) hN
    unfold m_tn
    split <;> omega
  have hA : ∀ q : Nat, s.heap.size ≤ q → lA s q := fun _ h => h
  obtain ⟨x1, e1⟩ : ∃ x1, xs (i + 1) = x1 := ⟨_, rfl⟩
  obtain ⟨x2, e2⟩ : ∃ x2, xs (i + 2) = x2 := ⟨_, rfl⟩
  have hl : lv_has ls 9 [(4, .int (nI i)), (3, .ref o), (2, .ref (ad2 0)), (1, .ref (ad 0)), (0, .ref b)] := hl
  refine lv_aload_n hx hb dL_law_1665 rfl (lv_at hl 3 rfl) ?_
  refine q_callV (As := []) (rest := []) ⟨hx, hb, hml, hown, hts⟩ (c_X0_bestSplice l D cI ad (nI N) (m_n g0 N) (nI (m_tn g0 g1 g2 N)) pa pe f0 f1 f2 f3 f4 hn) (cwV 0 hts gL_law_X0_bestSplice rfl rfl rfl kv_X0_bestSplice ⟨Nat.le_of_ble_eq_true rfl, Nat.le_of_ble_eq_true rfl⟩) (va_recv hK hP (ci := 0) (q0 := 0) rfl rfl) (hP.sub [0, 1, 2, 3, 4, 5] rfl) (hK.sub [0] rfl) rfl hl.1 rfl (Nat.le_of_ble_eq_true rfl) dL_law_1666 (show cells ≤ 650192 by omega) (show slots ≤ 7145529 by omega) hS (fun H locs hsm hS => ?_)
  have hP := hsm.P hP
  refine lv_aload_n hx hb dL_law_1669 rfl (lv_at hl 2 rfl) ?_
  refine m_callVI (As := []) (rest := [.int ((x_bs f0 f1 f2 f3 ((m_n g0 N) - 1)).1)]) (Wr := (lw cI cJ ad o (nI N) (nI (m_n g0 N)) (nI (m_tn g0 g1 g2 N)) pa pe f0 f1 f2 f3 f4 fo)) (W2 := (lw cI cJ ad o (nI N) (nI (m_n g0 N)) (nI (m_tn g0 g1 g2 N)) pa pe f0 f1 f2 f3 f4 fo ++ mw cI cZ ad2 0 (nI N) pa pe g0 g1 g2)) ⟨hx, hb, hml, hown, hts⟩ (c_X1_bestSplice_ok l D cI cZ ad2 th N pa pe g0 g1 g2 hN) (cwV 0 hts gL_law_X1_bestSplice rfl rfl rfl kv_X1_bestSplice ⟨Nat.le_of_ble_eq_true rfl, Nat.le_of_ble_eq_true rfl⟩) (va_recv hK hP (ci := 1) (q0 := 7) rfl rfl) hP hD (hK.sub [0, 2] rfl) hA [7, 8, 9, 10] [0, 1, 2, 3, 4, 5, 6] [0, 1, 2, 3, 4, 5, 6, 7, 8, 9, 10] rfl rfl rfl rfl rfl (by decide) rfl rfl rfl hl.1 rfl (Nat.le_of_ble_eq_true rfl) dL_law_1670 (show cells ≤ 650192 by omega) (show slots ≤ 7145529 by omega) hS (fun H locs hP hS => ?_)
  have hD : va_D (lA s) (lw cI cJ ad o (nI N) (nI (m_n g0 N)) (nI (m_tn g0 g1 g2 N)) pa pe f0 f1 f2 f3 f4 fo ++ mw cI cZ ad2 0 (nI N) pa pe g0 g1 g2) := q_Dc (L := [ad 0, ad 1, ad 2, ad 3, ad 4, ad 5, o, ad2 0, ad2 1, ad2 2, ad2 3]) hD rfl rfl
  refine lv_icmp_eq (tgt := 1808) hx hb dL_law_1673 (by decide) (fun _ => ?_) (fun h9 => absurd ((h.bs q _ (Nat.le_refl _)).1) h9)
  refine W.widen (k := cells + 24) (n := slots + 125) (by omega) (by omega) ?_
  exact kk _ _ _ _ _ _ _ _ _ _ _ _ _ _ _ H locs ls (h) (r) hP hD hS (lv_sub hl [0, 1, 2, 3, 4] rfl)

set_option maxHeartbeats 4000000 in
set_option maxRecDepth 100000 in
theorem law_meanStrain {p : Program} {l : Launch} {e : Env} {s : State} {m : MethodId} {args : Array Value} {below : List Frame} {meth : Method} {c : Code} {b L : Nat} {xs : Nat → Int32} {D : va_G} {cI cJ cZ : ClassId} {sa ad ad2 : Nat → Nat} {o cells slots i : Nat} {Q : State → Prop}
    (C : law_C p l s m c args b L xs D cI cJ cZ sa) (kk : law_K p l e s m args below meth c b D cI cJ cZ ad ad2 o cells slots Q i) {N : Nat} {w t pa pe : Int32} {f0 f1 f2 f3 f4 : Nat → Int32} {fo : Nat → Int64} {th : Int32} {g0 g1 g2 : Nat → Int32} {H : Heap} {locs : List Loc} {ls : Array Slot}
    (h : Ra N f0 f1 f2 g0 g1 g2) (r : Rw N f3 f4 g0 g1 g2 w t) (hP : va_P D vwCl (lW cI cJ cZ ad ad2 o (nI N) w t pa pe f0 f1 f2 f3 f4 fo th g0 g1 g2) H) (hD : va_D (lA s) (lW cI cJ cZ ad ad2 o (nI N) w t pa pe f0 f1 f2 f3 f4 fo th g0 g1 g2)) (hS : va_S (lA s) s.heap H locs) (hl : lv_has ls 9 (law_L b ad ad2 o i))
    (hi : i + 2 < L) (hc : cells + 24 ≤ 650192) (hs : slots + 125 ≤ 7145529) : W p l e room_1 s m args below meth c H locs cells slots Q (F0 m 1753 ls []) := by
  obtain ⟨hx, hb, hml, hown, hts, hX, hbl, hK, hZ, hN9, hst, hL⟩ := C
  have ew := r.ww
  have et := r.tt
  subst ew
  subst et
  have q := r.rp
  have hN := h.n
  have hn : m_n g0 N ≤ 24 := Nat.le_trans (m_n_le g0 N) hN
  have ht : m_tn g0 g1 g2 N ≤ 24 := by
    have h9 := m_ab_lt (g0 := g0) (g1 := g1) (g2 := g2) hN
    unfold m_tn
    split <;> omega
  have hA : ∀ q : Nat, s.heap.size ≤ q → lA s q := fun _ h => h
  obtain ⟨x1, e1⟩ : ∃ x1, xs (i + 1) = x1 := ⟨_, rfl⟩
  obtain ⟨x2, e2⟩ : ∃ x2, xs (i + 2) = x2 := ⟨_, rfl⟩
  have hl : lv_has ls 9 [(4, .int (nI i)), (3, .ref o), (2, .ref (ad2 0)), (1, .ref (ad 0)), (0, .ref b)] := hl
  refine lv_aload_n hx hb dL_law_1753 rfl (lv_at hl 3 rfl) ?_
  refine q_callVF (As := []) (rest := []) ⟨hx, hb, hml, hown, hts⟩ (c_X0_meanStrain l D cI ad (nI N) (m_n g0 N) (nI (m_tn g0 g1 g2 N)) pa pe f0 f1 f2 f3 f4 hn (fun h9 => by rw [h.ss q]; exact h.hnn h9)) (cwV 0 hts gL_law_X0_meanStrain rfl rfl rfl kv_X0_meanStrain ⟨Nat.le_of_ble_eq_true rfl, Nat.le_of_ble_eq_true rfl⟩) (va_recv hK hP (ci := 0) (q0 := 0) rfl rfl) (hP.sub [0, 1, 2, 3, 4, 5] rfl) (hK.sub [0] rfl) rfl hl.1 rfl (Nat.le_of_ble_eq_true rfl) dL_law_1754 (show cells ≤ 650192 by omega) (show slots ≤ 7145529 by omega) hS (fun H locs hsm hS => ?_)
  have hP := hsm.P hP
  rw [h.ms q]
  refine lv_dstore (lv' := [(5, .double (m_ms g0 N)), (4, .int (nI i)), (3, .ref o), (2, .ref (ad2 0)), (1, .ref (ad 0)), (0, .ref b)]) hx hb dL_law_1757 hl (by decide) rfl (fun ls hl => ?_)
  refine lv_aload_n hx hb dL_law_1759 rfl (lv_at hl 3 rfl) ?_
  refine m_callVF (As := []) (rest := []) (Wr := (lw cI cJ ad o (nI N) (nI (m_n g0 N)) (nI (m_tn g0 g1 g2 N)) pa pe f0 f1 f2 f3 f4 fo)) (W2 := (lw cI cJ ad o (nI N) (nI (m_n g0 N)) (nI (m_tn g0 g1 g2 N)) pa pe f0 f1 f2 f3 f4 fo ++ mw cI cZ ad2 0 (nI N) pa pe g0 g1 g2)) ⟨hx, hb, hml, hown, hts⟩ (c_X1_meanStrain_ok l D cI cZ ad2 th N pa pe g0 g1 g2 hN (fun h9 => h.hnn h9)) (cwV 0 hts gL_law_X1_meanStrain rfl rfl rfl kv_X1_meanStrain ⟨Nat.le_of_ble_eq_true rfl, Nat.le_of_ble_eq_true rfl⟩) (va_recv hK hP (ci := 1) (q0 := 7) rfl rfl) hP hD (hK.sub [0, 2] rfl) hA [7, 8, 9, 10] [0, 1, 2, 3, 4, 5, 6] [0, 1, 2, 3, 4, 5, 6, 7, 8, 9, 10] rfl rfl rfl rfl rfl (by decide) rfl rfl rfl hl.1 rfl (Nat.le_of_ble_eq_true rfl) dL_law_1760 (show cells ≤ 650192 by omega) (show slots ≤ 7145529 by omega) hS (fun H locs hP hS => ?_)
  have hD : va_D (lA s) (lw cI cJ ad o (nI N) (nI (m_n g0 N)) (nI (m_tn g0 g1 g2 N)) pa pe f0 f1 f2 f3 f4 fo ++ mw cI cZ ad2 0 (nI N) pa pe g0 g1 g2) := q_Dc (L := [ad 0, ad 1, ad 2, ad 3, ad 4, ad 5, o, ad2 0, ad2 1, ad2 2, ad2 3]) hD rfl rfl
  refine lv_dstore (lv' := [(7, .double (m_ms g0 N)), (5, .double (m_ms g0 N)), (4, .int (nI i)), (3, .ref o), (2, .ref (ad2 0)), (1, .ref (ad 0)), (0, .ref b)]) hx hb dL_law_1763 hl (by decide) rfl (fun ls hl => ?_)
  obtain ⟨v9, hv0⟩ : ∃ v, v = Op.cmpValue (FP.dcmp (m_ms g0 N) (m_ms g0 N)) CmpOp.l := ⟨_, rfl⟩
  refine lv_dload hx hb dL_law_1765 (lv_at hl 1 rfl) ?_
  refine lv_dload hx hb dL_law_1767 (lv_at hl 0 rfl) ?_
  refine lv_dcmp hx hb dL_law_1769 ?_
  rw [← hv0]
  suffices K : ∀ ls : Array Slot, lv_has ls 9 [(7, .double (m_ms g0 N)), (5, .double (m_ms g0 N)), (4, .int (nI i)), (3, .ref o), (2, .ref (ad2 0)), (1, .ref (ad 0)), (0, .ref b)] → W p l e room_1 s m args below meth c H locs cells slots Q (F0 m 1791 ls []) from by
    refine lv_if_eq (tgt := 1791) hx hb dL_law_1770 (by decide) (fun _ => K _ hl) (fun h9 => ?_)
    refine lv_dload hx hb dL_law_1773 (lv_at hl 1 rfl) ?_
    refine lv_dload hx hb dL_law_1775 (lv_at hl 1 rfl) ?_
    refine lv_dcmp hx hb dL_law_1777 ?_
    rw [← hv0]
    refine lv_if_eq (tgt := 1789) hx hb dL_law_1778 (by decide) (fun h8 => absurd h8 h9) (fun _ => ?_)
    refine lv_dload hx hb dL_law_1781 (lv_at hl 0 rfl) ?_
    refine lv_dload hx hb dL_law_1783 (lv_at hl 0 rfl) ?_
    refine lv_dcmp hx hb dL_law_1785 ?_
    rw [← hv0]
    exact lv_if_ne (tgt := 1791) hx hb dL_law_1786 (by decide) (fun _ => K _ hl) (fun h8 => absurd h8 h9)
  intro ls hl
  refine lv_goto (tgt := 1808) hx hb dL_law_1791 (by decide) ?_
  refine W.widen (k := cells + 24) (n := slots + 125) (by omega) (by omega) ?_
  exact kk _ _ _ _ _ _ _ _ _ _ _ _ _ _ _ H locs ls (h) (r) hP hD hS (lv_sub hl [2, 3, 4, 5, 6] rfl)

set_option maxHeartbeats 4000000 in
set_option maxRecDepth 100000 in
theorem law_digest {p : Program} {l : Launch} {e : Env} {s : State} {m : MethodId} {args : Array Value} {below : List Frame} {meth : Method} {c : Code} {b L : Nat} {xs : Nat → Int32} {D : va_G} {cI cJ cZ : ClassId} {sa ad ad2 : Nat → Nat} {o cells slots i : Nat} {Q : State → Prop}
    (C : law_C p l s m c args b L xs D cI cJ cZ sa) (kk : law_K p l e s m args below meth c b D cI cJ cZ ad ad2 o cells slots Q i) {N : Nat} {w t pa pe : Int32} {f0 f1 f2 f3 f4 : Nat → Int32} {fo : Nat → Int64} {th : Int32} {g0 g1 g2 : Nat → Int32} {H : Heap} {locs : List Loc} {ls : Array Slot}
    (h : Ra N f0 f1 f2 g0 g1 g2) (r : Rw N f3 f4 g0 g1 g2 w t) (hP : va_P D vwCl (lW cI cJ cZ ad ad2 o (nI N) w t pa pe f0 f1 f2 f3 f4 fo th g0 g1 g2) H) (hD : va_D (lA s) (lW cI cJ cZ ad ad2 o (nI N) w t pa pe f0 f1 f2 f3 f4 fo th g0 g1 g2)) (hS : va_S (lA s) s.heap H locs) (hl : lv_has ls 9 (law_L b ad ad2 o i))
    (hi : i + 2 < L) (hc : cells + 24 ≤ 650192) (hs : slots + 125 ≤ 7145529) : W p l e room_1 s m args below meth c H locs cells slots Q (F0 m 1794 ls []) := by
  obtain ⟨hx, hb, hml, hown, hts, hX, hbl, hK, hZ, hN9, hst, hL⟩ := C
  have ew := r.ww
  have et := r.tt
  subst ew
  subst et
  have q := r.rp
  have hN := h.n
  have hn : m_n g0 N ≤ 24 := Nat.le_trans (m_n_le g0 N) hN
  have ht : m_tn g0 g1 g2 N ≤ 24 := by
    have h9 := m_ab_lt (g0 := g0) (g1 := g1) (g2 := g2) hN
    unfold m_tn
    split <;> omega
  have hA : ∀ q : Nat, s.heap.size ≤ q → lA s q := fun _ h => h
  obtain ⟨x1, e1⟩ : ∃ x1, xs (i + 1) = x1 := ⟨_, rfl⟩
  obtain ⟨x2, e2⟩ : ∃ x2, xs (i + 2) = x2 := ⟨_, rfl⟩
  have hl : lv_has ls 9 [(4, .int (nI i)), (3, .ref o), (2, .ref (ad2 0)), (1, .ref (ad 0)), (0, .ref b)] := hl
  refine lv_aload_n hx hb dL_law_1794 rfl (lv_at hl 3 rfl) ?_
  refine q_callVL (As := []) (rest := []) ⟨hx, hb, hml, hown, hts⟩ (c_X0_digest l D cI ad N (m_n g0 N) (m_tn g0 g1 g2 N) pa pe f0 f1 f2 f3 f4 hN hn ht) (cwV 0 hts gL_law_X0_digest rfl rfl rfl kv_X0_digest ⟨Nat.le_of_ble_eq_true rfl, Nat.le_of_ble_eq_true rfl⟩) (va_recv hK hP (ci := 0) (q0 := 0) rfl rfl) (hP.sub [0, 1, 2, 3, 4, 5] rfl) (hK.sub [0] rfl) rfl hl.1 rfl (Nat.le_of_ble_eq_true rfl) dL_law_1795 (show cells ≤ 650192 by omega) (show slots ≤ 7145529 by omega) hS (fun H locs hsm hS => ?_)
  have hP := hsm.P hP
  refine lv_aload_n hx hb dL_law_1798 rfl (lv_at hl 2 rfl) ?_
  refine m_callVL (As := []) (rest := [.long (x_dg pa pe f0 f1 f2 f3 f4 (m_n g0 N) N (m_tn g0 g1 g2 N))]) (Wr := (lw cI cJ ad o (nI N) (nI (m_n g0 N)) (nI (m_tn g0 g1 g2 N)) pa pe f0 f1 f2 f3 f4 fo)) (W2 := (lw cI cJ ad o (nI N) (nI (m_n g0 N)) (nI (m_tn g0 g1 g2 N)) pa pe f0 f1 f2 f3 f4 fo ++ mw cI cZ ad2 0 (nI N) pa pe g0 g1 g2)) ⟨hx, hb, hml, hown, hts⟩ (c_X1_digest_ok l D cI cZ ad2 th N pa pe g0 g1 g2 hN) (cwV 0 hts gL_law_X1_digest rfl rfl rfl kv_X1_digest ⟨Nat.le_of_ble_eq_true rfl, Nat.le_of_ble_eq_true rfl⟩) (va_recv hK hP (ci := 1) (q0 := 7) rfl rfl) hP hD (hK.sub [0, 2] rfl) hA [7, 8, 9, 10] [0, 1, 2, 3, 4, 5, 6] [0, 1, 2, 3, 4, 5, 6, 7, 8, 9, 10] rfl rfl rfl rfl rfl (by decide) rfl rfl rfl hl.1 rfl (Nat.le_of_ble_eq_true rfl) dL_law_1799 (show cells + 24 ≤ 650192 by omega) (show slots + 125 ≤ 7145529 by omega) hS (fun H locs hP hS => ?_)
  have hD : va_D (lA s) (lw cI cJ ad o (nI N) (nI (m_n g0 N)) (nI (m_tn g0 g1 g2 N)) pa pe f0 f1 f2 f3 f4 fo ++ mw cI cZ ad2 0 (nI N) pa pe g0 g1 g2) := q_Dc (L := [ad 0, ad 1, ad 2, ad 3, ad 4, ad 5, o, ad2 0, ad2 1, ad2 2, ad2 3]) hD rfl rfl
  refine l_lcmp0 hx hb (h.dg r pa pe) dL_law_1802 ?_
  refine lv_if_eq (tgt := 1808) hx hb dL_law_1803 (by decide) (fun _ => ?_) (fun h9 => absurd rfl h9)
  refine W.widen (k := cells + 24) (n := slots + 125) (by omega) (by omega) ?_
  exact kk _ _ _ _ _ _ _ _ _ _ _ _ _ _ _ H locs ls (h) (r) hP hD hS (lv_sub hl [0, 1, 2, 3, 4] rfl)
