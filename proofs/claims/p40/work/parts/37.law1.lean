/-! own rows: the law's turn, from its end to its start -/
def lA (s : State) : Nat → Prop := fun q => s.heap.size ≤ q
abbrev lt3 (cI cA cZ : ClassId) : List (ClassId × FieldType) := [(cI, .int), (cA, .array .int), (cZ, .boolean)]
def lC (p : Program) (s : State) (m : MethodId) (c : Code) (args : Array Value) (b L : Nat) (xs : Nat → Int32) (D : va_G) (cI cA cZ : ClassId) (ad : Nat → Nat) (q0 : Nat) : Prop :=
  p.tables.exec = Jvm.exec ∧ c.code = cL_law ∧ c.maxLocals = 26 ∧ (∀ w ∈ wsL_law, w.before args s = true) ∧ s.vm.findClass RL = some m.cls ∧ va_K D vwCl (lt3 cI cA cZ) s ∧ n_O s ∧ tX ad q0 ∧ (∀ k, k < 6 → s.heap.size ≤ ad k) ∧ s.heap.size ≤ q0 ∧ va_X b L xs s s.heap ∧ b < s.heap.size ∧ L < 2 ^ 30
def lS (D : va_G) (cI cA : ClassId) (ad : Nat → Nat) (S q0 N pa : Nat) (pe : Int32) (f0 f1 f2 f3 f4 g0 g1 g2 : Nat → Int32) (O : Nat) (r : Nat → Nat) (H : Heap) : Prop :=
  tR N f0 f1 f2 f3 f4 g0 g1 g2 ∧ va_P D vwCl (tW cI ad N pa pe f0 f1 f2 f3 f4 g0 g1 g2) H ∧ sG D cI cA S O N r g0 g1 g2 (nI pa) pe H ∧ sX N S O r q0 ∧ pa ≤ 99
theorem lS.kept {D : va_G} {cI cA : ClassId} {ad : Nat → Nat} {S q0 N pa : Nat} {pe : Int32} {f0 f1 f2 f3 f4 g0 g1 g2 : Nat → Int32} {O : Nat} {r : Nat → Nat} {H H1 : Heap} (h : lS D cI cA ad S q0 N pa pe f0 f1 f2 f3 f4 g0 g1 g2 O r H) (hq : q_same H H1) : lS D cI cA ad S q0 N pa pe f0 f1 f2 f3 f4 g0 g1 g2 O r H1 :=
  ⟨h.1, hq.P h.2.1, h.2.2.1.kept hq, h.2.2.2⟩
theorem lS.st {D : va_G} {cI cA : ClassId} {ad : Nat → Nat} {S q0 N pa : Nat} {pe : Int32} {f0 f1 f2 f3 f4 g0 g1 g2 : Nat → Int32} {O : Nat} {r : Nat → Nat} {H : Heap} (h : lS D cI cA ad S q0 N pa pe f0 f1 f2 f3 f4 g0 g1 g2 O r H) : zST D cI cA ad S q0 H :=
  ⟨N, _, _, pa, pe, f0, f1, f2, f3, f4, g0, g1, g2, O, r, h.1.1, h.1.2.1, h.1.2.2, h.2.2.2.2, h.2.1, h.2.2.1, h.2.2.2.1⟩
def lL (b : Nat) (ad : Nat → Nat) (S T : Nat) : List (Nat × Value) := [(3, .int (nI T)), (0, .ref b), (1, .ref (ad 0)), (2, .ref S)]
/-- the turn's end -/
def lK (p : Program) (l : Launch) (e : Env) (s : State) (m : MethodId) (args : Array Value) (below : List Frame) (meth : Method) (c : Code) (b : Nat) (D : va_G) (cI cA : ClassId) (ad : Nat → Nat) (S q0 T cells slots : Nat) (Q : State → Prop) : Prop :=
  ∀ (H : Heap) (locs : List Loc) (ls : Array Slot), zST D cI cA ad S q0 H → va_S (lA s) s.heap H locs → lv_has ls 26 (lL b ad S T) → W p l e room_1 s m args below meth c H locs (cells + 4) (slots + 60) Q (F0 m 1047 ls [])
def z_at (g0 : Nat → Int32) (N w : Nat) : Int32 := if w = 0 then -1 else nI (m_P g0 N (w - 1))
theorem at_lt {g0 : Nat → Int32} {N w : Nat} (hN : N ≤ 24) (h : w < m_n g0 N) : ¬ nI (m_P g0 N w) ≤ z_at g0 N w := by
  have h1 := m_P_lt h
  unfold z_at
  by_cases z : w = 0
  · rw [if_pos z]
    have : ∀ k, k < 24 → ¬ nI k ≤ -1 := by decide +kernel
    exact this _ (by omega)
  · rw [if_neg z]
    exact nI_ge (m_P_up (show w - 1 < w by omega) h) (by omega)
theorem mn_nlt {a b c : Nat} (h1 : c ≤ a) (h2 : c ≤ b) (ha : a < 2 ^ 31) (hb : b < 2 ^ 31) : ¬ (if nI a < nI b then nI a else nI b) < nI c := by
  split
  · exact nI_nlt h1 ha
  · exact nI_nlt h2 hb
theorem nI_le0 {a : Nat} (ha : a < 2 ^ 31) : nI a ≤ 0 ↔ a = 0 := by
  constructor
  · intro h
    rcases Nat.eq_zero_or_pos a with q | q
    · exact q
    · exact absurd h (nI_nle q ha)
  · intro h
    rw [h]
    decide
theorem lg_neg {g0 g1 g2 : Nat → Int32} {N : Nat} (hN : N ≤ 24) : m_lg g0 g1 g2 N (m_tn g0 g1 g2 N) < 0 ↔ m_n g0 N = 0 := by
  have ht := tn_le (N := N) (g0 := g0) (g1 := g1) (g2 := g2)
  have hm := m_n_le g0 N
  constructor
  · intro h
    rcases Nat.eq_zero_or_pos (m_n g0 N) with q | q
    · exact q
    · obtain ⟨j, hj, e⟩ := m_lg_b g0 g1 g2 N (m_tn g0 g1 g2 N) (by omega) (by unfold m_tn; rw [if_neg (by omega)]; omega)
      rw [e] at h
      exact absurd h (nI_pos (by omega))
  · intro h
    have : m_tn g0 g1 g2 N = 0 := by unfold m_tn; rw [if_pos h]
    rw [this]
    show (-1 : Int32) < 0
    decide

set_option maxHeartbeats 4000000 in
set_option maxRecDepth 100000 in
theorem law_1001 {p : Program} {l : Launch} {e : Env} {s : State} {m : MethodId} {args : Array Value} {below : List Frame} {meth : Method} {c : Code} {Q : State → Prop} {b L : Nat} {xs : Nat → Int32} {Hb : Heap} {D : va_G} {cI cA cZ : ClassId} {ad : Nat → Nat} {S q0 N pa T cells slots : Nat} {pe : Int32} {g0 g1 g2 : Nat → Int32} {a15 a16 : Nat} {E0 E1 E2 E3 E4 G0 G1 G2 : Nat → Int32} (hC : lC p s m c args b L xs D cI cA cZ ad q0) (hcl : cells ≤ 600172) (hsl : slots ≤ 7300668) (hN24 : N ≤ 24) (hR2 : tR (N + 1) E0 E1 E2 E3 E4 G0 G1 G2) (HTb : va_P D vwCl (tW cI ad (N + 1) pa pe E0 E1 E2 E3 E4 G0 G1 G2) Hb) (HZ : zST D cI cA ad S q0 Hb) (hn2 : m_n g0 N ≤ m_n G0 (N + 1)) (hst : ∀ k, k + 1 < m_n g0 N → m_st G0 (N + 1) k = m_st g0 N k) (hbr : ∀ k, k + 1 < m_n g0 N → m_br G0 G1 G2 (N + 1) k = m_br g0 g1 g2 N k)
    (K : ∀ (H : Heap) (locs : List Loc) (ls : Array Slot), zST D cI cA ad S q0 H → va_S (lA s) s.heap H locs → lv_has ls 26 (lL b ad S T) → W p l e room_1 s m args below meth c H locs cells slots Q (F0 m 1047 ls [])) : ∀ (H : Heap) (locs : List Loc) (ls : Array Slot), q_same Hb H → aI cI (m_n g0 N - 1) (fun k => if k < (m_n g0 N - 1) then m_st g0 N k else 0) a15 H → aI cZ (m_n g0 N - 1) (fun k => if k < (m_n g0 N - 1) then bI (m_br g0 g1 g2 N k) else 0) a16 H → va_S (lA s) s.heap H locs → lv_has ls 26 [(7, .int (nI (m_n g0 N - 1))), (15, .ref a15), (16, .ref a16), (3, .int (nI T)), (0, .ref b), (1, .ref (ad 0)), (2, .ref S)] → W p l e room_1 s m args below meth c H locs cells slots Q (F0 m 1001 ls []) := by
  intro H locs ls hq h15 h16 hS hl
  obtain ⟨hx, hb, hml, hts, hown, hK, hO, htX, hta, hq0, hXs, hbl, hL⟩ := id hC
  have hm9 := m_n_le g0 N
  have HT := hq.P HTb
  refine lv_iconst (v := 0) hx hb dL_law_1001 (by decide) ?_
  refine lv_istore (lv' := [(25, .int 0), (7, .int (nI (m_n g0 N - 1))), (15, .ref a15), (16, .ref a16), (3, .int (nI T)), (0, .ref b), (1, .ref (ad 0)), (2, .ref S)]) hx hb dL_law_1002 hl (by decide) rfl (fun ls hl => ?_)
  have lo_1004 : ∀ (fu1004 k : Nat), (m_n g0 N - 1) - k < fu1004 → k ≤ (m_n g0 N - 1) → ∀ (H : Heap) (locs : List Loc) (ls : Array Slot), q_same Hb H → aI cI (m_n g0 N - 1) (fun k => if k < (m_n g0 N - 1) then m_st g0 N k else 0) a15 H → aI cZ (m_n g0 N - 1) (fun k => if k < (m_n g0 N - 1) then bI (m_br g0 g1 g2 N k) else 0) a16 H → va_S (lA s) s.heap H locs → lv_has ls 26 [(25, .int (nI k)), (7, .int (nI (m_n g0 N - 1))), (15, .ref a15), (16, .ref a16), (3, .int (nI T)), (0, .ref b), (1, .ref (ad 0)), (2, .ref S)] → W p l e room_1 s m args below meth c H locs cells slots Q (F0 m 1004 ls []) := by
    intro fu1004
    induction fu1004 with
    | zero => intro k hi; exact absurd hi (Nat.not_lt_zero _)
    | succ fu1004 ih1004 =>
      intro k hi1004 hkN H locs ls hq h15 h16 hS hl
      refine lv_iload hx hb dL_law_1004 (lv_at hl 0 rfl) ?_
      have HT := hq.P HTb
      refine lv_iload hx hb dL_law_1006 (lv_at hl 1 rfl) ?_
      refine lv_icmp_ge (tgt := 1047) hx hb dL_law_1008 (by decide) (fun c_1008 => ?_) (fun c_1008 => ?_)
      · exact K H locs ls (HZ.kept hq) hS (lv_sub hl [4, 5, 6, 7] rfl)
      · have hk9 : k < (m_n g0 N - 1) := nI_lt' hkN (by omega) c_1008
        refine lv_aload_n hx hb dL_law_1011 rfl (lv_at hl 6 rfl) ?_
        refine lv_iload hx hb dL_law_1012 (lv_at hl 0 rfl) ?_
        refine q_callV (As := [.int (nI k)]) (rest := []) ⟨hx, hb, hml, hown, hts⟩ (d_strainOf l D cI ad (N + 1) pa pe E0 E1 E2 E3 E4 G0 G1 G2 hR2 k (by omega)) (cwV 1 hts gL_law_X0_strainOf rfl rfl rfl kv_X0_strainOf ⟨Nat.le_of_ble_eq_true rfl, Nat.le_of_ble_eq_true rfl⟩) (va_recv hK HT (ci := 0) (q0 := 0) rfl rfl) HT (hK.sub [0] rfl) rfl hl.1 rfl (Nat.le_of_ble_eq_true rfl) dL_law_1014 (by show cells ≤ 600172; omega) (by show slots ≤ 7300668; omega) hS (fun H locs hsm hS => ?_)
        have hq := hq.tr hsm
        have HT := hq.P HTb
        have h15 := z_kp h15 hsm
        have h16 := z_kp h16 hsm
        rw [hst k (by omega)]
        refine lv_aload hx hb dL_law_1017 (lv_at hl 2 rfl) ?_
        refine lv_iload hx hb dL_law_1019 (lv_at hl 0 rfl) ?_
        refine z_iald hx hb hK 0 rfl h15 k rfl (hk9) (by omega) dL_law_1021 ?_
        rw [if_pos hk9]
        refine lv_icmp_ne (tgt := 1039) hx hb dL_law_1022 (by decide) (fun c_1022 => absurd rfl c_1022) (fun c_1022 => ?_)
        refine lv_aload_n hx hb dL_law_1025 rfl (lv_at hl 6 rfl) ?_
        refine lv_iload hx hb dL_law_1026 (lv_at hl 0 rfl) ?_
        refine q_callV (As := [.int (nI k)]) (rest := []) ⟨hx, hb, hml, hown, hts⟩ (d_isBroken l D cI ad (N + 1) pa pe E0 E1 E2 E3 E4 G0 G1 G2 hR2 k (by omega)) (cwV 1 hts gL_law_X0_isBroken rfl rfl rfl kv_X0_isBroken ⟨Nat.le_of_ble_eq_true rfl, Nat.le_of_ble_eq_true rfl⟩) (va_recv hK HT (ci := 0) (q0 := 0) rfl rfl) HT (hK.sub [0] rfl) rfl hl.1 rfl (Nat.le_of_ble_eq_true rfl) dL_law_1028 (by show cells ≤ 600172; omega) (by show slots ≤ 7300668; omega) hS (fun H locs hsm hS => ?_)
        have hq := hq.tr hsm
        have HT := hq.P HTb
        have h15 := z_kp h15 hsm
        have h16 := z_kp h16 hsm
        rw [hbr k (by omega)]
        refine lv_aload hx hb dL_law_1031 (lv_at hl 3 rfl) ?_
        refine lv_iload hx hb dL_law_1033 (lv_at hl 0 rfl) ?_
        refine z_zald hx hb hK 2 rfl h16 k rfl (hk9) (by omega) dL_law_1035 ?_
        rw [if_pos hk9]
        refine lv_icmp_eq (tgt := 1041) hx hb dL_law_1036 (by decide) (fun c_1036 => ?_) (fun c_1036 => absurd rfl c_1036)
        refine lv_iinc (v := (nI k + 1)) (lv' := [(25, .int (nI k + 1)), (7, .int (nI (m_n g0 N - 1))), (15, .ref a15), (16, .ref a16), (3, .int (nI T)), (0, .ref b), (1, .ref (ad 0)), (2, .ref S)]) hx hb dL_law_1041 hl (k := 0) rfl (by rfl) (by decide) rfl (fun ls hl => ?_)
        refine lv_goto (tgt := 1004) hx hb dL_law_1044 (by decide) ?_
        have e_25 : ((nI k + 1) : Int32) = nI (k + 1) := nI_1 k
        exact ih1004 (k + 1) (by omega) (by omega) _ locs ls hq h15 h16 hS (lv_eq (lv_sub (l' := [(25, .int (nI k + 1)), (7, .int (nI (m_n g0 N - 1))), (15, .ref a15), (16, .ref a16), (3, .int (nI T)), (0, .ref b), (1, .ref (ad 0)), (2, .ref S)]) hl [0, 1, 2, 3, 4, 5, 6, 7] rfl) (by rw [e_25]))
  exact lo_1004 ((m_n g0 N - 1) + 1) 0 (by omega) (by omega) _ locs ls hq h15 h16 hS (lv_sub hl [0, 1, 2, 3, 4, 5, 6, 7] rfl)

set_option maxHeartbeats 4000000 in
set_option maxRecDepth 100000 in
theorem law_872 {p : Program} {l : Launch} {e : Env} {s : State} {m : MethodId} {args : Array Value} {below : List Frame} {meth : Method} {c : Code} {Q : State → Prop} {b L : Nat} {xs : Nat → Int32} {Hb : Heap} {D : va_G} {cI cA cZ : ClassId} {ad : Nat → Nat} {S q0 N pa T cells slots : Nat} {pe : Int32} {f0 f1 f2 f3 f4 g0 g1 g2 : Nat → Int32} {O : Nat} {r : Nat → Nat} {a15 a16 : Nat} {x : Int32} (hC : lC p s m c args b L xs D cI cA cZ ad q0) (hI : lS D cI cA ad S q0 N pa pe f0 f1 f2 f3 f4 g0 g1 g2 O r Hb) (hb0 : s.heap.size ≤ Hb.size) (hcl : cells + 4 ≤ 600172) (hsl : slots + 60 ≤ 7300668) (hx15 : Hb.size ≤ a15) (hx16 : a15 < a16) (K : lK p l e s m args below meth c b D cI cA ad S q0 T cells slots Q) : ∀ (H : Heap) (locs : List Loc) (ls : Array Slot), q_same Hb H → aI cI (m_n g0 N - 1) (fun k => if k < (m_n g0 N - 1) then m_st g0 N k else 0) a15 H → aI cZ (m_n g0 N - 1) (fun k => if k < (m_n g0 N - 1) then bI (m_br g0 g1 g2 N k) else 0) a16 H → va_S (lA s) s.heap H locs → lv_has ls 26 [(6, .int (nI N)), (4, .int x), (5, .int (nI (m_n g0 N))), (7, .int (nI (m_n g0 N - 1))), (15, .ref a15), (16, .ref a16), (3, .int (nI T)), (0, .ref b), (1, .ref (ad 0)), (2, .ref S)] → W p l e room_1 s m args below meth c H locs cells slots Q (F0 m 872 ls []) := by
  intro H locs ls hq h15 h16 hS hl
  obtain ⟨hx, hb, hml, hts, hown, hK, hO, htX, hta, hq0, hXs, hbl, hL⟩ := id hC
  have hR := hI.1
  have hpa := hI.2.2.2.2
  obtain ⟨-, HT, HP, hX, -⟩ := hI.kept hq
  have hin : ∀ w ∈ wsX10, w ∈ wsL_law := inlX1
  have hN24 := hR.1.n
  have hm9 := m_n_le g0 N
  have hw := hR.1.ok
  have htn := tn_le (N := N) (g0 := g0) (g1 := g1) (g2 := g2)
  have hA9 : ∀ q : Nat, s.heap.size ≤ q → lA s q := fun q h => h
  have HTb := hI.2.1
  have hSb := hI.2.2.1
  have h15b := h15
  have h16b := h16
  have hqq : q0 ≤ a15 := by have := sS.lt hSb.1; have := hX.1; omega
  refine lv_iload hx hb dL_law_872 (lv_at hl 0 rfl) ?_
  refine lv_bipush (v := 24) hx hb dL_law_874 (by decide) ?_
  refine lv_icmp_ne (tgt := 882) hx hb dL_law_876 (by decide) (fun c_876 => ?_) (fun c_876 => ?_)
  · have hN : N < 24 := by
      rcases Nat.lt_or_ge N 24 with q | q
      · exact q
      · exact absurd (show nI N = 24 from congrArg nI (show N = 24 by omega)) c_876
    refine lv_iload hx hb dL_law_882 (lv_at hl 1 rfl) ?_
    refine lv_iconst (v := 2) hx hb dL_law_884 (by decide) ?_
    refine lv_ishr hx hb dL_law_885 ?_
    refine lv_bipush (v := 6) hx hb dL_law_886 (by decide) ?_
    refine p_callS (As := [.int (x >>> (2 &&& 31)), .int 6]) (rest := []) ⟨hx, hb, hml, hown, hts⟩ (c_L_below l D (x >>> (2 &&& 31)) 6 (by decide) (by decide)) (va_cwS 2 hts gL_law_L_below rfl rfl rfl ks_L_below ⟨Nat.le_of_ble_eq_true rfl, Nat.le_of_ble_eq_true rfl⟩) pH.mv (p_at (Z := zTr) trivial) (hK.sub [] rfl) rfl hl.1 rfl (Nat.le_of_ble_eq_true rfl) dL_law_888 (by show cells ≤ 600172; omega) (by show slots ≤ 7300668; omega) hS (fun H locs hsm hS => ?_)
    have hq := hq.tr hsm
    obtain ⟨-, HT, HP, -⟩ := hI.kept hq
    have h15 := z_kp h15 hsm
    have h16 := z_kp h16 hsm
    refine lv_istore (lv' := [(22, .int (nI (z_lo (x >>> (2 &&& 31)) % 6))), (6, .int (nI N)), (4, .int x), (5, .int (nI (m_n g0 N))), (7, .int (nI (m_n g0 N - 1))), (15, .ref a15), (16, .ref a16), (3, .int (nI T)), (0, .ref b), (1, .ref (ad 0)), (2, .ref S)]) hx hb dL_law_891 hl (by decide) rfl (fun ls hl => ?_)
    refine lv_iload hx hb dL_law_893 (lv_at hl 2 rfl) ?_
    refine lv_iconst (v := 3) hx hb dL_law_895 (by decide) ?_
    refine lv_ishr hx hb dL_law_896 ?_
    refine lv_bipush (v := 10) hx hb dL_law_897 (by decide) ?_
    refine p_callS (As := [.int (x >>> (3 &&& 31)), .int 10]) (rest := []) ⟨hx, hb, hml, hown, hts⟩ (c_L_below l D (x >>> (3 &&& 31)) 10 (by decide) (by decide)) (va_cwS 2 hts gL_law_L_below rfl rfl rfl ks_L_below ⟨Nat.le_of_ble_eq_true rfl, Nat.le_of_ble_eq_true rfl⟩) pH.mv (p_at (Z := zTr) trivial) (hK.sub [] rfl) rfl hl.1 rfl (Nat.le_of_ble_eq_true rfl) dL_law_899 (by show cells ≤ 600172; omega) (by show slots ≤ 7300668; omega) hS (fun H locs hsm hS => ?_)
    have hq := hq.tr hsm
    obtain ⟨-, HT, HP, -⟩ := hI.kept hq
    have h15 := z_kp h15 hsm
    have h16 := z_kp h16 hsm
    refine lv_istore (lv' := [(23, .int (nI (z_lo (x >>> (3 &&& 31)) % 10))), (22, .int (nI (z_lo (x >>> (2 &&& 31)) % 6))), (6, .int (nI N)), (4, .int x), (5, .int (nI (m_n g0 N))), (7, .int (nI (m_n g0 N - 1))), (15, .ref a15), (16, .ref a16), (3, .int (nI T)), (0, .ref b), (1, .ref (ad 0)), (2, .ref S)]) hx hb dL_law_902 hl (by decide) rfl (fun ls hl => ?_)
    refine lv_iload hx hb dL_law_904 (lv_at hl 3 rfl) ?_
    refine lv_iconst (v := 2) hx hb dL_law_906 (by decide) ?_
    refine p_callS (As := [.int x, .int 2]) (rest := []) ⟨hx, hb, hml, hown, hts⟩ (c_L_below l D x 2 (by decide) (by decide)) (va_cwS 2 hts gL_law_L_below rfl rfl rfl ks_L_below ⟨Nat.le_of_ble_eq_true rfl, Nat.le_of_ble_eq_true rfl⟩) pH.mv (p_at (Z := zTr) trivial) (hK.sub [] rfl) rfl hl.1 rfl (Nat.le_of_ble_eq_true rfl) dL_law_907 (by show cells ≤ 600172; omega) (by show slots ≤ 7300668; omega) hS (fun H locs hsm hS => ?_)
    have hq := hq.tr hsm
    obtain ⟨-, HT, HP, -⟩ := hI.kept hq
    have h15 := z_kp h15 hsm
    have h16 := z_kp h16 hsm
    refine lv_if_ne (tgt := 917) hx hb dL_law_910 (by decide) (fun c_910 => ?_) (fun c_910 => ?_)
    · refine lv_iconst (v := 0) hx hb dL_law_917 (by decide) ?_
      refine lv_istore (lv' := [(24, .int 0), (23, .int (nI (z_lo (x >>> (3 &&& 31)) % 10))), (22, .int (nI (z_lo (x >>> (2 &&& 31)) % 6))), (6, .int (nI N)), (4, .int x), (5, .int (nI (m_n g0 N))), (7, .int (nI (m_n g0 N - 1))), (15, .ref a15), (16, .ref a16), (3, .int (nI T)), (0, .ref b), (1, .ref (ad 0)), (2, .ref S)]) hx hb dL_law_918 hl (by decide) rfl (fun ls hl => ?_)
      refine lv_aload_n hx hb dL_law_920 rfl (lv_at hl 12 rfl) ?_
      refine lv_iload hx hb dL_law_921 (lv_at hl 3 rfl) ?_
      refine lv_iconst (v := 3) hx hb dL_law_923 (by decide) ?_
      have hqb := hq
      have HPb := HP
      have hsz9 := hS.1
      have h15y := z_lt h15
      have h16y := z_lt h16
      refine z_newi hx hb (hts (.arrayClass .int) (by decide +kernel)) hK 0 rfl hS (n := 3) rfl (by decide) (by show cells + 1 ≤ 600172; omega) (by show slots + 3 ≤ 7300668; omega) dL_law_924 (fun y H hyE hy hqy hS => ?_)
      have hyA : lA s y := by show s.heap.size ≤ y; rw [hyE]; exact hsz9
      have h15 := z_kp h15 hqy
      have h16 := z_kp h16 hqy
      have hq := hqb.tr hqy
      obtain ⟨-, HT, HP, -⟩ := hI.kept hq
      have hX2 : ∀ {u : Nat}, y < u → sX (N + 1) S u (r_ins r N y) q0 := fun h => sX_ins hX HPb.1.lt HPb.rlt (by have := HPb.1.lt; have := hX.1; omega) (by rw [hyE] at h; exact Nat.le_of_lt h) (Nat.le_of_eq hyE.symm) (Nat.ne_of_gt h) (Nat.le_refl N)
      refine lv_dup hx hb dL_law_926 rfl ?_
      refine lv_iconst (v := 0) hx hb dL_law_927 (by decide) ?_
      refine lv_iload hx hb dL_law_928 (lv_at hl 2 rfl) ?_
      refine z_iast hx hb hK 0 rfl hy hS hyA 0 rfl (by decide) (by decide) dL_law_930 (fun H locs hy z9 o9 hS => ?_)
      have hqy := hqy.st (Nat.le_of_eq hyE.symm) z9 o9
      have hq := hqb.tr hqy
      obtain ⟨-, HT, HP, -⟩ := hI.kept hq
      have h15 := (o9 a15 (by omega)).trans h15
      have h16 := (o9 a16 (by omega)).trans h16
      refine lv_dup hx hb dL_law_931 rfl ?_
      refine lv_iconst (v := 1) hx hb dL_law_932 (by decide) ?_
      refine lv_iload hx hb dL_law_933 (lv_at hl 0 rfl) ?_
      refine lv_if_eq (tgt := 943) hx hb dL_law_935 (by decide) (fun _ => ?_) (fun h9 => absurd (by decide) h9)
      refine lv_iconst (v := -1) hx hb dL_law_943 (by decide) ?_
      refine z_iast hx hb hK 0 rfl hy hS hyA 1 rfl (by decide) (by decide) dL_law_944 (fun H locs hy z9 o9 hS => ?_)
      have hqy := hqy.st (Nat.le_of_eq hyE.symm) z9 o9
      have hq := hqb.tr hqy
      obtain ⟨-, HT, HP, -⟩ := hI.kept hq
      have h15 := (o9 a15 (by omega)).trans h15
      have h16 := (o9 a16 (by omega)).trans h16
      refine lv_dup hx hb dL_law_945 rfl ?_
      refine lv_iconst (v := 2) hx hb dL_law_946 (by decide) ?_
      refine lv_iconst (v := 0) hx hb dL_law_947 (by decide) ?_
      refine z_iast hx hb hK 0 rfl hy hS hyA 2 rfl (by decide) (by decide) dL_law_948 (fun H locs hy z9 o9 hS => ?_)
      have hqy := hqy.st (Nat.le_of_eq hyE.symm) z9 o9
      have hq := hqb.tr hqy
      obtain ⟨-, HT, HP, -⟩ := hI.kept hq
      have h15 := (o9 a15 (by omega)).trans h15
      have h16 := (o9 a16 (by omega)).trans h16
      refine e_callVV (As := [.int (nI N), .ref y]) (rest := []) ⟨hx, hb, hml, hown, hts⟩ (c_X1_insert l D cI cA S O N r g0 g1 g2 (nI pa) pe hN N y (Nat.le_refl N) (upd (upd (upd (fun _ => 0) 0 (nI (z_lo (x >>> (2 &&& 31)) % 6))) 1 (-1)) 2 0)) (cwV 2 hts gL_law_X1_insert rfl rfl rfl kv_X1_insert ⟨Nat.le_of_ble_eq_true rfl, Nat.le_of_ble_eq_true rfl⟩) pH.mv (va_recv hK (z_one HP.cell) (ci := 1) (q0 := 0) rfl rfl) (p_at (Z := fun h => sG D cI cA S O N r g0 g1 g2 (nI pa) pe h ∧ aI cI 3 (upd (upd (upd (fun _ => 0) 0 (nI (z_lo (x >>> (2 &&& 31)) % 6))) 1 (-1)) 2 0) y h) ⟨HP, hy⟩) (hK.sub [0, 1] rfl) hO (fun q h => by show s.heap.size ≤ q; rw [h]; exact Nat.le_trans hq0 hX.1) hA9 rfl hl.1 rfl (Nat.le_of_ble_eq_true rfl) dL_law_949 (by show cells + 1 + 1 ≤ 600172; omega) (by show slots + 3 + 24 ≤ 7300668; omega) hS (fun u H locs hu hz hk hS => ?_)
      obtain ⟨hu1, hu2, hu3⟩ := hu
      have hyl := z_lt hy
      have hSy := HPb.1.lt
      have HT := xw_kp HT (fun k hk9 => hk _ (xw_lt HT k hk9) (fun e => by have := htX.1 k hk9; have := hX.1; omega))
      have hy9 : aI cI 3 (upd (upd (upd (fun _ => 0) 0 (nI (z_lo (x >>> (2 &&& 31)) % 6))) 1 (-1)) 2 0) y H := (hk y hyl (fun e => by omega)).trans hy
      have h15 := (hk a15 (z_lt h15) (fun e => by have := sS.lt hSb.1; omega)).trans h15
      have h16 := (hk a16 (z_lt h16) (fun e => by have := sS.lt hSb.1; omega)).trans h16
      have HP2 : sG D cI cA S u (N + 1) (r_ins r N y) (upd g0 N (-1)) (upd g1 N (nI (z_lo (x >>> (2 &&& 31)) % 6))) (upd g2 N 0) (nI pa) pe H := sG_ins hu1 hu2 (HP.hold (fun i hi => hk _ (HP.rlt i hi) (fun e => (hX.2.2.2.1 i hi).2.1 e))) ⟨_, hy9, rfl, rfl, rfl⟩ (Nat.le_refl N) (up_e g0 _) (up_e g1 _) (up_e g2 0)
      have hX9 := hX2 (show y < u by omega)
      refine lv_iload hx hb dL_law_952 (lv_at hl 0 rfl) ?_
      refine lv_if_eq (tgt := 968) hx hb dL_law_954 (by decide) (fun _ => ?_) (fun h9 => absurd (by decide) h9)
      refine lv_aload_n hx hb dL_law_968 rfl (lv_at hl 11 rfl) ?_
      refine lv_iload hx hb dL_law_969 (lv_at hl 2 rfl) ?_
      refine z_callT (As := [.int (nI (z_lo (x >>> (2 &&& 31)) % 6))]) (rest := []) ⟨hx, hb, hml, hown, hts⟩ (c_X0_cough l D cI ad N (nI (m_n g0 N)) (nI (m_tn g0 g1 g2 N)) (nI pa) pe f0 f1 f2 f3 f4 (nI (z_lo (x >>> (2 &&& 31)) % 6)) (nI_pos (by omega)) (nI_lt (b := 6) (Nat.mod_lt _ (by decide)) (by decide)) (nI_lt (b := 24) hN (by decide)) hN) (cwV 1 hts gL_law_X0_cough rfl rfl rfl kv_X0_cough ⟨Nat.le_of_ble_eq_true rfl, Nat.le_of_ble_eq_true rfl⟩) (va_recv hK HT (ci := 0) (q0 := 0) rfl rfl) HT htX.D (hK.sub [0] rfl) (fun q h => (xw_A h).elim (fun ⟨k, h1, h2⟩ => by show s.heap.size ≤ q; rw [h2]; exact hta k h1) (fun h => Nat.le_trans hS.1 h)) rfl hl.1 rfl (Nat.le_of_ble_eq_true rfl) dL_law_971 (by show cells + 1 + 1 ≤ 600172; omega) (by show slots + 3 + 24 ≤ 7300668; omega) hS (fun H locs HT2 hz hk hS => ?_)
      have HP2 := HP2.byT hX9 (t_k htX hk)
      have h15 := (t_k htX hk a15 (z_lt h15) (by omega)).trans h15
      have h16 := (t_k htX hk a16 (z_lt h16) (by omega)).trans h16
      have hR3 := hR.1.put hN (Or.inl rfl) (a := nI (z_lo (x >>> (2 &&& 31)) % 6)) (v := -1)
      have hW3 := hR3.recount (f3 := f3) (f4 := f4) rfl
      have HZ : zST D cI cA ad S q0 H := st_any hR3 (up_g hR.2.2 ⟨_, Nat.mod_lt _ (by decide), rfl⟩) hpa HT2 HP2 hX9
      have eW := hW3.ww
      have eT := hW3.tt
      rw [eW, eT] at HT2
      have hR2 : tR (N + 1) _ _ _ _ _ _ _ _ := ⟨hR3, by rw [eW, eT] at hW3; exact hW3, up_g hR.2.2 ⟨_, Nat.mod_lt _ (by decide), rfl⟩⟩
      have HT := HT2
      refine lv_iload hx hb dL_law_974 (lv_at hl 3 rfl) ?_
      refine lv_icmp_ne (tgt := 999) hx hb dL_law_976 (by decide) (fun c_976 => absurd rfl c_976) (fun c_976 => ?_)
      refine lv_aload_n hx hb dL_law_979 rfl (lv_at hl 11 rfl) ?_
      refine q_callV (As := []) (rest := []) ⟨hx, hb, hml, hown, hts⟩ (d_words l D cI ad (N + 1) pa pe _ _ _ _ _ _ _ _ hR2) (cwV 0 hts gL_law_X0_words rfl rfl rfl kv_X0_words ⟨Nat.le_of_ble_eq_true rfl, Nat.le_of_ble_eq_true rfl⟩) (va_recv hK HT (ci := 0) (q0 := 0) rfl rfl) HT (hK.sub [0] rfl) rfl hl.1 rfl (Nat.le_of_ble_eq_true rfl) dL_law_980 (by show cells + 1 + 1 ≤ 600172; omega) (by show slots + 3 + 24 ≤ 7300668; omega) hS (fun H locs hsm hS => ?_)
      have HT := hsm.P HT
      have HZ := HZ.kept hsm
      have h15 := z_kp h15 hsm
      have h16 := z_kp h16 hsm
      rw [ad_n, if_neg (by decide)]
      refine lv_iload hx hb dL_law_983 (lv_at hl 5 rfl) ?_
      refine lv_iload hx hb dL_law_985 (lv_at hl 0 rfl) ?_
      refine lv_if_eq (tgt := 994) hx hb dL_law_987 (by decide) (fun _ => ?_) (fun h9 => absurd (by decide) h9)
      refine lv_iconst (v := 0) hx hb dL_law_994 (by decide) ?_
      refine lv_iadd hx hb dL_law_995 ?_
      rw [Int32.add_zero]
      refine lv_icmp_eq (tgt := 1001) hx hb dL_law_996 (by decide) (fun c_996 => ?_) (fun c_996 => absurd rfl c_996)
      exact law_1001 hC (by omega) (by omega) hN24 hR2 HT HZ (by rw [ad_n]; omega) (fun k h => ad_st h) (fun k h => ad_br h) (fun H locs ls hz hS hl => W.widen (k := cells + 4) (n := slots + 60) (by omega) (by omega) (K H locs ls hz hS hl)) H locs ls q_same.rf h15 h16 hS (lv_sub hl [6, 7, 8, 9, 10, 11, 12] rfl)
    · refine lv_iconst (v := 1) hx hb dL_law_913 (by decide) ?_
      refine lv_goto (tgt := 918) hx hb dL_law_914 (by decide) ?_
      refine lv_istore (lv' := [(24, .int 1), (23, .int (nI (z_lo (x >>> (3 &&& 31)) % 10))), (22, .int (nI (z_lo (x >>> (2 &&& 31)) % 6))), (6, .int (nI N)), (4, .int x), (5, .int (nI (m_n g0 N))), (7, .int (nI (m_n g0 N - 1))), (15, .ref a15), (16, .ref a16), (3, .int (nI T)), (0, .ref b), (1, .ref (ad 0)), (2, .ref S)]) hx hb dL_law_918 hl (by decide) rfl (fun ls hl => ?_)
      refine lv_aload_n hx hb dL_law_920 rfl (lv_at hl 12 rfl) ?_
      refine lv_iload hx hb dL_law_921 (lv_at hl 3 rfl) ?_
      refine lv_iconst (v := 3) hx hb dL_law_923 (by decide) ?_
      have hqb := hq
      have HPb := HP
      have hsz9 := hS.1
      have h15y := z_lt h15
      have h16y := z_lt h16
      refine z_newi hx hb (hts (.arrayClass .int) (by decide +kernel)) hK 0 rfl hS (n := 3) rfl (by decide) (by show cells + 1 ≤ 600172; omega) (by show slots + 3 ≤ 7300668; omega) dL_law_924 (fun y H hyE hy hqy hS => ?_)
      have hyA : lA s y := by show s.heap.size ≤ y; rw [hyE]; exact hsz9
      have h15 := z_kp h15 hqy
      have h16 := z_kp h16 hqy
      have hq := hqb.tr hqy
      obtain ⟨-, HT, HP, -⟩ := hI.kept hq
      have hX2 : ∀ {u : Nat}, y < u → sX (N + 1) S u (r_ins r N y) q0 := fun h => sX_ins hX HPb.1.lt HPb.rlt (by have := HPb.1.lt; have := hX.1; omega) (by rw [hyE] at h; exact Nat.le_of_lt h) (Nat.le_of_eq hyE.symm) (Nat.ne_of_gt h) (Nat.le_refl N)
      refine lv_dup hx hb dL_law_926 rfl ?_
      refine lv_iconst (v := 0) hx hb dL_law_927 (by decide) ?_
      refine lv_iload hx hb dL_law_928 (lv_at hl 2 rfl) ?_
      refine z_iast hx hb hK 0 rfl hy hS hyA 0 rfl (by decide) (by decide) dL_law_930 (fun H locs hy z9 o9 hS => ?_)
      have hqy := hqy.st (Nat.le_of_eq hyE.symm) z9 o9
      have hq := hqb.tr hqy
      obtain ⟨-, HT, HP, -⟩ := hI.kept hq
      have h15 := (o9 a15 (by omega)).trans h15
      have h16 := (o9 a16 (by omega)).trans h16
      refine lv_dup hx hb dL_law_931 rfl ?_
      refine lv_iconst (v := 1) hx hb dL_law_932 (by decide) ?_
      refine lv_iload hx hb dL_law_933 (lv_at hl 0 rfl) ?_
      refine lv_if_eq (tgt := 943) hx hb dL_law_935 (by decide) (fun h9 => absurd h9 (by decide)) (fun _ => ?_)
      refine lv_iload hx hb dL_law_938 (lv_at hl 1 rfl) ?_
      refine lv_goto (tgt := 944) hx hb dL_law_940 (by decide) ?_
      refine z_iast hx hb hK 0 rfl hy hS hyA 1 rfl (by decide) (by decide) dL_law_944 (fun H locs hy z9 o9 hS => ?_)
      have hqy := hqy.st (Nat.le_of_eq hyE.symm) z9 o9
      have hq := hqb.tr hqy
      obtain ⟨-, HT, HP, -⟩ := hI.kept hq
      have h15 := (o9 a15 (by omega)).trans h15
      have h16 := (o9 a16 (by omega)).trans h16
      refine lv_dup hx hb dL_law_945 rfl ?_
      refine lv_iconst (v := 2) hx hb dL_law_946 (by decide) ?_
      refine lv_iconst (v := 0) hx hb dL_law_947 (by decide) ?_
      refine z_iast hx hb hK 0 rfl hy hS hyA 2 rfl (by decide) (by decide) dL_law_948 (fun H locs hy z9 o9 hS => ?_)
      have hqy := hqy.st (Nat.le_of_eq hyE.symm) z9 o9
      have hq := hqb.tr hqy
      obtain ⟨-, HT, HP, -⟩ := hI.kept hq
      have h15 := (o9 a15 (by omega)).trans h15
      have h16 := (o9 a16 (by omega)).trans h16
      refine e_callVV (As := [.int (nI N), .ref y]) (rest := []) ⟨hx, hb, hml, hown, hts⟩ (c_X1_insert l D cI cA S O N r g0 g1 g2 (nI pa) pe hN N y (Nat.le_refl N) (upd (upd (upd (fun _ => 0) 0 (nI (z_lo (x >>> (2 &&& 31)) % 6))) 1 (nI (z_lo (x >>> (3 &&& 31)) % 10))) 2 0)) (cwV 2 hts gL_law_X1_insert rfl rfl rfl kv_X1_insert ⟨Nat.le_of_ble_eq_true rfl, Nat.le_of_ble_eq_true rfl⟩) pH.mv (va_recv hK (z_one HP.cell) (ci := 1) (q0 := 0) rfl rfl) (p_at (Z := fun h => sG D cI cA S O N r g0 g1 g2 (nI pa) pe h ∧ aI cI 3 (upd (upd (upd (fun _ => 0) 0 (nI (z_lo (x >>> (2 &&& 31)) % 6))) 1 (nI (z_lo (x >>> (3 &&& 31)) % 10))) 2 0) y h) ⟨HP, hy⟩) (hK.sub [0, 1] rfl) hO (fun q h => by show s.heap.size ≤ q; rw [h]; exact Nat.le_trans hq0 hX.1) hA9 rfl hl.1 rfl (Nat.le_of_ble_eq_true rfl) dL_law_949 (by show cells + 1 + 1 ≤ 600172; omega) (by show slots + 3 + 24 ≤ 7300668; omega) hS (fun u H locs hu hz hk hS => ?_)
      obtain ⟨hu1, hu2, hu3⟩ := hu
      have hyl := z_lt hy
      have hSy := HPb.1.lt
      have HT := xw_kp HT (fun k hk9 => hk _ (xw_lt HT k hk9) (fun e => by have := htX.1 k hk9; have := hX.1; omega))
      have hy9 : aI cI 3 (upd (upd (upd (fun _ => 0) 0 (nI (z_lo (x >>> (2 &&& 31)) % 6))) 1 (nI (z_lo (x >>> (3 &&& 31)) % 10))) 2 0) y H := (hk y hyl (fun e => by omega)).trans hy
      have h15 := (hk a15 (z_lt h15) (fun e => by have := sS.lt hSb.1; omega)).trans h15
      have h16 := (hk a16 (z_lt h16) (fun e => by have := sS.lt hSb.1; omega)).trans h16
      have HP2 : sG D cI cA S u (N + 1) (r_ins r N y) (upd g0 N (nI (z_lo (x >>> (3 &&& 31)) % 10))) (upd g1 N (nI (z_lo (x >>> (2 &&& 31)) % 6))) (upd g2 N 0) (nI pa) pe H := sG_ins hu1 hu2 (HP.hold (fun i hi => hk _ (HP.rlt i hi) (fun e => (hX.2.2.2.1 i hi).2.1 e))) ⟨_, hy9, rfl, rfl, rfl⟩ (Nat.le_refl N) (up_e g0 _) (up_e g1 _) (up_e g2 0)
      have hX9 := hX2 (show y < u by omega)
      refine lv_iload hx hb dL_law_952 (lv_at hl 0 rfl) ?_
      refine lv_if_eq (tgt := 968) hx hb dL_law_954 (by decide) (fun h9 => absurd h9 (by decide)) (fun _ => ?_)
      refine lv_aload_n hx hb dL_law_957 rfl (lv_at hl 11 rfl) ?_
      refine lv_iload hx hb dL_law_958 (lv_at hl 2 rfl) ?_
      refine lv_iload hx hb dL_law_960 (lv_at hl 1 rfl) ?_
      refine z_callT (As := [.int (nI (z_lo (x >>> (2 &&& 31)) % 6)), .int (nI (z_lo (x >>> (3 &&& 31)) % 10))]) (rest := []) ⟨hx, hb, hml, hown, hts⟩ (c_X0_say l D cI ad N (nI (m_n g0 N)) (nI (m_tn g0 g1 g2 N)) (nI pa) pe f0 f1 f2 f3 f4 (nI (z_lo (x >>> (2 &&& 31)) % 6)) (nI (z_lo (x >>> (3 &&& 31)) % 10)) (nI_pos (by omega)) (nI_lt (b := 6) (Nat.mod_lt _ (by decide)) (by decide)) (nI_pos (by omega)) (nI_lt (b := 10) (Nat.mod_lt _ (by decide)) (by decide)) (nI_lt (b := 24) hN (by decide)) hN) (cwV 2 hts gL_law_X0_say rfl rfl rfl kv_X0_say ⟨Nat.le_of_ble_eq_true rfl, Nat.le_of_ble_eq_true rfl⟩) (va_recv hK HT (ci := 0) (q0 := 0) rfl rfl) HT htX.D (hK.sub [0] rfl) (fun q h => (xw_A h).elim (fun ⟨k, h1, h2⟩ => by show s.heap.size ≤ q; rw [h2]; exact hta k h1) (fun h => Nat.le_trans hS.1 h)) rfl hl.1 rfl (Nat.le_of_ble_eq_true rfl) dL_law_962 (by show cells + 1 + 1 ≤ 600172; omega) (by show slots + 3 + 24 ≤ 7300668; omega) hS (fun H locs HT2 hz hk hS => ?_)
      have HP2 := HP2.byT hX9 (t_k htX hk)
      have h15 := (t_k htX hk a15 (z_lt h15) (by omega)).trans h15
      have h16 := (t_k htX hk a16 (z_lt h16) (by omega)).trans h16
      have hR3 := hR.1.put hN (Or.inr ⟨_, Nat.mod_lt _ (by decide), rfl⟩) (a := nI (z_lo (x >>> (2 &&& 31)) % 6)) (v := nI (z_lo (x >>> (3 &&& 31)) % 10))
      have hW3 := hR3.recount (f3 := f3) (f4 := f4) rfl
      have HZ : zST D cI cA ad S q0 H := st_any hR3 (up_g hR.2.2 ⟨_, Nat.mod_lt _ (by decide), rfl⟩) hpa HT2 HP2 hX9
      have eW := hW3.ww
      have eT := hW3.tt
      rw [eW, eT] at HT2
      have hR2 : tR (N + 1) _ _ _ _ _ _ _ _ := ⟨hR3, by rw [eW, eT] at hW3; exact hW3, up_g hR.2.2 ⟨_, Nat.mod_lt _ (by decide), rfl⟩⟩
      have HT := HT2
      refine lv_goto (tgt := 974) hx hb dL_law_965 (by decide) ?_
      refine lv_iload hx hb dL_law_974 (lv_at hl 3 rfl) ?_
      refine lv_icmp_ne (tgt := 999) hx hb dL_law_976 (by decide) (fun c_976 => absurd rfl c_976) (fun c_976 => ?_)
      refine lv_aload_n hx hb dL_law_979 rfl (lv_at hl 11 rfl) ?_
      refine q_callV (As := []) (rest := []) ⟨hx, hb, hml, hown, hts⟩ (d_words l D cI ad (N + 1) pa pe _ _ _ _ _ _ _ _ hR2) (cwV 0 hts gL_law_X0_words rfl rfl rfl kv_X0_words ⟨Nat.le_of_ble_eq_true rfl, Nat.le_of_ble_eq_true rfl⟩) (va_recv hK HT (ci := 0) (q0 := 0) rfl rfl) HT (hK.sub [0] rfl) rfl hl.1 rfl (Nat.le_of_ble_eq_true rfl) dL_law_980 (by show cells + 1 + 1 ≤ 600172; omega) (by show slots + 3 + 24 ≤ 7300668; omega) hS (fun H locs hsm hS => ?_)
      have HT := hsm.P HT
      have HZ := HZ.kept hsm
      have h15 := z_kp h15 hsm
      have h16 := z_kp h16 hsm
      rw [ad_n, if_pos (nI_pos' (by omega))]
      refine lv_iload hx hb dL_law_983 (lv_at hl 5 rfl) ?_
      refine lv_iload hx hb dL_law_985 (lv_at hl 0 rfl) ?_
      refine lv_if_eq (tgt := 994) hx hb dL_law_987 (by decide) (fun h9 => absurd h9 (by decide)) (fun _ => ?_)
      refine lv_iconst (v := 1) hx hb dL_law_990 (by decide) ?_
      refine lv_goto (tgt := 995) hx hb dL_law_991 (by decide) ?_
      refine lv_iadd hx hb dL_law_995 ?_
      rw [nI_1]
      refine lv_icmp_eq (tgt := 1001) hx hb dL_law_996 (by decide) (fun c_996 => ?_) (fun c_996 => absurd rfl c_996)
      exact law_1001 hC (by omega) (by omega) hN24 hR2 HT HZ (by rw [ad_n]; omega) (fun k h => ad_st h) (fun k h => ad_br h) (fun H locs ls hz hS hl => W.widen (k := cells + 4) (n := slots + 60) (by omega) (by omega) (K H locs ls hz hS hl)) H locs ls q_same.rf h15 h16 hS (lv_sub hl [6, 7, 8, 9, 10, 11, 12] rfl)
  · refine lv_goto (tgt := 1047) hx hb dL_law_879 (by decide) ?_
    refine W.widen (k := cells + 4) (n := slots + 60) (by omega) (by omega) ?_
    exact K H locs ls (hI.kept hq).st hS (lv_sub hl [6, 7, 8, 9] rfl)
