/-! own rows: counts by masks, bounds, and that each change keeps the two states alike -/
theorem ct_sel (p q : Nat → Bool) (N : Nat) : ∀ i, i ≤ N → ct (fun k => q (plr p N k)) (ct p i) = ct (fun j => p j && q j) i
  | 0, _ => rfl
  | i + 1, hi => by
    have ih := ct_sel p q N i (by omega)
    cases c : p i with
    | true =>
      rw [ct_t c, ct_s, ih, ct_s, plr_ct p N i (by omega) c, c, Bool.true_and]
    | false =>
      rw [ct_f (by rw [c]; exact Bool.false_ne_true), ih, ct_f (by rw [c]; exact Bool.false_ne_true)]
theorem ct_or1 {p : Nat → Bool} {b : Nat} (h : p b = false) : ∀ n, ct (fun j => p j || decide (j = b)) n = ct p n + if b < n then 1 else 0
  | 0 => rfl
  | n + 1 => by
    rw [ct_s, ct_or1 h n, ct_s]
    by_cases e : n = b
    · subst e
      rw [h, if_neg (Nat.lt_irrefl n), if_pos (Nat.lt_succ_self n)]
      simp
    · have e2 : (b < n + 1) ↔ b < n := by omega
      simp only [e, decide_false, Bool.or_false, e2]
      omega
theorem tb_or {M b j : Nat} : (M ||| 2 ^ b).testBit j = (M.testBit j || decide (j = b)) := by
  rw [Nat.testBit_or, Nat.testBit_two_pow]
  by_cases e : j = b
  · subst e; simp
  · have e2 : ¬ b = j := fun x => e x.symm
    simp [e, e2]
theorem pcn_or {M b : Nat} (hb : b < 31) (h : M.testBit b = false) : pcn (M ||| 2 ^ b) = pcn M + 1 := by
  unfold pcn
  rw [ct_cong (fun j _ => tb_or), ct_or1 (p := fun j => M.testBit j) h, if_pos hb]
theorem or_same {M b : Nat} (h : M.testBit b = true) : M ||| 2 ^ b = M := by
  apply Nat.eq_of_testBit_eq
  intro j
  rw [tb_or]
  by_cases e : j = b
  · subst e; rw [h]; rfl
  · simp [e]
theorem nI_m1n : ∀ j, j < 24 → ¬ nI j = -1 := by decide +kernel
theorem bits_fin : ∀ v, v < 1024 → i_bits (nI v) = nI (pcn v) := by decide +kernel
theorem hnn_fin : ∀ d, d < 23 → ∀ s, s < 27 * (d + 1) + 1 → FP.ddiv (FP.i2d (nI s)) (FP.i2d (nI (d + 1))) &&& 0x7fffffffffffffff ≤ 0x7ff0000000000000 := by decide +kernel
section RD
variable {N : Nat} {f0 f1 f2 f3 f4 g0 g1 g2 : Nat → Int32} {w t : Int32} {g : Nat}
theorem Ra.wo (h : Ra N f0 f1 f2 g0 g1 g2) (q : Rp N f3 g0) (s : Int32) : x_wo f0 f3 s (m_n g0 N) = m_wo g0 g1 N s := by
  unfold x_wo m_wo
  rw [ct_cong (fun k hk => by rw [h.spg q hk])]
  exact ct_sel (m_wd g0) (fun j => decide (g1 j = s)) N N (Nat.le_refl N)
theorem m_th_mono {i j : Nat} (h : i ≤ j) : m_th g0 g1 g2 N i ≤ m_th g0 g1 g2 N j := ct_mono _ h
theorem Ra.to (h : Ra N f0 f1 f2 g0 g1 g2) (r : Rw N f3 f4 g0 g1 g2 w t) (s : Int32) : ∀ i, i ≤ m_n g0 N → (x_to f0 f3 f4 s i).1 = nI (pcn (m_ts g0 g1 g2 N s i)) ∧
    (((x_to f0 f3 f4 s i).2 = -1 ∧ m_ts g0 g1 g2 N s i = 0) ∨ ∃ b, b < 24 ∧ b ≤ m_th g0 g1 g2 N i ∧ (x_to f0 f3 f4 s i).2 = nI b ∧ (m_ts g0 g1 g2 N s i).testBit b = true ∧ ∀ j, b < j → (m_ts g0 g1 g2 N s i).testBit j = false)
  | 0, _ => ⟨by show (0 : Int32) = nI (pcn 0); rw [pcn_0]; rfl, Or.inl ⟨rfl, rfl⟩⟩
  | i + 1, hi => by
    have hn := h.n; have hm := m_n_le g0 N
    obtain ⟨e1, e2⟩ := Ra.to h r s i (by omega)
    have hT := m_th_le g0 g1 g2 N i
    have hup : m_th g0 g1 g2 N i ≤ m_th g0 g1 g2 N (i + 1) := m_th_mono (by omega)
    rw [x_to_s, m_ts_s, h.spg r.rp (by omega), r.rdh hn (by omega)]
    by_cases c : g1 (m_P g0 N i) = s
    · rw [if_pos c]
      have fresh : ¬ nI (m_th g0 g1 g2 N i) = (x_to f0 f3 f4 s i).2 → (m_ts g0 g1 g2 N s i).testBit (m_th g0 g1 g2 N i) = false → (∀ j, m_th g0 g1 g2 N i < j → (m_ts g0 g1 g2 N s i).testBit j = false) →
          ((if g1 (m_P g0 N i) = s ∧ ¬ nI (m_th g0 g1 g2 N i) = (x_to f0 f3 f4 s i).2 then ((x_to f0 f3 f4 s i).1 + 1, nI (m_th g0 g1 g2 N i)) else x_to f0 f3 f4 s i).1 = nI (pcn (m_ts g0 g1 g2 N s i ||| 2 ^ m_th g0 g1 g2 N i)) ∧
          (((if g1 (m_P g0 N i) = s ∧ ¬ nI (m_th g0 g1 g2 N i) = (x_to f0 f3 f4 s i).2 then ((x_to f0 f3 f4 s i).1 + 1, nI (m_th g0 g1 g2 N i)) else x_to f0 f3 f4 s i).2 = -1 ∧ m_ts g0 g1 g2 N s i ||| 2 ^ m_th g0 g1 g2 N i = 0) ∨ ∃ b, b < 24 ∧ b ≤ m_th g0 g1 g2 N (i + 1) ∧ (if g1 (m_P g0 N i) = s ∧ ¬ nI (m_th g0 g1 g2 N i) = (x_to f0 f3 f4 s i).2 then ((x_to f0 f3 f4 s i).1 + 1, nI (m_th g0 g1 g2 N i)) else x_to f0 f3 f4 s i).2 = nI b ∧ (m_ts g0 g1 g2 N s i ||| 2 ^ m_th g0 g1 g2 N i).testBit b = true ∧ ∀ j, b < j → (m_ts g0 g1 g2 N s i ||| 2 ^ m_th g0 g1 g2 N i).testBit j = false)) := by
        intro x1 x2 x3
        rw [if_pos ⟨c, x1⟩, pcn_or (by omega) x2]
        refine ⟨by show (x_to f0 f3 f4 s i).1 + 1 = _; rw [e1, nI_1], Or.inr ⟨m_th g0 g1 g2 N i, by omega, hup, rfl, by rw [tb_or]; simp, fun j hj => by rw [tb_or, x3 j hj]; simp; omega⟩⟩
      rcases e2 with ⟨e2, e3⟩ | ⟨b, hb, hbT, e2, e3, e4⟩
      · exact fresh (by rw [e2]; exact nI_m1n _ (by omega)) (by rw [e3]; exact Nat.zero_testBit _) (fun j _ => by rw [e3]; exact Nat.zero_testBit _)
      · by_cases z : m_th g0 g1 g2 N i = b
        · rw [if_neg (fun x => x.2 (by rw [e2, z])), z, or_same e3]
          exact ⟨e1, Or.inr ⟨b, hb, by omega, e2, e3, e4⟩⟩
        · exact fresh (by rw [e2, nI_eq (by omega) (by omega)]; exact z) (e4 _ (by omega)) (fun j hj => e4 j (by omega))
    · rw [if_neg c, if_neg (fun x => c x.1)]
      refine ⟨e1, ?_⟩
      rcases e2 with e2 | ⟨b, hb, hbT, e2⟩
      · exact Or.inl e2
      · exact Or.inr ⟨b, hb, by omega, e2⟩
theorem Ra.tm (h : Ra N f0 f1 f2 g0 g1 g2) (r : Rw N f3 f4 g0 g1 g2 w t) (x : Int32) : ∀ i, i ≤ m_n g0 N → x_tm f1 f3 f4 x i = nI (m_tq g0 g1 g2 N x i)
  | 0, _ => rfl
  | i + 1, hi => by
    have ih := Ra.tm h r x i (by omega)
    rw [x_tm_s, r.rdh h.n (by omega), h.tpg r.rp (by omega), ih]
    by_cases c : nI (m_th g0 g1 g2 N i) = x
    · rw [if_pos c]; exact m_tq_1 g1 g2 x h.hT (by omega) c
    · rw [if_neg c, m_tq_s, if_neg c]
theorem Ra.tq (h : Ra N f0 f1 f2 g0 g1 g2) (r : Rw N f3 f4 g0 g1 g2 w t) (x : Int32) : i_bits (x_tm f1 f3 f4 x (m_n g0 N)) = nI (pcn (m_tq g0 g1 g2 N x (m_n g0 N))) := by
  rw [h.tm r x _ (Nat.le_refl _)]
  exact bits_fin _ (m_tq_lt g1 g2 x h.hT _ (Nat.le_refl _))
theorem i_sub3 (a b c : Int32) : a + (b - 1 - c) = a + b - 1 - c := by
  rw [Int32.sub_eq_add_neg, Int32.sub_eq_add_neg, Int32.sub_eq_add_neg, Int32.sub_eq_add_neg, Int32.add_assoc, Int32.add_assoc, Int32.add_assoc]
theorem m_st_le (h : Ra N f0 f1 f2 g0 g1 g2) (hg : g + 1 < m_n g0 N) : ∃ d, d ≤ 27 ∧ m_st g0 N g = nI d := by
  have hn := h.n
  obtain ⟨a, ha, ea⟩ := h.hT g (by omega)
  obtain ⟨b, hb, eb⟩ := h.hT (g + 1) hg
  obtain ⟨d, hd, ed⟩ := ds_10 a ha b hb
  have hP := m_P_lt hg
  have hc : m_cN g0 N g ≤ 22 := by unfold m_cN; omega
  refine ⟨d + m_cN g0 N g, by omega, ?_⟩
  unfold m_st
  rw [ea, eb, ed, m_cg_N hg, nI_add]
theorem m_ss_le (h : Ra N f0 f1 f2 g0 g1 g2) : ∀ i, i ≤ m_n g0 N - 1 → ∃ d, d ≤ 27 * i ∧ m_ss g0 N i = nI d
  | 0, _ => ⟨0, by omega, rfl⟩
  | i + 1, hi => by
    obtain ⟨d, hd, ed⟩ := m_ss_le h i (by omega)
    obtain ⟨b, hb, eb⟩ := m_st_le h (g := i) (by omega)
    refine ⟨d + b, by omega, ?_⟩
    have : m_ss g0 N (i + 1) = m_ss g0 N i + m_st g0 N i := rfl
    rw [this, ed, eb, nI_add]
theorem Ra.hnn (h : Ra N f0 f1 f2 g0 g1 g2) (h0 : ¬ m_n g0 N - 1 = 0) : vf_n64 (FP.ddiv (FP.i2d (m_ss g0 N (m_n g0 N - 1))) (FP.i2d (nI (m_n g0 N - 1)))) := by
  have hn := h.n; have hm := m_n_le g0 N
  obtain ⟨d, hd, ed⟩ := m_ss_le h (m_n g0 N - 1) (Nat.le_refl _)
  obtain ⟨k, hk⟩ : ∃ k, m_n g0 N - 1 = k + 1 := ⟨m_n g0 N - 1 - 1, by omega⟩
  rw [ed, hk]
  exact hnn_fin k (by omega) d (by omega)
end RD
/-! bounds -/
theorem in_1 {x a b : Int32} (h : m_in x a b = true) : ¬ x < a ∧ ¬ b < x := by
  unfold m_in at h
  simpa using h
theorem in_0 {x a b : Int32} (h : m_in x a b = false) : x < a ∨ b < x := by
  unfold m_in at h
  by_cases c : x < a
  · exact Or.inl c
  · refine Or.inr ?_
    simpa [c] using h
theorem lt_T {a b : Int32} : a < b ↔ a.toInt < b.toInt := Int32.lt_iff_toInt_lt
theorem in_place1 {x : Int32} {N : Nat} (hN : N ≤ 24) (h : m_in x 0 (nI N - 1) = true) : ∃ k, k < N ∧ x = nI k := by
  obtain ⟨h1, h2⟩ := in_1 h
  obtain ⟨j, hj, rfl⟩ := nI_of h1
  refine ⟨j, ?_, rfl⟩
  rw [lt_T, nI_m1T (by omega), nI_toInt hj] at h2
  omega
theorem in_place0 {x : Int32} {N : Nat} (hN : N ≤ 24) (h : m_in x 0 (nI N - 1) = false) : x < 0 ∨ ¬ x < nI N := by
  rcases in_0 h with h | h
  · exact Or.inl h
  · right
    rw [lt_T, nI_m1T (by omega)] at h
    rw [lt_T, nI_toInt (by omega)]
    omega
theorem nI_m2T {a : Nat} (ha : a < 2 ^ 30) : (nI a - 2).toInt = (a : Int) - 2 := pk_sub_toInt (b := 2) ha (by decide)
theorem in_gap1 {x : Int32} {N : Nat} (hN : N ≤ 24) (h : m_in x 0 (nI N - 2) = true) : ∃ k, k + 1 < N ∧ x = nI k := by
  obtain ⟨h1, h2⟩ := in_1 h
  obtain ⟨j, hj, rfl⟩ := nI_of h1
  refine ⟨j, ?_, rfl⟩
  rw [lt_T, nI_m2T (by omega), nI_toInt hj] at h2
  omega
theorem in_gap0 {x : Int32} {N : Nat} (hN : N ≤ 24) (h : m_in x 0 (nI N - 2) = false) : x < 0 ∨ ¬ x < x_gc (nI N) := by
  rw [x_gc_nI (by omega)]
  rcases in_0 h with h | h
  · exact Or.inl h
  · by_cases c : x < 0
    · exact Or.inl c
    · right
      obtain ⟨j, hj, rfl⟩ := nI_of c
      rw [lt_T, nI_m2T (by omega), nI_toInt hj] at h
      rw [lt_T, nI_toInt hj, nI_toInt (by omega)]
      omega
theorem gap_in {N k : Nat} (hN : N ≤ 24) (h : k + 1 < N) : ¬ nI k < 0 ∧ nI k < x_gc (nI N) := by
  rw [x_gc_nI (by omega)]
  exact ⟨nI_pos (by omega), nI_lt (by omega) (by omega)⟩
theorem place_in {N k : Nat} (hN : N ≤ 24) (h : k < N) : ¬ nI k < 0 ∧ nI k < nI N := ⟨nI_pos (by omega), nI_lt h (by omega)⟩
theorem in_c1 {x a b c : Int32} {n : Nat} (hb : b.toInt = n) (hc : c.toInt = (n : Int) + 1) (h : m_in x a b = true) : ¬ x < a ∧ x < c := by
  obtain ⟨h1, h2⟩ := in_1 h
  refine ⟨h1, ?_⟩
  rw [lt_T, hb] at h2
  rw [lt_T, hc]
  omega
theorem in_c0 {x a b c : Int32} {n : Nat} (hb : b.toInt = n) (hc : c.toInt = (n : Int) + 1) (h : m_in x a b = false) : x < a ∨ ¬ x < c := by
  rcases in_0 h with h | h
  · exact Or.inl h
  · right
    rw [lt_T, hb] at h
    rw [lt_T, hc]
    omega
theorem in_sp1 {x : Int32} (h : m_in x 0 5 = true) : ¬ x < 0 ∧ x < 6 := in_c1 (n := 5) (by decide) (by decide) h
theorem in_sp0 {x : Int32} (h : m_in x 0 5 = false) : x < 0 ∨ ¬ x < 6 := in_c0 (n := 5) (by decide) (by decide) h
theorem in_tp1 {x : Int32} (h : m_in x 0 9 = true) : ¬ x < 0 ∧ x < 10 := in_c1 (n := 9) (by decide) (by decide) h
theorem in_tp0 {x : Int32} (h : m_in x 0 9 = false) : x < 0 ∨ ¬ x < 10 := in_c0 (n := 9) (by decide) (by decide) h
theorem in_rs1 {x : Int32} (h : m_in x 1 60 = true) : ¬ x < 1 ∧ x ≤ 60 := by
  obtain ⟨h1, h2⟩ := in_1 h
  exact ⟨h1, Int32.not_lt.mp h2⟩
theorem in_rs0 {x : Int32} (h : m_in x 1 60 = false) : x < 1 ∨ ¬ x ≤ 60 := by
  rcases in_0 h with h | h
  · exact Or.inl h
  · exact Or.inr (Int32.not_le.mpr h)
theorem tp_of {x : Int32} (h : ¬ x < 0 ∧ x < 10) : x = -1 ∨ ∃ t : Nat, t < 10 ∧ x = nI t := by
  obtain ⟨j, hj, rfl⟩ := nI_of h.1
  refine Or.inr ⟨j, ?_, rfl⟩
  have := h.2
  rw [lt_T, nI_toInt hj, show (10 : Int32).toInt = 10 by decide] at this
  omega
