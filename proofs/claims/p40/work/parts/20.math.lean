/-! own rows: the class's state and the reference's state, and that what they answer is the same -/
def Ra (N : Nat) (f0 f1 f2 g0 g1 g2 : Nat → Int32) : Prop :=
  N ≤ 24 ∧ (∀ k, k < N → f0 k = g1 k) ∧ (∀ k, k < N → f1 k = g0 k) ∧ (∀ k, k < N → f2 k = g2 k) ∧ (∀ k, k < N → g0 k = -1 ∨ ∃ t : Nat, t < 10 ∧ g0 k = nI t) ∧ (∀ k, k < N → g2 k = 0 ∨ g2 k = 1)
/-- the words alone -/
def Rp (N : Nat) (f3 g0 : Nat → Int32) : Prop := ∀ k, k < m_n g0 N → f3 k = nI (m_P g0 N k)
def Rw (N : Nat) (f3 f4 g0 g1 g2 : Nat → Int32) (w t : Int32) : Prop :=
  w = nI (m_n g0 N) ∧ Rp N f3 g0 ∧ (∀ k, k < m_n g0 N → f4 k = nI (m_th g0 g1 g2 N k)) ∧ t = nI (m_tn g0 g1 g2 N)
section RR
variable {N : Nat} {f0 f1 f2 f3 f4 g0 g1 g2 : Nat → Int32} {w t : Int32}
theorem Ra.n (h : Ra N f0 f1 f2 g0 g1 g2) : N ≤ 24 := h.1
theorem Ra.e0 (h : Ra N f0 f1 f2 g0 g1 g2) : ∀ k, k < N → f0 k = g1 k := h.2.1
theorem Ra.e1 (h : Ra N f0 f1 f2 g0 g1 g2) : ∀ k, k < N → f1 k = g0 k := h.2.2.1
theorem Ra.e2 (h : Ra N f0 f1 f2 g0 g1 g2) : ∀ k, k < N → f2 k = g2 k := h.2.2.2.1
theorem Ra.tp (h : Ra N f0 f1 f2 g0 g1 g2) : ∀ k, k < N → g0 k = -1 ∨ ∃ t : Nat, t < 10 ∧ g0 k = nI t := h.2.2.2.2.1
theorem Ra.ti (h : Ra N f0 f1 f2 g0 g1 g2) : ∀ k, k < N → g2 k = 0 ∨ g2 k = 1 := h.2.2.2.2.2
theorem Rp.p (h : Rp N f3 g0) : ∀ k, k < m_n g0 N → f3 k = nI (m_P g0 N k) := h
theorem Rw.ww (h : Rw N f3 f4 g0 g1 g2 w t) : w = nI (m_n g0 N) := h.1
theorem Rw.rp (h : Rw N f3 f4 g0 g1 g2 w t) : Rp N f3 g0 := h.2.1
theorem Rw.h (h : Rw N f3 f4 g0 g1 g2 w t) : ∀ k, k < m_n g0 N → f4 k = nI (m_th g0 g1 g2 N k) := h.2.2.1
theorem Rw.tt (h : Rw N f3 f4 g0 g1 g2 w t) : t = nI (m_tn g0 g1 g2 N) := h.2.2.2
end RR
theorem nI_24 {k : Nat} (h : k < 24) : ¬ (24 : Int32) ≤ nI k := nI_ge h (by decide)
theorem rd_k {f : Nat → Int32} {k : Nat} (h : k < 24) : rd f (nI k) = f k := by
  unfold rd
  rw [if_neg (nI_pos (by omega)), if_neg (nI_24 h), nI_clamp (by omega)]
theorem wr_k {f : Nat → Int32} {k : Nat} (v : Int32) (h : k < 24) : wr f (nI k) v = upd f k v := by
  unfold wr
  rw [if_neg (nI_pos (by omega)), if_neg (nI_24 h), nI_clamp (by omega)]
theorem upd_e {f : Nat → Int32} {k : Nat} {v : Int32} : upd f k v k = v := by simp [upd]
theorem upd_n {f : Nat → Int32} {k j : Nat} {v : Int32} (h : ¬ j = k) : upd f k v j = f j := by simp [upd, h]
theorem wd_1 {x : Int32} (h : x = -1 ∨ ∃ t : Nat, t < 10 ∧ x = nI t) : decide (x = -1) = !decide (0 ≤ x) := by
  rcases h with rfl | ⟨t, ht, rfl⟩
  · decide
  · rw [decide_eq_true (nI_pos' (n := t) (by omega))]
    have : ∀ t, t < 10 → ¬ nI t = -1 := by decide +kernel
    rw [decide_eq_false (this t ht)]; rfl
section RA
variable {N : Nat} {f0 f1 f2 f3 f4 g0 g1 g2 : Nat → Int32} {w t : Int32}
theorem Ra.cs (h : Ra N f0 f1 f2 g0 g1 g2) {p : Nat} (hp : p < N) : x_cs f1 (nI p) = !m_wd g0 p := by
  have := h.n
  unfold x_cs m_wd
  rw [rd_k (by omega), h.e1 p hp]
  exact wd_1 (h.tp p hp)
theorem Ra.wn (h : Ra N f0 f1 f2 g0 g1 g2) {i : Nat} (hi : i ≤ N) : x_wn f1 i = ct (m_wd g0) i :=
  ct_cong fun k hk => by rw [h.cs (by omega), Bool.not_not]
theorem Ra.wp (h : Ra N f0 f1 f2 g0 g1 g2) : ∀ i, i ≤ N → ∀ k, k < ct (m_wd g0) i → x_wp f1 f3 i k = nI (m_P g0 N k)
  | 0, _, k, hk => absurd hk (Nat.not_lt_zero k)
  | i + 1, hi, k, hk => by
    have hn := h.n
    have ih := Ra.wp h i (by omega)
    have hle := ct_le (m_wd g0) i
    cases c : m_wd g0 i with
    | false =>
      rw [x_wp_c (by rw [h.cs (by omega), c]; rfl)]
      rw [ct_f (by rw [c]; exact Bool.false_ne_true)] at hk
      exact ih k hk
    | true =>
      rw [x_wp_w (by rw [h.cs (by omega), c]; rfl), h.wn (by omega), wr_k _ (by omega)]
      rw [ct_t c] at hk
      by_cases e : k = ct (m_wd g0) i
      · rw [e, upd_e]
        unfold m_P
        rw [plr_ct _ _ _ (by omega) c]
      · rw [upd_n e]
        exact ih k (by omega)
end RA
section RB
variable {N : Nat} {f0 f1 f2 f3 f4 g0 g1 g2 : Nat → Int32} {w t : Int32} {g : Nat}
theorem Rp.rd (q : Rp N f3 g0) (hN : N ≤ 24) (hg : g < m_n g0 N) : rd f3 (nI g) = nI (m_P g0 N g) := by
  have := m_n_le g0 N
  rw [rd_k (by omega), q.p g hg]
theorem Ra.tpg (h : Ra N f0 f1 f2 g0 g1 g2) (q : Rp N f3 g0) (hg : g < m_n g0 N) : x_tp f1 f3 (nI g) = g0 (m_P g0 N g) := by
  have := h.n; have := m_P_lt hg
  unfold x_tp
  rw [q.rd h.n hg, rd_k (by omega), h.e1 _ this]
theorem Ra.spg (h : Ra N f0 f1 f2 g0 g1 g2) (q : Rp N f3 g0) (hg : g < m_n g0 N) : x_sp f0 f3 (nI g) = g1 (m_P g0 N g) := by
  have := h.n; have := m_P_lt hg
  unfold x_sp
  rw [q.rd h.n hg, rd_k (by omega), h.e0 _ this]
theorem Ra.tig (h : Ra N f0 f1 f2 g0 g1 g2) (q : Rp N f3 g0) (hg : g < m_n g0 N) : x_ti f2 f3 (nI g) = m_ti g0 g2 N g := by
  have := h.n; have hp := m_P_lt hg
  unfold x_ti m_ti
  rw [q.rd h.n hg, rd_k (by omega), h.e2 _ hp]
  rcases h.ti _ hp with e | e <;> rw [e] <;> decide
theorem Rp.cg (q : Rp N f3 g0) (hN : N ≤ 24) (hg : g + 1 < m_n g0 N) : x_cg f3 (nI g) = m_cg g0 N g := by
  unfold x_cg m_cg
  rw [nI_1, q.rd hN hg, q.rd hN (by omega)]
theorem Ra.st (h : Ra N f0 f1 f2 g0 g1 g2) (q : Rp N f3 g0) (hg : g + 1 < m_n g0 N) : x_st f1 f3 (nI g) = m_st g0 N g := by
  unfold x_st m_st
  rw [nI_1, h.tpg q hg, h.tpg q (by omega), q.cg h.n hg]
theorem Ra.one (h : Ra N f0 f1 f2 g0 g1 g2) (q : Rp N f3 g0) (hg : g + 1 < m_n g0 N) : x_one f0 f3 (nI g) = m_sm g0 g1 N g := by
  unfold x_one m_sm
  rw [nI_1, h.spg q hg, h.spg q (by omega)]
theorem i_12 {x : Int32} (h : x ≤ 1) : x ≤ 2 := by
  rw [Int32.le_iff_toInt_le] at h ⊢
  rw [show (1 : Int32).toInt = 1 by decide] at h
  rw [show (2 : Int32).toInt = 2 by decide]
  omega
theorem i_24 {x : Int32} (h : x ≤ 2) : x ≤ 4 := by
  rw [Int32.le_iff_toInt_le] at h ⊢
  rw [show (2 : Int32).toInt = 2 by decide] at h
  rw [show (4 : Int32).toInt = 4 by decide]
  omega
theorem k_2 (b : Bool) (x : Int32) (o : Bool) : decide (x_kind b x o = 2) = (!b && !m_po x o) := by
  unfold x_kind m_po x_most
  by_cases c1 : x ≤ 1
  · have c2 := i_12 c1
    have c4 := i_24 c2
    cases b <;> cases o <;> simp [*]
  · by_cases c2 : x ≤ 2
    · have c4 := i_24 c2
      cases b <;> cases o <;> simp [*]
    · by_cases c4 : x ≤ 4 <;> cases b <;> cases o <;> simp [*]
theorem k_0 (b : Bool) (x : Int32) (o : Bool) : decide (x_kind b x o = 0) = (b || decide (x ≤ 1)) := by
  unfold x_kind x_most
  by_cases c1 : x ≤ 1 <;> by_cases c2 : x ≤ 2 <;> by_cases c4 : x ≤ 4 <;> cases b <;> cases o <;> simp [*]
theorem k_1 (b : Bool) (x : Int32) (o : Bool) : decide (x_kind b x o = 1) = (!decide (x_kind b x o = 0) && !decide (x_kind b x o = 2)) := by
  unfold x_kind x_most
  by_cases c1 : x ≤ 1 <;> by_cases c2 : x ≤ 2 <;> by_cases c4 : x ≤ 4 <;> cases b <;> cases o <;> simp [*]
theorem Ra.kg2 (h : Ra N f0 f1 f2 g0 g1 g2) (q : Rp N f3 g0) (hg : g + 1 < m_n g0 N) : decide (x_kg f0 f1 f2 f3 (nI g) = 2) = m_br g0 g1 g2 N g := by
  unfold x_kg m_br
  rw [k_2, h.tig q (by omega), h.st q hg, h.one q hg]
theorem Ra.kg0 (h : Ra N f0 f1 f2 g0 g1 g2) (q : Rp N f3 g0) (hg : g + 1 < m_n g0 N) : decide (x_kg f0 f1 f2 f3 (nI g) = 0) = m_so g0 g2 N g := by
  unfold x_kg m_so
  rw [k_0, h.tig q (by omega), h.st q hg]
theorem Ra.kg1 (h : Ra N f0 f1 f2 g0 g1 g2) (q : Rp N f3 g0) (hg : g + 1 < m_n g0 N) : decide (x_kg f0 f1 f2 f3 (nI g) = 1) = (!m_so g0 g2 N g && !m_br g0 g1 g2 N g) := by
  rw [← h.kg0 q hg, ← h.kg2 q hg]
  exact k_1 _ _ _
theorem Ra.tcn (h : Ra N f0 f1 f2 g0 g1 g2) (q : Rp N f3 g0) : ∀ i, i ≤ m_n g0 N → x_tcn f0 f1 f2 f3 i = if i = 0 then 0 else ct (m_br g0 g1 g2 N) (i - 1) + 1
  | 0, _ => rfl
  | i + 1, hi => by
    have hn := h.n; have hm := m_n_le g0 N
    have ih := Ra.tcn h q i (by omega)
    rw [if_neg (by omega), Nat.add_sub_cancel]
    cases i with
    | zero => rw [x_tcn_1 rfl]; rfl
    | succ j =>
      have e0 : ¬ nI (j + 1) = 0 := nI_ne0 (by omega) (by omega)
      rw [if_neg (by omega), Nat.add_sub_cancel] at ih
      have k2 := h.kg2 q (g := j) (by omega)
      cases c : m_br g0 g1 g2 N j with
      | true =>
        rw [c] at k2
        rw [x_tcn_2 e0 (by rw [nI_pred]; exact of_decide_eq_true k2), ih, ct_t c]
      | false =>
        rw [c] at k2
        rw [x_tcn_3 e0 (by rw [nI_pred]; exact of_decide_eq_false k2), ih, ct_f (by rw [c]; exact Bool.false_ne_true)]
theorem Ra.wh (h : Ra N f0 f1 f2 g0 g1 g2) (q : Rp N f3 g0) : ∀ i, i ≤ m_n g0 N → ∀ k, k < i → x_wh f0 f1 f2 f3 f4 i k = nI (m_th g0 g1 g2 N k)
  | 0, _, k, hk => absurd hk (Nat.not_lt_zero k)
  | i + 1, hi, k, hk => by
    have hn := h.n; have hm := m_n_le g0 N
    rw [x_wh_s, wr_k _ (by omega)]
    by_cases e : k = i
    · rw [e, upd_e, h.tcn q _ hi, if_neg (by omega), Nat.add_sub_cancel, nI_pred]; rfl
    · rw [upd_n e]; exact Ra.wh h q i (by omega) k (by omega)
/-- counting anew -/
theorem Ra.recount (h : Ra N f0 f1 f2 g0 g1 g2) {n : Nat} (hn : n = N) : Rw N (x_wp f1 f3 n) (x_wh f0 f1 f2 (x_wp f1 f3 n) f4 (x_wn f1 n)) g0 g1 g2 (nI (x_wn f1 n)) (nI (x_tcn f0 f1 f2 (x_wp f1 f3 n) (x_wn f1 n))) := by
  subst hn
  have q : Rp n (x_wp f1 f3 n) g0 := fun k hk => h.wp n (Nat.le_refl n) k hk
  have e : x_wn f1 n = m_n g0 n := h.wn (Nat.le_refl n)
  rw [e]
  refine ⟨rfl, q.p, fun k hk => h.wh q _ (Nat.le_refl _) k hk, ?_⟩
  rw [h.tcn q _ (Nat.le_refl _)]
  unfold m_tn m_ab
  rfl
end RB
