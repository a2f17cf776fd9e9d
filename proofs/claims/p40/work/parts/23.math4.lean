/-! own rows: each change keeps the two states alike -/
theorem x_mu_v {f : Nat → Int32} {P : Nat} : ∀ i, P + i ≤ 23 → ∀ k, x_mu f P i k = if P ≤ k ∧ k < P + i then f (k + 1) else f k
  | 0, _, k => by rw [if_neg (by omega)]; rfl
  | i + 1, h, k => by
    have ih := x_mu_v (f := f) (P := P) i (by omega)
    show wr (x_mu f P i) (nI (P + i)) (rd (x_mu f P i) (nI (P + i) + 1)) k = _
    rw [nI_1, rd_k (by omega), wr_k _ (by omega), ih (P + i + 1), if_neg (by omega)]
    by_cases e : k = P + i
    · subst e; rw [upd_e, if_pos (by omega)]
    · rw [upd_n e, ih k]
      by_cases c : P ≤ k ∧ k < P + i
      · rw [if_pos c, if_pos (by omega)]
      · rw [if_neg c, if_neg (by omega)]
theorem x_mk_v {f : Nat → Int32} {N : Nat} (hN : N < 24) : ∀ i, i ≤ N → ∀ k, x_mk f N i k = if N - i < k ∧ k ≤ N then f (k - 1) else f k
  | 0, _, k => by rw [if_neg (by omega)]; rfl
  | i + 1, h, k => by
    have ih := x_mk_v (f := f) hN i (by omega)
    show wr (x_mk f N i) (nI (N - i) - 1 + 1) (rd (x_mk f N i) (nI (N - i) - 1)) k = _
    rw [nI_m1 (by omega), nI_1, rd_k (by omega), wr_k _ (by omega), ih (N - i - 1), if_neg (by omega)]
    by_cases e : k = N - i - 1 + 1
    · rw [e, upd_e, if_pos (by omega), Nat.add_sub_cancel]
    · rw [upd_n e, ih k]
      by_cases c : N - i < k ∧ k ≤ N
      · rw [if_pos c, if_pos (by omega)]
      · rw [if_neg c, if_neg (by omega)]
theorem cpy_v {g : Nat → Int32} {s d n k : Nat} : va_cpy g g s d n k = if d ≤ k ∧ k < d + n then g (s + (k - d)) else g k := rfl
section RE
variable {N : Nat} {f0 f1 f2 f3 f4 g0 g1 g2 : Nat → Int32} {w t v a x1 : Int32} {g P : Nat}
theorem Ra.put (h : Ra N f0 f1 f2 g0 g1 g2) (hN : N < 24) (hv : v = -1 ∨ ∃ t : Nat, t < 10 ∧ v = nI t) : Ra (N + 1) (wr f0 (nI N) a) (wr f1 (nI N) v) (wr f2 (nI N) 0) (upd g0 N v) (upd g1 N a) (upd g2 N 0) := by
  rw [wr_k _ hN, wr_k _ hN, wr_k _ hN]
  have key : ∀ {f g : Nat → Int32} {u : Int32}, (∀ k, k < N → f k = g k) → ∀ k, k < N + 1 → upd f N u k = upd g N u k := by
    intro f g u e k hk
    by_cases c : k = N
    · rw [c, upd_e, upd_e]
    · rw [upd_n c, upd_n c]; exact e k (by omega)
  refine ⟨by omega, key h.e0, key h.e1, key h.e2, fun k hk => ?_, fun k hk => ?_⟩
  · by_cases c : k = N
    · rw [c, upd_e]; exact hv
    · rw [upd_n c]; exact h.tp k (by omega)
  · by_cases c : k = N
    · rw [c, upd_e]; exact Or.inl rfl
    · rw [upd_n c]; exact h.ti k (by omega)
theorem Ra.tied (h : Ra N f0 f1 f2 g0 g1 g2) (hP : P < N) : Ra N f0 f1 (wr f2 (nI P) 1) g0 g1 (upd g2 P 1) := by
  have hn := h.n
  rw [wr_k _ (by omega)]
  refine ⟨hn, h.e0, h.e1, fun k hk => ?_, h.tp, fun k hk => ?_⟩
  · by_cases c : k = P
    · rw [c, upd_e, upd_e]
    · rw [upd_n c, upd_n c]; exact h.e2 k hk
  · by_cases c : k = P
    · rw [c, upd_e]; exact Or.inr rfl
    · rw [upd_n c]; exact h.ti k hk
theorem Ra.rem (h : Ra N f0 f1 f2 g0 g1 g2) (hP : P < N) : Ra (N - 1) (x_mu f0 P (N - 1 - P)) (x_mu f1 P (N - 1 - P)) (x_mu f2 P (N - 1 - P)) (va_cpy g0 g0 (P + 1) P (N - (P + 1))) (va_cpy g1 g1 (P + 1) P (N - (P + 1))) (va_cpy g2 g2 (P + 1) P (N - (P + 1))) := by
  have hn := h.n
  have gv : ∀ {g : Nat → Int32} {k}, k < N - 1 → va_cpy g g (P + 1) P (N - (P + 1)) k = if P ≤ k then g (k + 1) else g k := by
    intro g k hk
    rw [cpy_v]
    by_cases c : P ≤ k
    · rw [if_pos (by omega), if_pos c, show P + 1 + (k - P) = k + 1 by omega]
    · rw [if_neg (fun x => c x.1), if_neg c]
  have fv : ∀ {f : Nat → Int32} {k}, k < N - 1 → x_mu f P (N - 1 - P) k = if P ≤ k then f (k + 1) else f k := by
    intro f k hk
    rw [x_mu_v _ (by omega)]
    by_cases c : P ≤ k
    · rw [if_pos (by omega), if_pos c]
    · rw [if_neg (fun x => c x.1), if_neg c]
  have key : ∀ {f g : Nat → Int32}, (∀ k, k < N → f k = g k) → ∀ k, k < N - 1 → x_mu f P (N - 1 - P) k = va_cpy g g (P + 1) P (N - (P + 1)) k := by
    intro f g e k hk
    rw [fv hk, gv hk, e (k + 1) (by omega), e k (by omega)]
  refine ⟨by omega, key h.e0, key h.e1, key h.e2, fun k hk => ?_, fun k hk => ?_⟩
  · rw [gv hk]
    split
    · exact h.tp _ (by omega)
    · exact h.tp _ (by omega)
  · rw [gv hk]
    split
    · exact h.ti _ (by omega)
    · exact h.ti _ (by omega)
theorem Ra.spl (h : Ra N f0 f1 f2 g0 g1 g2) (hN : N < 24) (hP : P ≤ N) (hv : v = -1 ∨ ∃ t : Nat, t < 10 ∧ v = nI t) : Ra (N + 1) (wr (x_mk f0 N (N - P)) (nI P) a) (wr (x_mk f1 N (N - P)) (nI P) v) (wr (x_mk f2 N (N - P)) (nI P) 0)
    (upd (va_cpy g0 g0 P (P + 1) (N - P)) P v) (upd (va_cpy g1 g1 P (P + 1) (N - P)) P a) (upd (va_cpy g2 g2 P (P + 1) (N - P)) P 0) := by
  rw [wr_k _ (by omega), wr_k _ (by omega), wr_k _ (by omega)]
  have gv : ∀ {g : Nat → Int32} {k}, k < N + 1 → va_cpy g g P (P + 1) (N - P) k = if P < k then g (k - 1) else g k := by
    intro g k hk
    rw [cpy_v]
    by_cases c : P < k
    · rw [if_pos (by omega), if_pos c, show P + (k - (P + 1)) = k - 1 by omega]
    · rw [if_neg (by omega), if_neg c]
  have fv : ∀ {f : Nat → Int32} {k}, k < N + 1 → x_mk f N (N - P) k = if P < k then f (k - 1) else f k := by
    intro f k hk
    rw [x_mk_v hN _ (by omega)]
    by_cases c : P < k
    · rw [if_pos (by omega), if_pos c]
    · rw [if_neg (by omega), if_neg c]
  have key : ∀ {f g : Nat → Int32} {u : Int32}, (∀ k, k < N → f k = g k) → ∀ k, k < N + 1 → upd (x_mk f N (N - P)) P u k = upd (va_cpy g g P (P + 1) (N - P)) P u k := by
    intro f g u e k hk
    by_cases c : k = P
    · rw [c, upd_e, upd_e]
    · rw [upd_n c, upd_n c, fv hk, gv hk]
      by_cases c2 : P < k
      · rw [if_pos c2, if_pos c2]; exact e _ (by omega)
      · rw [if_neg c2, if_neg c2]; exact e _ (by omega)
  refine ⟨by omega, key h.e0, key h.e1, key h.e2, fun k hk => ?_, fun k hk => ?_⟩
  · by_cases c : k = P
    · rw [c, upd_e]; exact hv
    · rw [upd_n c, gv hk]
      by_cases c2 : P < k
      · rw [if_pos c2]; exact h.tp _ (by omega)
      · rw [if_neg c2]; exact h.tp _ (by omega)
  · by_cases c : k = P
    · rw [c, upd_e]; exact Or.inl rfl
    · rw [upd_n c, gv hk]
      by_cases c2 : P < k
      · rw [if_pos c2]; exact h.ti _ (by omega)
      · rw [if_neg c2]; exact h.ti _ (by omega)
theorem Ra.fit (h : Ra N f0 f1 f2 g0 g1 g2) : ∀ k : Nat, k < N → fits .boolean (.int (g2 k)) = true := fun k hk => by
  rcases h.ti k hk with e | e <;> rw [e] <;> rfl
/-- a cough at a place, a tie at a gap -/
theorem Ra.cs1 (h : Ra N f0 f1 f2 g0 g1 g2) (hP : P < N) (hc : ¬ 0 ≤ g0 P) : x_cs f1 (nI P) = true := by
  rw [h.cs hP]; unfold m_wd; rw [decide_eq_false hc]; rfl
theorem Ra.cs0 (h : Ra N f0 f1 f2 g0 g1 g2) (hP : P < N) (hc : 0 ≤ g0 P) : x_cs f1 (nI P) = false := by
  rw [h.cs hP]; unfold m_wd; rw [decide_eq_true hc]; rfl
theorem Ra.ti1 (h : Ra N f0 f1 f2 g0 g1 g2) (q : Rp N f3 g0) (hg : g < m_n g0 N) (hc : ¬ g2 (m_P g0 N g) = 0) : x_ti f2 f3 (nI g) = true := by rw [h.tig q hg, m_ti_1 hc]
theorem Ra.ti0 (h : Ra N f0 f1 f2 g0 g1 g2) (q : Rp N f3 g0) (hg : g < m_n g0 N) (hc : g2 (m_P g0 N g) = 0) : x_ti f2 f3 (nI g) = false := by rw [h.tig q hg, m_ti_0 hc]
theorem Ra.btw (h : Ra N f0 f1 f2 g0 g1 g2) (q : Rp N f3 g0) (hg : g + 1 < m_n g0 N) : x_btw (x_tp f1 f3 (nI g)) (x_tp f1 f3 (nI g + 1)) = m_half (g0 (m_P g0 N g)) (g0 (m_P g0 N (g + 1))) := by
  obtain ⟨a, ha, ea⟩ := h.hT g (by omega)
  obtain ⟨b, hb, eb⟩ := h.hT (g + 1) hg
  rw [nI_1, h.tpg q (by omega), h.tpg q hg, ea, eb, btw_half a ha b hb]
theorem Ra.halfT (h : Ra N f0 f1 f2 g0 g1 g2) (hg : g + 1 < m_n g0 N) : ∃ t : Nat, t < 10 ∧ m_half (g0 (m_P g0 N g)) (g0 (m_P g0 N (g + 1))) = nI t := by
  obtain ⟨a, ha, ea⟩ := h.hT g (by omega)
  obtain ⟨b, hb, eb⟩ := h.hT (g + 1) hg
  rw [ea, eb]
  exact half_10 a ha b hb
end RE
