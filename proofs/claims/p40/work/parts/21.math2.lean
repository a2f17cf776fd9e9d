/-! own rows: the answers of class and reference are the same -/
theorem fo_cong {α : Type} {f g : Nat → α → α} {a : α} : ∀ {n : Nat}, (∀ k, k < n → ∀ b, f k b = g k b) → fo f a n = fo g a n
  | 0, _ => rfl
  | n + 1, h => by rw [fo_s, fo_s, fo_cong (fun k hk => h k (by omega)), h n (by omega)]
theorem ds_10 : ∀ a, a < 10 → ∀ b, b < 10 → ∃ d, d < 6 ∧ x_ds (nI a) (nI b) = nI d := by decide +kernel
theorem btw_half : ∀ a, a < 10 → ∀ b, b < 10 → x_btw (nI a) (nI b) = m_half (nI a) (nI b) := by decide +kernel
theorem half_10 : ∀ a, a < 10 → ∀ b, b < 10 → ∃ d, d < 10 ∧ m_half (nI a) (nI b) = nI d := by decide +kernel
theorem btw_1 : ∀ a, a < 10 → ∀ b, b < 10 → decide (x_kind false (x_ds (nI a) (x_btw (nI a) (nI b))) true = 2) = false := by decide +kernel
theorem mc_fin : ∀ d, d < 6 → ∀ c, c < 23 → ∀ b : Bool, m_po (nI d + nI c) b = false → (if nI d + nI c - x_most b ≤ nI c then i_min 3 ((nI d + nI c - x_most b) * 1) else 3) = m_mc (nI d + nI c) b c := by decide +kernel
section RC
variable {N : Nat} {f0 f1 f2 f3 f4 g0 g1 g2 : Nat → Int32} {w t : Int32} {g : Nat}
theorem Ra.hT (h : Ra N f0 f1 f2 g0 g1 g2) : m_hT g0 N := fun k hk => by
  have hp := m_P_lt hk
  have hw := m_P_wd hk
  rcases h.tp _ hp with e | e
  · unfold m_wd at hw
    rw [e] at hw
    exact absurd hw (by decide)
  · exact e
theorem Ra.mc (h : Ra N f0 f1 f2 g0 g1 g2) (q : Rp N f3 g0) (hg : g + 1 < m_n g0 N) : x_mc f0 f1 f2 f3 (nI g) = m_md g0 g1 g2 N g := by
  have hn := h.n; have hm := m_n_le g0 N
  have k2 := h.kg2 q hg
  unfold x_mc m_md
  cases c : m_br g0 g1 g2 N g with
  | false =>
    rw [c] at k2
    rw [if_neg (of_decide_eq_false k2), if_neg Bool.false_ne_true]
  | true =>
    rw [c] at k2
    rw [if_pos (of_decide_eq_true k2), if_pos rfl, h.st q hg, h.one q hg, q.cg h.n hg]
    obtain ⟨a, ha, ea⟩ := h.hT g (by omega)
    obtain ⟨b, hb, eb⟩ := h.hT (g + 1) hg
    obtain ⟨d, hd, ed⟩ := ds_10 a ha b hb
    have ec := m_cg_N hg
    have hP := m_P_lt hg
    have hc : m_cN g0 N g < 23 := by unfold m_cN; omega
    have es : m_st g0 N g = nI d + nI (m_cN g0 N g) := by unfold m_st; rw [ea, eb, ed, ec]
    have hpo : m_po (m_st g0 N g) (m_sm g0 g1 N g) = false := by
      unfold m_br at c
      cases e : m_po (m_st g0 N g) (m_sm g0 g1 N g) with
      | false => rfl
      | true => rw [e] at c; simp at c
    rw [ec]
    rw [es] at hpo ⊢
    exact mc_fin d hd _ hc _ hpo
theorem Ra.bc (h : Ra N f0 f1 f2 g0 g1 g2) (q : Rp N f3 g0) (hg : g + 1 < m_n g0 N) : x_bc f0 f1 f2 f3 (nI g) = 0 + bI (m_is g0 g1 N g) - bI (m_br g0 g1 g2 N g) := by
  obtain ⟨a, ha, ea⟩ := h.hT g (by omega)
  obtain ⟨b, hb, eb⟩ := h.hT (g + 1) hg
  unfold x_bc m_is
  rw [h.kg2 q hg, k_2 false (x_ds _ _ + _), nI_1, h.tpg q hg, h.tpg q (by omega), h.one q hg, q.cg h.n hg, ea, eb, btw_1 a ha b hb, btw_half a ha b hb]
  rfl
theorem Ra.gk2 (h : Ra N f0 f1 f2 g0 g1 g2) (q : Rp N f3 g0) : x_gk f0 f1 f2 f3 2 (m_n g0 N) = nI (m_ab g0 g1 g2 N) := by
  unfold x_gk m_ab
  rw [ct_cong (fun k hk => h.kg2 q (by omega))]
theorem Ra.gk1 (h : Ra N f0 f1 f2 g0 g1 g2) (q : Rp N f3 g0) : x_gk f0 f1 f2 f3 1 (m_n g0 N) = nI (m_ap g0 g1 g2 N) := by
  unfold x_gk m_ap
  rw [ct_cong (fun k hk => (h.kg1 q (by omega)).trans (Bool.and_comm _ _))]
theorem sp_fin : ∀ a, a < 24 → ∀ b c : Bool, nI a + (0 + bI b - bI c) = nI a - bI c + bI b := by decide +kernel
theorem m_ab_lt (hN : N ≤ 24) : m_ab g0 g1 g2 N < 24 := by
  have h1 := ct_le (m_br g0 g1 g2 N) (m_n g0 N - 1)
  have hm := m_n_le g0 N
  unfold m_ab; omega
theorem Ra.sp (h : Ra N f0 f1 f2 g0 g1 g2) (q : Rp N f3 g0) (hg : g + 1 < m_n g0 N) : x_gk f0 f1 f2 f3 2 (m_n g0 N) + x_bc f0 f1 f2 f3 (nI g) = m_sp g0 g1 g2 N g := by
  rw [h.gk2 q, h.bc q hg]
  exact sp_fin _ (m_ab_lt h.n) _ _
theorem bs_fin : ∀ a, a < 24 → ∀ b c d : Bool, (nI a - bI c + bI b < nI a + -bI d ↔ 0 + bI b - bI c < -bI d) := by decide +kernel
theorem bs_fin2 : ∀ b c d : Bool, 0 + bI b - bI c < -bI d → ∃ e : Bool, 0 + bI b - bI c = -bI e := by decide +kernel
theorem Ra.bs (h : Ra N f0 f1 f2 g0 g1 g2) (q : Rp N f3 g0) : ∀ i, i ≤ m_n g0 N - 1 → (x_bs f0 f1 f2 f3 i).1 = (m_bs g0 g1 g2 N i).1 ∧ (m_bs g0 g1 g2 N i).2 = nI (m_ab g0 g1 g2 N) + (x_bs f0 f1 f2 f3 i).2 ∧ ∃ d : Bool, (x_bs f0 f1 f2 f3 i).2 = -bI d
  | 0, _ => ⟨rfl, (Int32.add_zero _).symm, false, rfl⟩
  | i + 1, hi => by
    obtain ⟨e1, e2, d, e3⟩ := Ra.bs h q i (by omega)
    have hb := h.bc q (g := i) (by omega)
    have hlt := m_ab_lt (g0 := g0) (g1 := g1) (g2 := g2) h.n
    have hc := bs_fin _ hlt (m_is g0 g1 N i) (m_br g0 g1 g2 N i) d
    rw [x_bs_s, m_bs_s, h.tig q (by omega), hb, e2, e3]
    have hs : m_sp g0 g1 g2 N i = nI (m_ab g0 g1 g2 N) - bI (m_br g0 g1 g2 N i) + bI (m_is g0 g1 N i) := rfl
    by_cases c : m_ti g0 g2 N i = false ∧ 0 + bI (m_is g0 g1 N i) - bI (m_br g0 g1 g2 N i) < -bI d
    · rw [if_pos c, if_pos ⟨c.1, by rw [hs]; exact hc.mpr c.2⟩]
      refine ⟨rfl, ?_, bs_fin2 _ _ _ c.2⟩
      exact (sp_fin _ hlt _ _).symm
    · rw [if_neg c, if_neg (fun x => c ⟨x.1, hc.mp (by rw [← hs]; exact x.2)⟩)]
      exact ⟨e1, e2, d, e3⟩
theorem Rw.rdh (r : Rw N f3 f4 g0 g1 g2 w t) (hN : N ≤ 24) (hg : g < m_n g0 N) : rd f4 (nI g) = nI (m_th g0 g1 g2 N g) := by
  have := m_n_le g0 N
  rw [rd_k (by omega), r.h g hg]
theorem Rw.wt (r : Rw N f3 f4 g0 g1 g2 w t) (hN : N ≤ 24) (x : Int32) : x_wt f4 x (m_n g0 N) = nI (m_ln g0 g1 g2 N x) := by
  unfold x_wt m_ln
  rw [ct_cong (fun k hk => by rw [r.rdh hN hk])]
theorem Rw.lg (r : Rw N f3 f4 g0 g1 g2 w t) (hN : N ≤ 24) (h0 : 0 < m_n g0 N) : ∀ i, i ≤ 24 → (x_lg f4 (m_n g0 N) i).1 = m_lg g0 g1 g2 N i ∧ (i = 0 ∨ ∃ j, j < 24 ∧ m_lg g0 g1 g2 N i = nI j) ∧ (x_lg f4 (m_n g0 N) i).2 = if i = 0 then 0 else nI (m_ln g0 g1 g2 N (m_lg g0 g1 g2 N i))
  | 0, _ => ⟨rfl, Or.inl rfl, rfl⟩
  | i + 1, hi => by
    obtain ⟨e1, e2, e3⟩ := Rw.lg r hN h0 i (by omega)
    have hs : m_lg g0 g1 g2 N (i + 1) = if m_lg g0 g1 g2 N i = -1 then nI i else if nI (m_ln g0 g1 g2 N (m_lg g0 g1 g2 N i)) < nI (m_ln g0 g1 g2 N (nI i)) then nI i else m_lg g0 g1 g2 N i := rfl
    rw [x_lg_s, r.wt hN, e3]
    rw [if_neg (show ¬ i + 1 = 0 by omega)]
    have hln : ∀ x, m_ln g0 g1 g2 N x ≤ 24 := fun x => by
      have h1 := ct_le (fun w => decide (nI (m_th g0 g1 g2 N w) = x)) (m_n g0 N)
      have hm := m_n_le g0 N
      unfold m_ln; omega
    by_cases z : i = 0
    · subst z
      have hpos : 0 < m_ln g0 g1 g2 N (nI 0) := by
        unfold m_ln
        have h1 := ct_mono (fun w => decide (nI (m_th g0 g1 g2 N w) = nI 0)) (show 1 ≤ m_n g0 N by omega)
        have h2 : ct (fun w => decide (nI (m_th g0 g1 g2 N w) = nI 0)) 1 = 1 := rfl
        omega
      have hlt : (0 : Int32) < nI (m_ln g0 g1 g2 N (nI 0)) := nI_lt (a := 0) hpos (by have := hln (nI 0); omega)
      have hl : m_lg g0 g1 g2 N (0 + 1) = nI 0 := by rw [hs]; exact if_pos rfl
      rw [if_pos rfl, if_pos hlt, hl]
      exact ⟨rfl, Or.inr ⟨0, by omega, rfl⟩, rfl⟩
    · rw [if_neg z]
      obtain ⟨j, hj, ej⟩ := e2.resolve_left z
      have hm1 : ¬ m_lg g0 g1 g2 N i = -1 := by
        rw [ej]
        have : ∀ j, j < 24 → ¬ nI j = -1 := by decide +kernel
        exact this j hj
      rw [if_neg hm1] at hs
      by_cases c : nI (m_ln g0 g1 g2 N (m_lg g0 g1 g2 N i)) < nI (m_ln g0 g1 g2 N (nI i))
      · rw [if_pos c] at hs ⊢
        rw [hs]
        exact ⟨rfl, Or.inr ⟨i, by omega, rfl⟩, rfl⟩
      · rw [if_neg c] at hs ⊢
        rw [hs]
        exact ⟨e1, Or.inr ⟨j, hj, ej⟩, by rw [e3, if_neg z]⟩
theorem Rw.lgt (r : Rw N f3 f4 g0 g1 g2 w t) (hN : N ≤ 24) : (x_lg f4 (m_n g0 N) (m_tn g0 g1 g2 N)).1 = m_lg g0 g1 g2 N (m_tn g0 g1 g2 N) := by
  have hb := m_ab_lt (g0 := g0) (g1 := g1) (g2 := g2) hN
  by_cases z : m_n g0 N = 0
  · have : m_tn g0 g1 g2 N = 0 := by unfold m_tn; rw [if_pos z]
    rw [this]; rfl
  · have : m_tn g0 g1 g2 N = m_ab g0 g1 g2 N + 1 := by unfold m_tn; rw [if_neg z]
    exact (r.lg hN (by omega) _ (by omega)).1
theorem Ra.ca (h : Ra N f0 f1 f2 g0 g1 g2) (q : Rp N f3 g0) : x_ca f0 f1 f2 f3 (m_n g0 N - 1) = m_ma g0 g1 g2 N (m_n g0 N - 1) := by
  unfold x_ca m_ma
  exact fo_cong fun k hk b => by rw [h.mc q (by omega)]
theorem Ra.ss (h : Ra N f0 f1 f2 g0 g1 g2) (q : Rp N f3 g0) : x_ss f1 f3 (m_n g0 N - 1) = m_ss g0 N (m_n g0 N - 1) := by
  unfold x_ss m_ss
  exact fo_cong fun k hk b => by rw [h.st q (by omega)]
theorem Ra.ms (h : Ra N f0 f1 f2 g0 g1 g2) (q : Rp N f3 g0) : x_ms f1 f3 (m_n g0 N) = m_ms g0 N := by
  unfold x_ms m_ms
  rw [h.ss q]
end RC
