/-! own rows: the conversation and its simulation, alike -/
/-- where the simulation's cells lie: none below q0, all apart -/
def sX (N S O : Nat) (r : Nat → Nat) (q0 : Nat) : Prop := q0 ≤ S ∧ q0 ≤ O ∧ S ≠ O ∧ (∀ i, i < N → q0 ≤ r i ∧ r i ≠ S ∧ r i ≠ O) ∧ ∀ i j, i < N → j < N → r i = r j → i = j
/-- where the conversation's cells lie: all below q0, apart -/
def tX (ad : Nat → Nat) (q0 : Nat) : Prop := (∀ k, k < 6 → ad k < q0) ∧ ∀ i j, i < 6 → j < 6 → ad i = ad j → i = j
theorem xw_at {cI : ClassId} {ad : Nat → Nat} {n w t pa pe : Int32} {f0 f1 f2 f3 f4 : Nat → Int32} {k : Nat} {x : Nat × va_E} (h : (xw cI ad n w t pa pe f0 f1 f2 f3 f4)[k]? = some x) : k < 6 ∧ x.1 = ad k := by
  match k, h with
  | 0, h => cases h; exact ⟨by omega, rfl⟩
  | 1, h => cases h; exact ⟨by omega, rfl⟩
  | 2, h => cases h; exact ⟨by omega, rfl⟩
  | 3, h => cases h; exact ⟨by omega, rfl⟩
  | 4, h => cases h; exact ⟨by omega, rfl⟩
  | 5, h => cases h; exact ⟨by omega, rfl⟩
  | k + 6, h => cases h
theorem tX.D {ad : Nat → Nat} {q0 : Nat} (h : tX ad q0) {cI : ClassId} {n w t pa pe : Int32} {f0 f1 f2 f3 f4 : Nat → Int32} : va_D (fun _ => True) (xw cI ad n w t pa pe f0 f1 f2 f3 f4) :=
  ⟨fun i j x y hi hj e => by
    obtain ⟨a1, a2⟩ := xw_at hi
    obtain ⟨b1, b2⟩ := xw_at hj
    exact h.2 i j a1 b1 (by rw [← a2, ← b2]; exact e), fun _ _ _ => trivial⟩
/-- what a turn may write: the conversation's cells, and all from q0 on -/
def aF (ad : Nat → Nat) (q0 : Nat) : Nat → Prop := fun q => (∃ k, k < 6 ∧ q = ad k) ∨ q0 ≤ q
theorem xw_A {cI : ClassId} {ad : Nat → Nat} {n w t pa pe : Int32} {f0 f1 f2 f3 f4 : Nat → Int32} {sz q : Nat} (h : va_A (xw cI ad n w t pa pe f0 f1 f2 f3 f4) sz q) : (∃ k, k < 6 ∧ q = ad k) ∨ sz ≤ q := by
  rcases h with ⟨k, e, h⟩ | h
  · obtain ⟨h1, h2⟩ := xw_at h
    exact Or.inl ⟨k, h1, h2⟩
  · exact Or.inr h
theorem xw_kp {D : va_G} {cI : ClassId} {ad : Nat → Nat} {n w t pa pe : Int32} {f0 f1 f2 f3 f4 : Nat → Int32} {H H1 : Heap} (h : va_P D vwCl (xw cI ad n w t pa pe f0 f1 f2 f3 f4) H) (hk : ∀ k, k < 6 → H1[ad k]? = H[ad k]?) : va_P D vwCl (xw cI ad n w t pa pe f0 f1 f2 f3 f4) H1 :=
  h.kept fun k x hx => by
    obtain ⟨h1, h2⟩ := xw_at hx
    rw [h2]
    exact hk k h1
theorem xw_lt {D : va_G} {cI : ClassId} {ad : Nat → Nat} {n w t pa pe : Int32} {f0 f1 f2 f3 f4 : Nat → Int32} {H : Heap} (h : va_P D vwCl (xw cI ad n w t pa pe f0 f1 f2 f3 f4) H) : ∀ k, k < 6 → ad k < H.size := by
  have key : ∀ (k : Nat) (x : Nat × va_E), (xw cI ad n w t pa pe f0 f1 f2 f3 f4)[k]? = some x → x.1 < H.size := fun k x hx => (h k x hx).lt
  intro k hk
  rcases (show k = 0 ∨ k = 1 ∨ k = 2 ∨ k = 3 ∨ k = 4 ∨ k = 5 by omega) with rfl | rfl | rfl | rfl | rfl | rfl
  · exact key 0 _ rfl
  · exact key 1 _ rfl
  · exact key 2 _ rfl
  · exact key 3 _ rfl
  · exact key 4 _ rfl
  · exact key 5 _ rfl
/-- a heap that is the old one but at the conversation's cells leaves the simulation as it was -/
theorem sG.byT {D : va_G} {cI cA : ClassId} {S O N : Nat} {r : Nat → Nat} {g0 g1 g2 : Nat → Int32} {pa pe : Int32} {H H1 : Heap} {q0 : Nat} (h : sG D cI cA S O N r g0 g1 g2 pa pe H) (hX : sX N S O r q0) (hk : ∀ q, q < H.size → q0 ≤ q → H1[q]? = H[q]?) : sG D cI cA S O N r g0 g1 g2 pa pe H1 :=
  ⟨h.1.kept (hk S h.1.lt hX.1), (hk O (z_lt h.2.1) hX.2.1).trans h.2.1, fun i hi => by
    obtain ⟨f, h1, h2⟩ := h.2.2 i hi
    exact ⟨f, (hk _ (z_lt h1) (hX.2.2.2.1 i hi).1).trans h1, h2⟩⟩
theorem t_k {cI : ClassId} {ad : Nat → Nat} {n w t pa pe : Int32} {f0 f1 f2 f3 f4 : Nat → Int32} {q0 : Nat} {H H1 : Heap} (hX : tX ad q0) (hk : ∀ q : Nat, q < H.size → ¬ va_A (xw cI ad n w t pa pe f0 f1 f2 f3 f4) H.size q → H1[q]? = H[q]?) : ∀ q, q < H.size → q0 ≤ q → H1[q]? = H[q]? :=
  fun q h1 h2 => hk q h1 fun h => by
    rcases xw_A h with ⟨k, hk1, e⟩ | h
    · have := hX.1 k hk1
      omega
    · omega
/-- the conversation and the simulation of it -/
def zST (D : va_G) (cI cA : ClassId) (ad : Nat → Nat) (S q0 : Nat) (H : Heap) : Prop :=
  ∃ (N : Nat) (w t : Int32) (pa : Nat) (pe : Int32) (f0 f1 f2 f3 f4 g0 g1 g2 : Nat → Int32) (O : Nat) (r : Nat → Nat), Ra N f0 f1 f2 g0 g1 g2 ∧ Rw N f3 f4 g0 g1 g2 w t ∧ (∀ k, k < N → ∃ v, v < 6 ∧ g1 k = nI v) ∧ pa ≤ 99 ∧
    va_P D vwCl (xw cI ad (nI N) w t (nI pa) pe f0 f1 f2 f3 f4) H ∧ sG D cI cA S O N r g0 g1 g2 (nI pa) pe H ∧ sX N S O r q0
theorem Ra.ok {N : Nat} {f0 f1 f2 g0 g1 g2 : Nat → Int32} (h : Ra N f0 f1 f2 g0 g1 g2) : w_ok g0 g2 N := ⟨h.n, h.hT, h.ti⟩
theorem sG_ins {D : va_G} {cI cA : ClassId} {S u N P y : Nat} {r : Nat → Nat} {g0 g1 g2 h0 h1 h2 : Nat → Int32} {pa pe a v b : Int32} {H : Heap} (hs : sS D pa pe (.ref u) S H) (hu : aR cA (N + 1) (fun i => some (r_ins r P y i)) u H)
    (hold : ∀ i, i < N → ∃ f, aI cI 3 f (r i) H ∧ ∀ j, j < 3 → f j = s_row g0 g1 g2 i j) (hy : ∃ f, aI cI 3 f y H ∧ f 0 = a ∧ f 1 = v ∧ f 2 = b) (hP : P ≤ N)
    (e0 : ∀ k, k < N + 1 → h0 k = if k < P then g0 k else if k = P then v else g0 (k - 1)) (e1 : ∀ k, k < N + 1 → h1 k = if k < P then g1 k else if k = P then a else g1 (k - 1)) (e2 : ∀ k, k < N + 1 → h2 k = if k < P then g2 k else if k = P then b else g2 (k - 1)) :
    sG D cI cA S u (N + 1) (r_ins r P y) h0 h1 h2 pa pe H := by
  refine ⟨hs, hu, fun i hi => ?_⟩
  by_cases c : i < P
  · obtain ⟨f, hf, ef⟩ := hold i (by omega)
    refine ⟨f, by unfold r_ins; rw [if_pos c]; exact hf, fun j hj => ?_⟩
    rw [ef j hj]
    rcases (show j = 0 ∨ j = 1 ∨ j = 2 by omega) with rfl | rfl | rfl
    · show g1 i = h1 i; rw [e1 i hi, if_pos c]
    · show g0 i = h0 i; rw [e0 i hi, if_pos c]
    · show g2 i = h2 i; rw [e2 i hi, if_pos c]
  · by_cases c2 : i = P
    · obtain ⟨f, hf, x0, x1, x2⟩ := hy
      refine ⟨f, by unfold r_ins; rw [if_neg c, if_pos c2]; exact hf, fun j hj => ?_⟩
      rcases (show j = 0 ∨ j = 1 ∨ j = 2 by omega) with rfl | rfl | rfl
      · show f 0 = h1 i; rw [e1 i hi, if_neg c, if_pos c2, x0]
      · show f 1 = h0 i; rw [e0 i hi, if_neg c, if_pos c2, x1]
      · show f 2 = h2 i; rw [e2 i hi, if_neg c, if_pos c2, x2]
    · obtain ⟨f, hf, ef⟩ := hold (i - 1) (by omega)
      refine ⟨f, by unfold r_ins; rw [if_neg c, if_neg c2]; exact hf, fun j hj => ?_⟩
      rw [ef j hj]
      rcases (show j = 0 ∨ j = 1 ∨ j = 2 by omega) with rfl | rfl | rfl
      · show g1 (i - 1) = h1 i; rw [e1 i hi, if_neg c, if_neg c2]
      · show g0 (i - 1) = h0 i; rw [e0 i hi, if_neg c, if_neg c2]
      · show g2 (i - 1) = h2 i; rw [e2 i hi, if_neg c, if_neg c2]
theorem sX_ins {N S O u P y q0 sz : Nat} {r : Nat → Nat} (h : sX N S O r q0) (hS : S < sz) (hr : ∀ i, i < N → r i < sz) (hq : q0 ≤ sz) (hu : sz ≤ u) (hy : sz ≤ y) (hne : u ≠ y) (hP : P ≤ N) : sX (N + 1) S u (r_ins r P y) q0 := by
  obtain ⟨h1, h2, h3, h4, h5⟩ := h
  have key : ∀ i, i < N + 1 → (i < P ∧ r_ins r P y i = r i) ∨ (i = P ∧ r_ins r P y i = y) ∨ (P < i ∧ r_ins r P y i = r (i - 1)) := fun i _ => by
    unfold r_ins
    by_cases c : i < P
    · exact Or.inl ⟨c, if_pos c⟩
    · by_cases c2 : i = P
      · exact Or.inr (Or.inl ⟨c2, by rw [if_neg c, if_pos c2]⟩)
      · exact Or.inr (Or.inr ⟨by omega, by rw [if_neg c, if_neg c2]⟩)
  refine ⟨h1, by omega, by omega, fun i hi => ?_, fun i j hi hj e => ?_⟩
  · rcases key i hi with ⟨c, e⟩ | ⟨c, e⟩ | ⟨c, e⟩ <;> rw [e]
    · have := hr i (by omega)
      exact ⟨(h4 i (by omega)).1, (h4 i (by omega)).2.1, by omega⟩
    · exact ⟨by omega, by omega, fun e => hne e.symm⟩
    · have := hr (i - 1) (by omega)
      exact ⟨(h4 (i - 1) (by omega)).1, (h4 (i - 1) (by omega)).2.1, by omega⟩
  · rcases key i hi with ⟨c, e1⟩ | ⟨c, e1⟩ | ⟨c, e1⟩ <;> rcases key j hj with ⟨d, e2⟩ | ⟨d, e2⟩ | ⟨d, e2⟩ <;> rw [e1, e2] at e
    · exact h5 i j (by omega) (by omega) e
    · have := hr i (by omega); omega
    · have := h5 i (j - 1) (by omega) (by omega) e; omega
    · have := hr j (by omega); omega
    · omega
    · have := hr (j - 1) (by omega); omega
    · have := h5 (i - 1) j (by omega) (by omega) e; omega
    · have := hr (i - 1) (by omega); omega
    · have := h5 (i - 1) (j - 1) (by omega) (by omega) e; omega
theorem sG_rem {D : va_G} {cI cA : ClassId} {S u N P : Nat} {r : Nat → Nat} {g0 g1 g2 h0 h1 h2 : Nat → Int32} {pa pe : Int32} {H : Heap} (hs : sS D pa pe (.ref u) S H) (hu : aR cA (N - 1) (fun i => some (r_rem r P i)) u H)
    (hold : ∀ i, i < N → ∃ f, aI cI 3 f (r i) H ∧ ∀ j, j < 3 → f j = s_row g0 g1 g2 i j) (hP : P < N)
    (e0 : ∀ k, k < N - 1 → h0 k = if P ≤ k then g0 (k + 1) else g0 k) (e1 : ∀ k, k < N - 1 → h1 k = if P ≤ k then g1 (k + 1) else g1 k) (e2 : ∀ k, k < N - 1 → h2 k = if P ≤ k then g2 (k + 1) else g2 k) :
    sG D cI cA S u (N - 1) (r_rem r P) h0 h1 h2 pa pe H := by
  refine ⟨hs, hu, fun i hi => ?_⟩
  by_cases c : i < P
  · obtain ⟨f, hf, ef⟩ := hold i (by omega)
    refine ⟨f, by unfold r_rem; rw [if_pos c]; exact hf, fun j hj => ?_⟩
    rw [ef j hj]
    rcases (show j = 0 ∨ j = 1 ∨ j = 2 by omega) with rfl | rfl | rfl
    · show g1 i = h1 i; rw [e1 i hi, if_neg (by omega)]
    · show g0 i = h0 i; rw [e0 i hi, if_neg (by omega)]
    · show g2 i = h2 i; rw [e2 i hi, if_neg (by omega)]
  · obtain ⟨f, hf, ef⟩ := hold (i + 1) (by omega)
    refine ⟨f, by unfold r_rem; rw [if_neg c]; exact hf, fun j hj => ?_⟩
    rw [ef j hj]
    rcases (show j = 0 ∨ j = 1 ∨ j = 2 by omega) with rfl | rfl | rfl
    · show g1 (i + 1) = h1 i; rw [e1 i hi, if_pos (by omega)]
    · show g0 (i + 1) = h0 i; rw [e0 i hi, if_pos (by omega)]
    · show g2 (i + 1) = h2 i; rw [e2 i hi, if_pos (by omega)]
theorem sX_rem {N S O u P q0 sz : Nat} {r : Nat → Nat} (h : sX N S O r q0) (hS : S < sz) (hr : ∀ i, i < N → r i < sz) (hq : q0 ≤ sz) (hu : sz ≤ u) (hP : P < N) : sX (N - 1) S u (r_rem r P) q0 := by
  obtain ⟨h1, h2, h3, h4, h5⟩ := h
  have key : ∀ i, i < N - 1 → (i < P ∧ r_rem r P i = r i) ∨ (P ≤ i ∧ r_rem r P i = r (i + 1)) := fun i _ => by
    unfold r_rem
    by_cases c : i < P
    · exact Or.inl ⟨c, if_pos c⟩
    · exact Or.inr ⟨by omega, if_neg c⟩
  refine ⟨h1, by omega, by omega, fun i hi => ?_, fun i j hi hj e => ?_⟩
  · rcases key i hi with ⟨c, e⟩ | ⟨c, e⟩ <;> rw [e]
    · have := hr i (by omega)
      exact ⟨(h4 i (by omega)).1, (h4 i (by omega)).2.1, by omega⟩
    · have := hr (i + 1) (by omega)
      exact ⟨(h4 (i + 1) (by omega)).1, (h4 (i + 1) (by omega)).2.1, by omega⟩
  · rcases key i hi with ⟨c, e1⟩ | ⟨c, e1⟩ <;> rcases key j hj with ⟨d, e2⟩ | ⟨d, e2⟩ <;> rw [e1, e2] at e
    · exact h5 i j (by omega) (by omega) e
    · have := h5 i (j + 1) (by omega) (by omega) e; omega
    · have := h5 (i + 1) j (by omega) (by omega) e; omega
    · have := h5 (i + 1) (j + 1) (by omega) (by omega) e; omega
theorem sG.hold {D : va_G} {cI cA : ClassId} {S O N : Nat} {r : Nat → Nat} {g0 g1 g2 : Nat → Int32} {pa pe : Int32} {H H1 : Heap} (h : sG D cI cA S O N r g0 g1 g2 pa pe H) (hk : ∀ i, i < N → H1[r i]? = H[r i]?) : ∀ i, i < N → ∃ f, aI cI 3 f (r i) H1 ∧ ∀ j, j < 3 → f j = s_row g0 g1 g2 i j := fun i hi => by
  obtain ⟨f, h1, h2⟩ := h.2.2 i hi
  exact ⟨f, (hk i hi).trans h1, h2⟩
theorem sG.rlt {D : va_G} {cI cA : ClassId} {S O N : Nat} {r : Nat → Nat} {g0 g1 g2 : Nat → Int32} {pa pe : Int32} {H : Heap} (h : sG D cI cA S O N r g0 g1 g2 pa pe H) : ∀ i, i < N → r i < H.size := fun i hi => by
  obtain ⟨f, h1, -⟩ := h.2.2 i hi
  exact z_lt h1
/-- a remark is put behind all others, in the simulation first, then in the conversation -/
theorem st_add {D : va_G} {cI cA : ClassId} {ad : Nat → Nat} {S u N y q0 pa : Nat} {r : Nat → Nat} {w t pe a v : Int32} {f0 f1 f2 f3 f4 g0 g1 g2 : Nat → Int32} {H : Heap} (hR : Ra N f0 f1 f2 g0 g1 g2) (hg : ∀ k, k < N → ∃ v, v < 6 ∧ g1 k = nI v) (hpa : pa ≤ 99) (hN : N < 24)
    (hv : v = -1 ∨ ∃ t : Nat, t < 10 ∧ v = nI t) (ha : ∃ u, u < 6 ∧ a = nI u)
    (hT : va_P D vwCl (xw cI ad (nI (N + 1)) (nI (x_wn (wr f1 (nI N) v) (N + 1))) (nI (x_tcn (wr f0 (nI N) a) (wr f1 (nI N) v) (wr f2 (nI N) 0) (x_wp (wr f1 (nI N) v) f3 (N + 1)) (x_wn (wr f1 (nI N) v) (N + 1)))) (nI pa) pe (wr f0 (nI N) a) (wr f1 (nI N) v) (wr f2 (nI N) 0) (x_wp (wr f1 (nI N) v) f3 (N + 1)) (x_wh (wr f0 (nI N) a) (wr f1 (nI N) v) (wr f2 (nI N) 0) (x_wp (wr f1 (nI N) v) f3 (N + 1)) f4 (x_wn (wr f1 (nI N) v) (N + 1)))) H)
    (hs : sS D (nI pa) pe (.ref u) S H) (hu : aR cA (N + 1) (fun i => some (r_ins r N y i)) u H) (hold : ∀ i, i < N → ∃ f, aI cI 3 f (r i) H ∧ ∀ j, j < 3 → f j = s_row g0 g1 g2 i j) (hy : ∃ f, aI cI 3 f y H ∧ f 0 = a ∧ f 1 = v ∧ f 2 = 0)
    (hX : sX (N + 1) S u (r_ins r N y) q0) : zST D cI cA ad S q0 H := by
  have hR' := hR.put hN hv (a := a)
  have up : ∀ (g : Nat → Int32) (z : Int32) (k : Nat), k < N + 1 → upd g N z k = if k < N then g k else if k = N then z else g (k - 1) := fun g z k hk => by
    by_cases c : k = N
    · rw [c, upd_e, if_neg (Nat.lt_irrefl N), if_pos rfl]
    · rw [upd_n c, if_pos (by omega)]
  refine ⟨N + 1, _, _, pa, pe, _, _, _, _, _, upd g0 N v, upd g1 N a, upd g2 N 0, u, r_ins r N y, hR', hR'.recount rfl, fun k hk => ?_, hpa, hT, sG_ins hs hu hold hy (Nat.le_refl N) (up g0 v) (up g1 a) (up g2 0), hX⟩
  by_cases c : k = N
  · rw [c, upd_e]; exact ha
  · rw [upd_n c]; exact hg k (by omega)
