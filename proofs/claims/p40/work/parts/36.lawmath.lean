/-! own rows: what the law's checks rest on -/
theorem m_sb {g0 g1 g2 : Nat → Int32} {N g : Nat} (h : m_so g0 g2 N g = true) : m_br g0 g1 g2 N g = false := by
  unfold m_so at h
  unfold m_br m_po
  cases c : m_ti g0 g2 N g with
  | true => rfl
  | false =>
    rw [c, Bool.false_or] at h
    rw [decide_eq_true (i_12 (of_decide_eq_true h))]
    rfl
theorem m_one (g0 g1 g2 : Nat → Int32) (N g : Nat) : bI (m_so g0 g2 N g) + bI (m_pol g0 g1 g2 N g) + bI (m_br g0 g1 g2 N g) = 1 := by
  unfold m_pol
  cases c : m_so g0 g2 N g with
  | true => rw [m_sb c]; decide
  | false => cases d : m_br g0 g1 g2 N g <;> decide
theorem m_ts1 {g0 g2 : Nat → Int32} {N g : Nat} (h : m_ti g0 g2 N g = true) : m_so g0 g2 N g = true := by
  unfold m_so
  rw [h]
  rfl
theorem mdc_fin : ∀ d, d < 6 → ∀ c, c < 23 → ∀ b : Bool, m_mc (nI d + nI c) b c = nI 1 ∨ m_mc (nI d + nI c) b c = nI 2 ∨ m_mc (nI d + nI c) b c = nI 3 := by decide +kernel
theorem md_r {g0 g1 g2 : Nat → Int32} {N g : Nat} (hw : w_ok g0 g2 N) (hg : g + 1 < m_n g0 N) : ∃ c, c ≤ 3 ∧ m_md g0 g1 g2 N g = nI c ∧ decide (0 < c) = m_br g0 g1 g2 N g := by
  unfold m_md
  cases e : m_br g0 g1 g2 N g with
  | false => exact ⟨0, by omega, by rw [if_neg Bool.false_ne_true]; rfl, rfl⟩
  | true =>
    obtain ⟨hc, d, hd, es⟩ := m_stN hw hg
    rw [if_pos rfl, es]
    rcases mdc_fin d hd _ hc (m_sm g0 g1 N g) with h | h | h <;> rw [h]
    · exact ⟨1, by omega, rfl, rfl⟩
    · exact ⟨2, by omega, rfl, rfl⟩
    · exact ⟨3, by omega, rfl, rfl⟩
theorem ct_not (p : Nat → Bool) : ∀ n, ct (fun k => !p k) n + ct p n = n
  | 0 => rfl
  | n + 1 => by
    have h := ct_not p n
    rw [ct_s, ct_s]
    cases p n <;> simp <;> omega
theorem ct_pos {p : Nat → Bool} {w n : Nat} (hw : w < n) (h : p w = true) : 0 < ct p n := by
  have h1 := ct_mono p (show w + 1 ≤ n by omega)
  rw [ct_t h] at h1
  omega
theorem ct_hit (p : Nat → Bool) : ∀ n k, k ≤ ct p n → ∃ w, w ≤ n ∧ ct p w = k
  | 0, k, h => ⟨0, Nat.le_refl 0, by have : ct p 0 = 0 := rfl; omega⟩
  | n + 1, k, h => by
    by_cases c : k ≤ ct p n
    · obtain ⟨w, h1, h2⟩ := ct_hit p n k c
      exact ⟨w, by omega, h2⟩
    · refine ⟨n + 1, Nat.le_refl _, ?_⟩
      have h2 : ct p (n + 1) ≤ ct p n + 1 := by rw [ct_s]; split <;> omega
      omega
/-- sums -/
def sm (f : Nat → Nat) : Nat → Nat
  | 0 => 0
  | k + 1 => sm f k + f k
theorem sm_add {f g h : Nat → Nat} (e : ∀ k, f k = g k + h k) : ∀ n, sm f n = sm g n + sm h n
  | 0 => rfl
  | n + 1 => by
    have := sm_add e n
    show sm f n + f n = (sm g n + g n) + (sm h n + h n)
    rw [this, e n]
    omega
theorem sm_cg {f g : Nat → Nat} : ∀ {n}, (∀ k, k < n → f k = g k) → sm f n = sm g n
  | 0, _ => rfl
  | n + 1, h => by
    show sm f n + f n = sm g n + g n
    rw [sm_cg (fun k hk => h k (by omega)), h n (by omega)]
theorem sm_le {f g : Nat → Nat} : ∀ {n}, (∀ k, k < n → f k ≤ g k) → sm f n ≤ sm g n
  | 0, _ => Nat.le_refl 0
  | n + 1, h => by
    have := sm_le (fun k hk => h k (show k < n + 1 by omega)) (n := n)
    have h2 := h n (by omega)
    show sm f n + f n ≤ sm g n + g n
    omega
theorem sm_z : ∀ n, sm (fun _ => 0) n = 0
  | 0 => rfl
  | n + 1 => sm_z n
theorem sm_1 (a : Nat) : ∀ n, sm (fun k => if k = a then 1 else 0) n = if a < n then 1 else 0
  | 0 => rfl
  | n + 1 => by
    show sm (fun k => if k = a then 1 else 0) n + (if n = a then 1 else 0) = _
    rw [sm_1 a n]
    by_cases c : n = a
    · subst c; simp
    · by_cases d : a < n
      · rw [if_pos d, if_neg c, if_pos (by omega)]
      · rw [if_neg d, if_neg c, if_neg (by omega)]
theorem pcn_le1 {M b : Nat} (hb : b < 31) : pcn (M ||| 2 ^ b) ≤ pcn M + 1 ∧ pcn M ≤ pcn (M ||| 2 ^ b) := by
  cases h : M.testBit b with
  | true => rw [or_same h]; omega
  | false => rw [pcn_or hb h]; omega
theorem pcn_pos {M b : Nat} (hb : b < 31) (h : M.testBit b = true) : 0 < pcn M := ct_pos hb h
theorem pcn_orp {M b : Nat} (hb : b < 31) : 0 < pcn (M ||| 2 ^ b) := pcn_pos hb (by rw [tb_or]; simp)
section LM
variable {N : Nat} {g0 g1 g2 : Nat → Int32}
theorem m_P_ge : ∀ w, w < m_n g0 N → m_P g0 N 0 + w ≤ m_P g0 N w
  | 0, _ => Nat.le_refl _
  | w + 1, h => by
    have h1 := m_P_ge w (by omega)
    have h2 := m_P_up (show w < w + 1 by omega) h
    omega
def z_bt (g0 : Nat → Int32) (N w : Nat) : Nat := m_P g0 N w - m_P g0 N 0 - w
theorem bt_s {w : Nat} (h : w + 1 < m_n g0 N) : z_bt g0 N w + m_cN g0 N w = z_bt g0 N (w + 1) := by
  have h1 := m_P_ge w (show w < m_n g0 N by omega)
  have h2 := m_P_up (show w < w + 1 by omega) h
  unfold z_bt m_cN
  omega
theorem bt_le : z_bt g0 N (m_n g0 N - 1) ≤ N - m_n g0 N := by
  have hm := m_n_le g0 N
  unfold z_bt
  by_cases z : m_n g0 N = 0
  · rw [z]; simp
  · have h := m_P_lt (show m_n g0 N - 1 < m_n g0 N by omega)
    omega
theorem th_lt {w : Nat} (h : w < m_n g0 N) : m_th g0 g1 g2 N w < m_tn g0 g1 g2 N := by
  have h1 := ct_mono (m_br g0 g1 g2 N) (show w ≤ m_n g0 N - 1 by omega)
  unfold m_tn m_ab m_th
  rw [if_neg (by omega)]
  omega
theorem tn_le : m_tn g0 g1 g2 N ≤ m_n g0 N := by
  unfold m_tn m_ab
  split
  · omega
  · have := ct_le (m_br g0 g1 g2 N) (m_n g0 N - 1)
    omega
theorem th_hit {k : Nat} (h : k < m_tn g0 g1 g2 N) : ∃ w, w < m_n g0 N ∧ m_th g0 g1 g2 N w = k := by
  unfold m_tn at h
  by_cases z : m_n g0 N = 0
  · rw [if_pos z] at h; omega
  · rw [if_neg z] at h
    obtain ⟨w, h1, h2⟩ := ct_hit (m_br g0 g1 g2 N) (m_n g0 N - 1) k (by unfold m_ab at h; omega)
    exact ⟨w, by omega, h2⟩
theorem ln_pos {k : Nat} (h : k < m_tn g0 g1 g2 N) : 0 < m_ln g0 g1 g2 N (nI k) := by
  obtain ⟨w, h1, h2⟩ := th_hit h
  exact ct_pos h1 (decide_eq_true (by rw [h2]))
theorem ln_le (x : Int32) : m_ln g0 g1 g2 N x ≤ m_n g0 N := ct_le _ _
theorem sm_lnw (K : Nat) (hK : K ≤ 24) : ∀ w, w ≤ 24 → (∀ w', w' < w → m_th g0 g1 g2 N w' < K) → sm (fun k => m_lnw g0 g1 g2 N k w) K = w
  | 0, _, _ => sm_z K
  | w + 1, hw, h => by
    have ih := sm_lnw K hK w (by omega) (fun w' h' => h w' (by omega))
    have ht := h w (by omega)
    have e : sm (fun k => m_lnw g0 g1 g2 N k (w + 1)) K = sm (fun k => m_lnw g0 g1 g2 N k w + (if k = m_th g0 g1 g2 N w then 1 else 0)) K := sm_cg fun k hk => by
      show m_lnw g0 g1 g2 N k (w + 1) = _
      unfold m_lnw
      rw [ct_s]
      congr 1
      by_cases c : k = m_th g0 g1 g2 N w
      · rw [if_pos c, if_pos (decide_eq_true (by rw [c]))]
      · rw [if_neg c, if_neg (fun x => c ((nI_eq (by omega) (by omega)).mp (of_decide_eq_true x)).symm)]
    rw [e, sm_add (g := fun k => m_lnw g0 g1 g2 N k w) (h := fun k => if k = m_th g0 g1 g2 N w then 1 else 0) (fun _ => rfl), ih, sm_1, if_pos ht]
theorem sm_ln (hN : N ≤ 24) : sm (fun k => m_ln g0 g1 g2 N (nI k)) (m_tn g0 g1 g2 N) = m_n g0 N := by
  have hm := m_n_le g0 N
  have ht := tn_le (N := N) (g0 := g0) (g1 := g1) (g2 := g2)
  exact sm_lnw _ (by omega) _ (by omega) (fun w h => th_lt h)
theorem tq_le (hT : m_hT g0 N) (x : Int32) : ∀ i, i ≤ m_n g0 N → pcn (m_tq g0 g1 g2 N x i) ≤ ct (fun w => decide (nI (m_th g0 g1 g2 N w) = x)) i
  | 0, _ => by show pcn 0 ≤ 0; rw [pcn_0]; exact Nat.le_refl 0
  | i + 1, h => by
    have ih := tq_le hT x i (by omega)
    obtain ⟨t, ht, et⟩ := hT i (by omega)
    rw [m_tq_s, ct_s]
    by_cases c : nI (m_th g0 g1 g2 N i) = x
    · rw [if_pos c, if_pos (decide_eq_true c), et, nI_clamp (by omega)]
      have := (pcn_le1 (M := m_tq g0 g1 g2 N x i) (show t < 31 by omega)).1
      omega
    · rw [if_neg c, if_neg (fun y => c (of_decide_eq_true y))]
      omega
theorem tq_pos (hT : m_hT g0 N) (x : Int32) : ∀ i, i ≤ m_n g0 N → 0 < ct (fun w => decide (nI (m_th g0 g1 g2 N w) = x)) i → 0 < pcn (m_tq g0 g1 g2 N x i)
  | 0, _, h => absurd h (Nat.lt_irrefl 0)
  | i + 1, h, hp => by
    obtain ⟨t, ht, et⟩ := hT i (by omega)
    rw [m_tq_s]
    by_cases c : nI (m_th g0 g1 g2 N i) = x
    · rw [if_pos c, et, nI_clamp (by omega)]
      exact pcn_orp (by omega)
    · rw [if_neg c]
      rw [ct_f (fun y => c (of_decide_eq_true y))] at hp
      exact tq_pos hT x i (by omega) hp
theorem tq_10 (hT : m_hT g0 N) (x : Int32) : pcn (m_tq g0 g1 g2 N x (m_n g0 N)) ≤ 10 := by
  rw [pcn_tail (a := 10) (fun j hj => tb_lt (k := 10) (m_tq_lt g1 g2 x hT _ (Nat.le_refl _)) hj) (by decide)]
  exact ct_le _ _
theorem ts_le (hN : N ≤ 24) (v : Nat) : ∀ i, i ≤ 24 → pcn (m_ts g0 g1 g2 N (nI v) i) ≤ m_wos g0 g1 N v i
  | 0, _ => by show pcn 0 ≤ 0; rw [pcn_0]; exact Nat.le_refl 0
  | i + 1, h => by
    have ih := ts_le hN v i (by omega)
    have ht := m_th_le g0 g1 g2 N i
    rw [m_ts_s, m_wos_s]
    by_cases c : g1 (m_P g0 N i) = nI v
    · rw [if_pos c, if_pos c]
      have := (pcn_le1 (M := m_ts g0 g1 g2 N (nI v) i) (show m_th g0 g1 g2 N i < 31 by omega)).1
      omega
    · rw [if_neg c, if_neg c]
      omega
theorem ts_pos (v : Nat) : ∀ i, i ≤ 24 → 0 < m_wos g0 g1 N v i → 0 < pcn (m_ts g0 g1 g2 N (nI v) i)
  | 0, _, h => absurd h (Nat.lt_irrefl 0)
  | i + 1, h, hp => by
    have ht := m_th_le g0 g1 g2 N i
    rw [m_ts_s]
    rw [m_wos_s] at hp
    by_cases c : g1 (m_P g0 N i) = nI v
    · rw [if_pos c]
      exact pcn_orp (by omega)
    · rw [if_neg c]
      rw [if_neg c] at hp
      exact ts_pos v i (by omega) (by omega)
theorem ts_hi2 (s : Int32) (j : Nat) : ∀ i, (∀ w, w < i → m_th g0 g1 g2 N w < j) → (m_ts g0 g1 g2 N s i).testBit j = false
  | 0, _ => Nat.zero_testBit j
  | i + 1, h => by
    have ih := ts_hi2 s j i (fun w hw => h w (by omega))
    have := h i (by omega)
    rw [m_ts_s]
    split
    · rw [tb_or, ih]
      simp
      omega
    · exact ih
theorem ts_tn (hN : N ≤ 24) (s : Int32) : pcn (m_ts g0 g1 g2 N s (m_n g0 N)) ≤ m_tn g0 g1 g2 N := by
  have hm := m_n_le g0 N
  have ht := tn_le (N := N) (g0 := g0) (g1 := g1) (g2 := g2)
  rw [pcn_tail (a := m_tn g0 g1 g2 N) (fun j hj => ts_hi2 s j _ (fun w hw => Nat.lt_of_lt_of_le (th_lt hw) hj)) (by omega)]
  exact ct_le _ _
theorem wos_sum (hg : ∀ k, k < N → ∃ v, v < 6 ∧ g1 k = nI v) : ∀ i, i ≤ m_n g0 N → sm (fun v => m_wos g0 g1 N v i) 6 = i
  | 0, _ => sm_z 6
  | i + 1, h => by
    have ih := wos_sum hg i (by omega)
    obtain ⟨v0, hv, ev⟩ := hg _ (m_P_lt (show i < m_n g0 N by omega))
    have e : sm (fun v => m_wos g0 g1 N v (i + 1)) 6 = sm (fun v => m_wos g0 g1 N v i + (if v = v0 then 1 else 0)) 6 := sm_cg fun v hv2 => by
      show m_wos g0 g1 N v (i + 1) = _
      rw [m_wos_s, ev]
      congr 1
      by_cases c : v = v0
      · rw [if_pos c, if_pos (by rw [c])]
      · rw [if_neg c, if_neg (fun x => c ((nI_eq (by omega) (by omega)).mp x).symm)]
    rw [e, sm_add (g := fun v => m_wos g0 g1 N v i) (h := fun v => if v = v0 then 1 else 0) (fun _ => rfl), ih, sm_1, if_pos hv]
theorem ts_sum (hN : N ≤ 24) (hg : ∀ k, k < N → ∃ v, v < 6 ∧ g1 k = nI v) : ∀ i, i ≤ m_n g0 N → (if i = 0 then 0 else m_th g0 g1 g2 N (i - 1) + 1) ≤ sm (fun v => pcn (m_ts g0 g1 g2 N (nI v) i)) 6
  | 0, _ => Nat.zero_le _
  | i + 1, h => by
    have hm := m_n_le g0 N
    have ih := ts_sum hN hg i (by omega)
    have ht := m_th_le g0 g1 g2 N i
    obtain ⟨v0, hv, ev⟩ := hg _ (m_P_lt (show i < m_n g0 N by omega))
    rw [if_neg (by omega), Nat.add_sub_cancel]
    have mono : sm (fun v => pcn (m_ts g0 g1 g2 N (nI v) i)) 6 ≤ sm (fun v => pcn (m_ts g0 g1 g2 N (nI v) (i + 1))) 6 := sm_le fun v _ => by
      show pcn (m_ts g0 g1 g2 N (nI v) i) ≤ pcn (m_ts g0 g1 g2 N (nI v) (i + 1))
      rw [m_ts_s]
      split
      · exact (pcn_le1 (by omega)).2
      · exact Nat.le_refl _
    have grow : (∀ w, w < i → m_th g0 g1 g2 N w < m_th g0 g1 g2 N i) → sm (fun v => pcn (m_ts g0 g1 g2 N (nI v) i)) 6 + 1 ≤ sm (fun v => pcn (m_ts g0 g1 g2 N (nI v) (i + 1))) 6 := fun hnew => by
      have e : sm (fun v => pcn (m_ts g0 g1 g2 N (nI v) (i + 1))) 6 = sm (fun v => pcn (m_ts g0 g1 g2 N (nI v) i) + (if v = v0 then 1 else 0)) 6 := sm_cg fun v hv2 => by
        show pcn (m_ts g0 g1 g2 N (nI v) (i + 1)) = _
        rw [m_ts_s, ev]
        by_cases c : v = v0
        · rw [if_pos (by rw [c]), if_pos c, pcn_or (by omega) (ts_hi2 _ _ i hnew)]
        · rw [if_neg (fun x => c ((nI_eq (by omega) (by omega)).mp x).symm), if_neg c, Nat.add_zero]
      rw [e, sm_add (g := fun v => pcn (m_ts g0 g1 g2 N (nI v) i)) (h := fun v => if v = v0 then 1 else 0) (fun _ => rfl), sm_1, if_pos hv]
      exact Nat.le_refl _
    by_cases z : i = 0
    · subst z
      have := grow (fun w hw => absurd hw (Nat.not_lt_zero w))
      have h0 : m_th g0 g1 g2 N 0 = 0 := rfl
      omega
    · rw [if_neg z] at ih
      have e : m_th g0 g1 g2 N i = m_th g0 g1 g2 N (i - 1) + (if m_br g0 g1 g2 N (i - 1) = true then 1 else 0) := by
        have := ct_s (m_br g0 g1 g2 N) (i - 1)
        rw [show i - 1 + 1 = i by omega] at this
        exact this
      by_cases c : m_br g0 g1 g2 N (i - 1) = true
      · rw [if_pos c] at e
        have := grow (fun w hw => by
          have := m_th_mono (N := N) (g0 := g0) (g1 := g1) (g2 := g2) (show w ≤ i - 1 by omega)
          omega)
        omega
      · rw [if_neg c] at e
        omega
theorem ts_all (hN : N ≤ 24) (hg : ∀ k, k < N → ∃ v, v < 6 ∧ g1 k = nI v) : m_tn g0 g1 g2 N ≤ sm (fun v => pcn (m_ts g0 g1 g2 N (nI v) (m_n g0 N))) 6 := by
  have h := ts_sum (g0 := g0) (g2 := g2) hN hg (m_n g0 N) (Nat.le_refl _)
  unfold m_tn m_ab
  unfold m_th at h
  split
  · exact Nat.zero_le _
  · rename_i c
    rw [if_neg c] at h
    exact h
/-- the most words of a thread, among the first k -/
def z_mo (g0 g1 g2 : Nat → Int32) (N k : Nat) : Nat := if k = 0 then 0 else m_ln g0 g1 g2 N (m_lg g0 g1 g2 N k)
theorem mo_s (hN : N ≤ 24) {k : Nat} (hk : k < 24) : (if nI (z_mo g0 g1 g2 N k) < nI (m_ln g0 g1 g2 N (nI k)) then nI (m_ln g0 g1 g2 N (nI k)) else nI (z_mo g0 g1 g2 N k)) = nI (z_mo g0 g1 g2 N (k + 1)) := by
  have hm := m_n_le g0 N
  have hs : m_lg g0 g1 g2 N (k + 1) = if m_lg g0 g1 g2 N k = -1 then nI k else if nI (m_ln g0 g1 g2 N (m_lg g0 g1 g2 N k)) < nI (m_ln g0 g1 g2 N (nI k)) then nI k else m_lg g0 g1 g2 N k := rfl
  unfold z_mo
  rw [if_neg (show ¬ k + 1 = 0 by omega)]
  by_cases z : k = 0
  · subst z
    have h0 : m_lg g0 g1 g2 N (0 + 1) = nI 0 := rfl
    rw [h0, if_pos rfl]
    have hl := ln_le (N := N) (g0 := g0) (g1 := g1) (g2 := g2) (nI 0)
    by_cases c : nI 0 < nI (m_ln g0 g1 g2 N (nI 0))
    · rw [if_pos c]
    · rw [if_neg c]
      have : ¬ 0 < m_ln g0 g1 g2 N (nI 0) := fun q => c (nI_lt q (by omega))
      rw [show m_ln g0 g1 g2 N (nI 0) = 0 by omega]
  · obtain ⟨j, hj, e⟩ := m_lg_b g0 g1 g2 N k (by omega) (by omega)
    rw [if_neg z, hs, e, if_neg (nI_m1n j (by omega))]
    split <;> rfl
theorem mx_gap {n : Nat} (hn : n ≤ 24) : (if (0 : Int32) < nI n - 1 then nI n - 1 else 0) = nI (n - 1) := by
  by_cases z : n = 0
  · subst z; decide
  · rw [nI_m1 (by omega)]
    by_cases c : (0 : Int32) < nI (n - 1)
    · rw [if_pos c]
    · rw [if_neg c]
      have : ¬ 0 < n - 1 := fun q => c (nI_lt (a := 0) q (by omega))
      rw [show n - 1 = 0 by omega]
      rfl
/-! a remark behind all others changes none of the gaps ahead of it -/
variable {v a b : Int32}
theorem ad_wd {k : Nat} (h : k < N) : m_wd (upd g0 N v) k = m_wd g0 k := by unfold m_wd; rw [upd_n (by omega)]
theorem ad_ct {i : Nat} (h : i ≤ N) : ct (m_wd (upd g0 N v)) i = ct (m_wd g0) i := ct_cong fun k hk => ad_wd (by omega)
theorem ad_n : m_n (upd g0 N v) (N + 1) = m_n g0 N + if 0 ≤ v then 1 else 0 := by
  unfold m_n
  rw [ct_s, ad_ct (Nat.le_refl N)]
  unfold m_wd
  rw [upd_e]
  by_cases c : 0 ≤ v
  · rw [if_pos c, if_pos (decide_eq_true c)]
  · rw [if_neg c, if_neg (fun x => c (of_decide_eq_true x))]
theorem ad_P {k : Nat} (h : k < m_n g0 N) : m_P (upd g0 N v) (N + 1) k = m_P g0 N k := by
  have h1 := m_P_lt h
  have h2 : ct (m_wd (upd g0 N v)) (m_P g0 N k) = k := by rw [ad_ct (by omega), m_P_ct h]
  have h3 := plr_ct (m_wd (upd g0 N v)) (N + 1) (m_P g0 N k) (by omega) (by rw [ad_wd h1]; exact m_P_wd h)
  rw [h2] at h3
  exact h3
theorem ad_st {k : Nat} (h : k + 1 < m_n g0 N) : m_st (upd g0 N v) (N + 1) k = m_st g0 N k := by
  have h1 := m_P_lt (show k < m_n g0 N by omega)
  have h2 := m_P_lt h
  unfold m_st m_cg
  rw [ad_P (by omega), ad_P h, upd_n (by omega), upd_n (by omega)]
theorem ad_br {k : Nat} (h : k + 1 < m_n g0 N) : m_br (upd g0 N v) (upd g1 N a) (upd g2 N b) (N + 1) k = m_br g0 g1 g2 N k := by
  have h1 := m_P_lt (show k < m_n g0 N by omega)
  have h2 := m_P_lt h
  unfold m_br m_ti m_sm
  rw [ad_st h, ad_P (by omega), ad_P h, upd_n (by omega), upd_n (by omega), upd_n (by omega)]
end LM
section ZZ
variable {p : Program} {l : Launch} {e : Env} {R : Room} {s : State} {m : MethodId} {args : Array Value} {below : List Frame} {meth : Method} {c : Code} {H : Heap} {locs : List Loc} {cells slots : Nat} {Q : State → Prop}
variable {cc : ByteArray} {pc : Nat} {ls : Array Slot} {rest : List Value} {D : va_G} {A : Nat → Prop} {H0 : Heap} {tys : List (ClassId × FieldType)} {cZ : ClassId} {n : Nat} {f : Nat → Int32} {a : Nat}
theorem z_zald (hexec : p.tables.exec = Jvm.exec) (hb : c.code = cc) (hK : va_K D vwCl tys s) (t0 : Nat) (ht : tys[t0]? = some (cZ, .boolean)) (ha : aI cZ n f a H) (j : Nat) {i : Int32} (hi : i = nI j) (hj : j < n) (hn : n < 2 ^ 31) (hdg : decode cc pc = .ok (.baload, 1))
    (kk : W p l e R s m args below meth c H locs cells slots Q (F0 m (pc + 1) ls (.int (f j) :: rest))) : W p l e R s m args below meth c H locs cells slots Q (F0 m pc ls (.int i :: .ref a :: rest)) := by
  subst hi
  refine va_zald hexec hb hK (z_one (D := D) (q := (a, .inl (cZ, n, .inl f))) ha) 0 t0 rfl ht (vp_in_nI hj hn) hdg ?_
  rw [nI_clamp (by omega)]
  exact kk
theorem z_zast (hexec : p.tables.exec = Jvm.exec) (hb : c.code = cc) (hK : va_K D vwCl tys s) (t0 : Nat) (ht : tys[t0]? = some (cZ, .boolean)) (ha : aI cZ n f a H) (hS : va_S A H0 H locs) (hA : A a) (j : Nat) {i : Int32} (x : Bool) (hi : i = nI j) (hj : j < n) (hn : n < 2 ^ 31) (hdg : decode cc pc = .ok (.bastore, 1))
    (kk : ∀ (H1 : Heap) (locs1 : List Loc), aI cZ n (upd f j (bI x)) a H1 → H1.size = H.size → (∀ q : Nat, q ≠ a → H1[q]? = H[q]?) → va_S A H0 H1 locs1 → W p l e R s m args below meth c H1 locs1 cells slots Q (F0 m (pc + 1) ls rest)) : W p l e R s m args below meth c H locs cells slots Q (F0 m pc ls (.int (bI x) :: .int i :: .ref a :: rest)) := by
  subst hi
  refine W.zast hexec hb ha ((hK.2 t0 _ ht).1 n (fun j => .int (f j))) (fun q => by cases q) (by show ¬ (nI j < 0 ∨ (arrV _ _ _).slots.size ≤ _); rw [arrV_size]; exact vp_in_nI hj hn) rfl rfl hdg fun H1 e z oq => ?_
  refine kk H1 _ (e.trans ?_) z oq (hS.put z oq hA)
  have hx : narrow .boolean (.int (bI x)) = .int (bI x) := by cases x <;> rfl
  have h9 := z_ud (f := f) (x := bI x) (j := j) (by omega) cZ n
  first
    | (rw [hx]; exact congrArg some h9)
    | (cases x <;> exact congrArg some h9)
theorem z_newz (hexec : p.tables.exec = Jvm.exec) (hb : c.code = cc) (harr : (Cond.arrayClass .boolean).before args s = true) (hK : va_K D vwCl tys s) (t0 : Nat) (ht : tys[t0]? = some (cZ, .boolean)) (hS : va_S A H0 H locs) {i : Int32} (hi : i = nI n) (hn : n ≤ 1000) (hcells : cells + 1 ≤ R.cells) (hslots : slots + n ≤ R.slots) (hdg : decode cc pc = .ok (.newarray .boolean, 2))
    (kk : ∀ (q : Nat) (H1 : Heap), q = H.size → aI cZ n (fun _ => 0) q H1 → q_same H H1 → va_S A H0 H1 locs → W p l e R s m args below meth c H1 locs (cells + 1) (slots + n) Q (F0 m (pc + 2) ls (.ref q :: rest))) : W p l e R s m args below meth c H locs cells slots Q (F0 m pc ls (.int i :: rest)) := by
  subst hi
  refine va_newaK (atype := .boolean) hexec hb harr rfl hdg rfl (nI_pos (by omega)) (nI_clamp (by omega)) (by show n * 1 ≤ _; omega) hcells hslots rfl fun H1 cB e1 z1 o1 hAr hNm => ?_
  have e9 : cB = cZ := Option.some.inj (hNm.symm.trans ((hK.2 t0 _ ht).2 : s.vm.findClass ("[" ++ FieldType.boolean.toString) = some cZ))
  subst e9
  exact kk H.size H1 rfl e1 ⟨by omega, o1⟩ ⟨by have := hS.1; omega, fun q h1 h2 => (o1 q (by have := hS.1; omega)).trans (hS.2.1 q h1 h2), hS.2.2⟩
end ZZ
