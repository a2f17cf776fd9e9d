/-- the last place below n that is marked, with k marked ones ahead of it -/
def plr (p : Nat → Bool) : Nat → Nat → Nat
  | 0, _ => 0
  | n + 1, k => if p n = true ∧ ct p n = k then n else plr p n k
theorem ct_mono (p : Nat → Bool) {i j : Nat} (h : i ≤ j) : ct p i ≤ ct p j := by
  induction j with
  | zero => rw [Nat.le_zero.mp h]; exact Nat.le_refl _
  | succ j ih =>
    rcases Nat.lt_or_ge i (j + 1) with q | q
    · have := ih (by omega); rw [ct_s]; split <;> omega
    · rw [show i = j + 1 by omega]; exact Nat.le_refl _
theorem plr_spec (p : Nat → Bool) : ∀ (n k : Nat), k < ct p n → plr p n k < n ∧ p (plr p n k) = true ∧ ct p (plr p n k) = k
  | 0, k, h => absurd h (Nat.not_lt_zero k)
  | n + 1, k, h => by
    unfold plr
    by_cases c : p n = true ∧ ct p n = k
    · rw [if_pos c]; exact ⟨Nat.lt_succ_self n, c.1, c.2⟩
    · rw [if_neg c]
      have h2 : k < ct p n := by
        rw [ct_s] at h
        by_cases e : p n = true
        · rw [if_pos e] at h
          have h3 : ¬ ct p n = k := fun q => c ⟨e, q⟩
          omega
        · rw [if_neg e] at h; omega
      obtain ⟨a, b, d⟩ := plr_spec p n k h2
      exact ⟨by omega, b, d⟩
theorem plr_ct (p : Nat → Bool) : ∀ (n i : Nat), i < n → p i = true → plr p n (ct p i) = i
  | 0, i, h, _ => absurd h (Nat.not_lt_zero i)
  | n + 1, i, h, hi => by
    unfold plr
    by_cases e : i = n
    · subst e; rw [if_pos ⟨hi, rfl⟩]
    · have hl : i < n := by omega
      have h2 := ct_mono p (show i + 1 ≤ n by omega)
      rw [ct_t hi] at h2
      rw [if_neg (fun q => by omega)]
      exact plr_ct p n i hl hi
def m_wd (g0 : Nat → Int32) (p : Nat) : Bool := decide (0 ≤ g0 p)
def m_n (g0 : Nat → Int32) (N : Nat) : Nat := ct (m_wd g0) N
def m_P (g0 : Nat → Int32) (N k : Nat) : Nat := plr (m_wd g0) N k
theorem m_n_le (g0 : Nat → Int32) (N : Nat) : m_n g0 N ≤ N := ct_le _ N
theorem m_P_lt {g0 : Nat → Int32} {N k : Nat} (h : k < m_n g0 N) : m_P g0 N k < N := (plr_spec _ _ _ h).1
theorem m_P_wd {g0 : Nat → Int32} {N k : Nat} (h : k < m_n g0 N) : m_wd g0 (m_P g0 N k) = true := (plr_spec _ _ _ h).2.1
theorem m_P_ct {g0 : Nat → Int32} {N k : Nat} (h : k < m_n g0 N) : ct (m_wd g0) (m_P g0 N k) = k := (plr_spec _ _ _ h).2.2
theorem m_P_up {g0 : Nat → Int32} {N j k : Nat} (hj : j < k) (h : k < m_n g0 N) : m_P g0 N j < m_P g0 N k := by
  rcases Nat.lt_or_ge (m_P g0 N j) (m_P g0 N k) with q | q
  · exact q
  · have h2 := ct_mono (m_wd g0) q
    rw [m_P_ct h, m_P_ct (by omega)] at h2
    omega
def m_in (v a b : Int32) : Bool := !decide (v < a) && !decide (b < v)
def m_cN (g0 : Nat → Int32) (N g : Nat) : Nat := m_P g0 N (g + 1) - m_P g0 N g - 1
def m_cg (g0 : Nat → Int32) (N g : Nat) : Int32 := nI (m_P g0 N (g + 1)) - nI (m_P g0 N g) - 1
theorem m_cg_N {g0 : Nat → Int32} {N g : Nat} (h : g + 1 < m_n g0 N) : m_cg g0 N g = nI (m_cN g0 N g) := by
  have h1 := m_P_up (show g < g + 1 by omega) h
  unfold m_cg m_cN
  obtain ⟨d, hd⟩ : ∃ d, m_P g0 N (g + 1) = m_P g0 N g + (d + 1) := ⟨m_P g0 N (g + 1) - m_P g0 N g - 1, by omega⟩
  rw [hd, pk_sub (by omega), show m_P g0 N g + (d + 1) - m_P g0 N g = d + 1 by omega, nI_pred]
  rfl
def m_st (g0 : Nat → Int32) (N g : Nat) : Int32 := x_ds (g0 (m_P g0 N g)) (g0 (m_P g0 N (g + 1))) + m_cg g0 N g
def m_sm (g0 g1 : Nat → Int32) (N g : Nat) : Bool := decide (g1 (m_P g0 N g) = g1 (m_P g0 N (g + 1)))
def m_po (x : Int32) (b : Bool) : Bool := decide (x ≤ 2) || (b && decide (x ≤ 4))
def m_ti (g0 g2 : Nat → Int32) (N g : Nat) : Bool := !decide (g2 (m_P g0 N g) = 0)
def m_so (g0 g2 : Nat → Int32) (N g : Nat) : Bool := m_ti g0 g2 N g || decide (m_st g0 N g ≤ 1)
def m_br (g0 g1 g2 : Nat → Int32) (N g : Nat) : Bool := !m_ti g0 g2 N g && !m_po (m_st g0 N g) (m_sm g0 g1 N g)
def m_ab (g0 g1 g2 : Nat → Int32) (N : Nat) : Nat := ct (m_br g0 g1 g2 N) (m_n g0 N - 1)
def m_ap (g0 g1 g2 : Nat → Int32) (N : Nat) : Nat := ct (fun g => !m_br g0 g1 g2 N g && !m_so g0 g2 N g) (m_n g0 N - 1)
def m_tn (g0 g1 g2 : Nat → Int32) (N : Nat) : Nat := if m_n g0 N = 0 then 0 else m_ab g0 g1 g2 N + 1
def m_th (g0 g1 g2 : Nat → Int32) (N k : Nat) : Nat := ct (m_br g0 g1 g2 N) k
def m_ln (g0 g1 g2 : Nat → Int32) (N : Nat) (t : Int32) : Nat := ct (fun w => decide (nI (m_th g0 g1 g2 N w) = t)) (m_n g0 N)
def m_lg (g0 g1 g2 : Nat → Int32) (N : Nat) : Nat → Int32
  | 0 => -1
  | t + 1 => if m_lg g0 g1 g2 N t = -1 then nI t else if nI (m_ln g0 g1 g2 N (m_lg g0 g1 g2 N t)) < nI (m_ln g0 g1 g2 N (nI t)) then nI t else m_lg g0 g1 g2 N t
/-- the rest of a division -/
def m_rm (x y : Int32) : Int32 := x - x / y * y
def m_half (a b : Int32) : Int32 := m_rm (a + (if 5 < m_rm (b - a + 10) 10 then 10 - x_ds a b / 2 else x_ds a b / 2)) 10
def m_mc (s : Int32) (b : Bool) : Nat → Int32
  | 0 => 3
  | k + 1 => if m_po (s - nI (k + 1)) b = true then i_min (m_mc s b k) (nI (k + 1)) else m_mc s b k
def m_md (g0 g1 g2 : Nat → Int32) (N g : Nat) : Int32 := if m_br g0 g1 g2 N g = true then m_mc (m_st g0 N g) (m_sm g0 g1 N g) (m_cN g0 N g) else 0
def m_ma (g0 g1 g2 : Nat → Int32) (N : Nat) : Nat → Int32 := fo (fun g a => a + m_md g0 g1 g2 N g) 0
def m_is (g0 g1 : Nat → Int32) (N g : Nat) : Bool := !m_po (x_ds (m_half (g0 (m_P g0 N g)) (g0 (m_P g0 N (g + 1)))) (g0 (m_P g0 N (g + 1))) + m_cg g0 N g) (m_sm g0 g1 N g)
def m_sp (g0 g1 g2 : Nat → Int32) (N g : Nat) : Int32 := nI (m_ab g0 g1 g2 N) - bI (m_br g0 g1 g2 N g) + bI (m_is g0 g1 N g)
def m_bs (g0 g1 g2 : Nat → Int32) (N : Nat) : Nat → Int32 × Int32 := fo (fun g a => if m_ti g0 g2 N g = false ∧ m_sp g0 g1 g2 N g < a.2 then (nI g, m_sp g0 g1 g2 N g) else a) (-1, nI (m_ab g0 g1 g2 N))
theorem m_bs_s (g0 g1 g2 : Nat → Int32) (N g : Nat) : m_bs g0 g1 g2 N (g + 1) = if m_ti g0 g2 N g = false ∧ m_sp g0 g1 g2 N g < (m_bs g0 g1 g2 N g).2 then (nI g, m_sp g0 g1 g2 N g) else m_bs g0 g1 g2 N g := rfl
theorem m_ti_1 {g0 g2 : Nat → Int32} {N g : Nat} (h : ¬ g2 (m_P g0 N g) = 0) : m_ti g0 g2 N g = true := by unfold m_ti; rw [decide_eq_false h]; rfl
theorem m_ti_0 {g0 g2 : Nat → Int32} {N g : Nat} (h : g2 (m_P g0 N g) = 0) : m_ti g0 g2 N g = false := by unfold m_ti; rw [decide_eq_true h]; rfl
theorem m_n_1 (g0 : Nat → Int32) (N : Nat) (h : 0 < m_n g0 N) : nI (m_n g0 N) - 1 = nI (m_n g0 N - 1) := by
  obtain ⟨k, hk⟩ : ∃ k, m_n g0 N = k + 1 := ⟨m_n g0 N - 1, by omega⟩
  rw [hk]; exact nI_pred k
/-- the test 'g < many - 1' of a loop over the gaps -/
theorem m_gt {n g : Nat} (hn : n ≤ 24) (hg : g ≤ n - 1) (h : nI n - 1 ≤ nI g) : g = n - 1 := by
  cases n with
  | zero => omega
  | succ k => rw [nI_pred] at h; exact nI_ge' (by omega) (by omega) h
theorem m_gf {n g : Nat} (hn : n ≤ 24) (hg : g ≤ n - 1) (h : ¬ nI n - 1 ≤ nI g) : g + 1 < n := by
  cases n with
  | zero =>
    refine absurd ?_ h
    obtain rfl : g = 0 := by omega
    decide
  | succ k => rw [nI_pred] at h; have := nI_lt' (N := k) (by omega) (by omega) h; omega
theorem bI_ct (p : Nat → Bool) (i : Nat) : nI (ct p i) + bI (p i) = nI (ct p (i + 1)) := by
  rw [ct_s]
  cases p i
  · show nI (ct p i) + 0 = nI (ct p i + 0); rw [Int32.add_zero]; rfl
  · exact nI_1 _
theorem m_pl_w {g0 : Nat → Int32} {i : Nat} : m_wd g0 i = true ↔ ¬ g0 i < 0 := by
  unfold m_wd
  rw [decide_eq_true_iff, Int32.not_lt]
theorem m_pl_lt {g0 : Nat → Int32} {N k i : Nat} (hk : k < m_n g0 N) (hi : i < m_P g0 N k) : ct (m_wd g0) (i + 1) ≤ k := by
  have h := ct_mono (m_wd g0) (show i + 1 ≤ m_P g0 N k by omega)
  rw [m_P_ct hk] at h
  exact h
theorem m_pl_e {g0 : Nat → Int32} {N k i : Nat} (hN : N ≤ 24) (hk : k < m_n g0 N) (hi : i ≤ m_P g0 N k) (h1 : ¬ g0 i < 0) (h2 : nI (k - ct (m_wd g0) i) ≤ 0) : i = m_P g0 N k := by
  rcases Nat.lt_or_ge i (m_P g0 N k) with q | q
  · have h3 := m_pl_lt hk q
    rw [ct_t (m_pl_w.mpr h1)] at h3
    have h4 := m_n_le g0 N
    exact absurd h2 (nI_nle (by omega) (by omega))
  · omega
theorem m_pl_l {g0 : Nat → Int32} {N k i : Nat} (hN : N ≤ 24) (hk : k < m_n g0 N) (hi : i ≤ m_P g0 N k) (h : g0 i < 0 ∨ ¬ nI (k - ct (m_wd g0) i) ≤ 0) : i < m_P g0 N k := by
  rcases Nat.lt_or_ge i (m_P g0 N k) with q | q
  · exact q
  · obtain rfl : i = m_P g0 N k := by omega
    rcases h with h | h
    · exact absurd h (m_pl_w.mp (m_P_wd hk))
    · rw [m_P_ct hk, Nat.sub_self] at h
      exact absurd (by decide) h
theorem m_pl_b {g0 : Nat → Int32} {N k i : Nat} (hk : k < m_n g0 N) (hi : i < m_P g0 N k) : nI (k - ct (m_wd g0) i) - bI (decide (0 ≤ g0 i)) = nI (k - ct (m_wd g0) (i + 1)) := by
  have h3 := m_pl_lt hk hi
  by_cases h : m_wd g0 i = true
  · rw [ct_t h] at h3 ⊢
    unfold m_wd at h
    rw [h]
    show nI (k - ct (m_wd g0) i) - nI 1 = _
    rw [pk_sub (by omega), Nat.sub_sub]
  · rw [ct_f h] at h3 ⊢
    unfold m_wd at h
    rw [Bool.not_eq_true] at h
    rw [h]
    show nI (k - ct (m_wd g0) i) - nI 0 = _
    rw [pk_sub (by omega)]
    rfl
theorem nI_z {a : Nat} (h : a < 2 ^ 31) (e : nI a = 0) : a = 0 := by
  rcases Nat.eq_zero_or_pos a with q | q
  · exact q
  · exact absurd e (nI_ne0 q h)
theorem m_tn_le (g0 g1 g2 : Nat → Int32) (N : Nat) : m_tn g0 g1 g2 N ≤ N := by
  have h := m_n_le g0 N
  have h2 : m_ab g0 g1 g2 N ≤ m_n g0 N - 1 := ct_le _ _
  unfold m_tn
  split <;> omega
theorem m_cN_le {g0 : Nat → Int32} {N g : Nat} (hg : g + 1 < m_n g0 N) : m_cN g0 N g < N := by
  have h := m_P_lt hg
  unfold m_cN
  omega
theorem m_k1 {i c : Nat} (hi : i ≤ c) (hc : c ≤ 24) (h : nI c < nI (i + 1)) : i = c := by
  rcases Nat.lt_or_ge i c with q | q
  · exact absurd h (nI_nlt (by omega) (by omega))
  · omega
theorem m_k2 {i c : Nat} (hi : i ≤ c) (hc : c ≤ 24) (h : ¬ nI c < nI (i + 1)) : i < c := by
  rcases Nat.lt_or_ge i c with q | q
  · exact q
  · exact absurd (nI_lt (by omega) (by omega)) h
/-! own rows, written by wip/whole/mpub2.py: the reference's bits, masks and means -/
def pcn (v : Nat) : Nat := ct (fun j => v.testBit j) 31
theorem ct_cong {p q : Nat → Bool} : ∀ {n : Nat}, (∀ k, k < n → p k = q k) → ct p n = ct q n
  | 0, _ => rfl
  | n + 1, h => by rw [ct_s, ct_s, ct_cong (fun k hk => h k (by omega)), h n (by omega)]
theorem ct_shift (p : Nat → Bool) : ∀ n, ct p (n + 1) = (if p 0 = true then 1 else 0) + ct (fun j => p (j + 1)) n
  | 0 => by rw [ct_s]; show 0 + _ = _ + 0; omega
  | n + 1 => by rw [ct_s, ct_shift p n, ct_s]; omega
theorem pcn_0 : pcn 0 = 0 := by decide +kernel
theorem pcn_s {v : Nat} (h : v < 2 ^ 31) : pcn v = v % 2 + pcn (v / 2) := by
  unfold pcn
  rw [ct_shift (fun j => v.testBit j) 30, ct_s (fun j => (v / 2).testBit j) 30]
  have e : ∀ j, v.testBit (j + 1) = (v / 2).testBit j := fun j => Nat.testBit_succ v j
  have h30 : (v / 2).testBit 30 = false := Nat.testBit_lt_two_pow (by omega)
  rw [h30, if_neg Bool.false_ne_true, Nat.add_zero, ct_cong (fun k _ => e k)]
  congr 1
  rw [Nat.testBit_zero]
  have := Nat.mod_two_eq_zero_or_one v
  rcases this with q | q <;> simp [q]
theorem fa_or (a b : Nat) : nI a ||| nI b = nI (a ||| b) := by
  apply Int32.toBitVec_inj.1
  show BitVec.ofNat 32 a ||| BitVec.ofNat 32 b = BitVec.ofNat 32 (a ||| b)
  apply BitVec.eq_of_getLsbD_eq
  intro i hi
  simp [hi]
theorem s_l : ∀ n, n < 32 → ((nI n &&& 31).toBitVec.smod 32).toNat = n := by decide +kernel
theorem k_or1 {a k : Nat} (hk : k < 31) : nI a ||| ((1 : Int32) <<< (nI k &&& 31)) = nI (a ||| 2 ^ k) := by
  have h1 : (2 : Nat) ^ k < 2 ^ 31 := Nat.pow_lt_pow_right (by decide) hk
  have h := pk_shlN (n := 1) (nI k &&& 31) k (s_l k (by omega)) (by rw [Nat.one_mul]; omega)
  rw [Nat.one_mul] at h
  rw [show (1 : Int32) = nI 1 from rfl, h, fa_or]
theorem k_b1 {v : Nat} (h : v < 2 ^ 31) : nI v - nI v / 2 * 2 = nI (v % 2) := pk_rem (d := 2) h (by decide) (by decide)
theorem k_b2 {v : Nat} (h : v < 2 ^ 31) : nI v / 2 = nI (v / 2) := pk_div (d := 2) h (by decide) (by decide)
theorem k_b0 {v : Nat} (h : v < 2 ^ 31) (e : nI v ≤ 0) : v = 0 := by
  rcases Nat.eq_zero_or_pos v with q | q
  · exact q
  · exact absurd e (nI_nle q h)
def m_wo (g0 g1 : Nat → Int32) (N : Nat) (s : Int32) : Nat := ct (fun p => decide (0 ≤ g0 p) && decide (g1 p = s)) N
def m_ts (g0 g1 g2 : Nat → Int32) (N : Nat) (s : Int32) : Nat → Nat := fo (fun w a => if g1 (m_P g0 N w) = s then a ||| 2 ^ m_th g0 g1 g2 N w else a) 0
theorem m_ts_s (g0 g1 g2 : Nat → Int32) (N : Nat) (s : Int32) (w : Nat) : m_ts g0 g1 g2 N s (w + 1) = if g1 (m_P g0 N w) = s then m_ts g0 g1 g2 N s w ||| 2 ^ m_th g0 g1 g2 N w else m_ts g0 g1 g2 N s w := rfl
theorem m_th_le (g0 g1 g2 : Nat → Int32) (N k : Nat) : m_th g0 g1 g2 N k ≤ k := ct_le _ k
theorem m_ts_lt (g0 g1 g2 : Nat → Int32) (N : Nat) (s : Int32) : ∀ w, w ≤ 24 → m_ts g0 g1 g2 N s w < 2 ^ 24
  | 0, _ => by show 0 < _; decide
  | w + 1, h => by
    have ih := m_ts_lt g0 g1 g2 N s w (by omega)
    rw [m_ts_s]
    split
    · exact Nat.or_lt_two_pow ih (Nat.pow_lt_pow_right (by decide) (by have := m_th_le g0 g1 g2 N w; omega))
    · exact ih
def m_tq (g0 g1 g2 : Nat → Int32) (N : Nat) (t : Int32) : Nat → Nat := fo (fun w a => if nI (m_th g0 g1 g2 N w) = t then a ||| 2 ^ (g0 (m_P g0 N w)).toNatClampNeg else a) 0
theorem m_tq_s (g0 g1 g2 : Nat → Int32) (N : Nat) (t : Int32) (w : Nat) : m_tq g0 g1 g2 N t (w + 1) = if nI (m_th g0 g1 g2 N w) = t then m_tq g0 g1 g2 N t w ||| 2 ^ (g0 (m_P g0 N w)).toNatClampNeg else m_tq g0 g1 g2 N t w := rfl
/-- every word's topic is 0 to 9 -/
def m_hT (g0 : Nat → Int32) (N : Nat) : Prop := ∀ k : Nat, k < m_n g0 N → ∃ t : Nat, t < 10 ∧ g0 (m_P g0 N k) = nI t
theorem m_tq_lt {g0 : Nat → Int32} (g1 g2 : Nat → Int32) {N : Nat} (t : Int32) (hT : m_hT g0 N) : ∀ w, w ≤ m_n g0 N → m_tq g0 g1 g2 N t w < 2 ^ 10
  | 0, _ => by show 0 < _; decide
  | w + 1, h => by
    have ih := m_tq_lt g1 g2 t hT w (by omega)
    rw [m_tq_s]
    split
    · obtain ⟨u, hu, e⟩ := hT w (by omega)
      rw [e, nI_clamp (by omega)]
      exact Nat.or_lt_two_pow ih (Nat.pow_lt_pow_right (by decide) hu)
    · exact ih
theorem m_tq_1 {g0 : Nat → Int32} (g1 g2 : Nat → Int32) {N : Nat} (t : Int32) (hT : m_hT g0 N) {w : Nat} (hw : w < m_n g0 N) (h : nI (m_th g0 g1 g2 N w) = t) : nI (m_tq g0 g1 g2 N t w) ||| ((1 : Int32) <<< (g0 (m_P g0 N w) &&& 31)) = nI (m_tq g0 g1 g2 N t (w + 1)) := by
  obtain ⟨u, hu, e⟩ := hT w hw
  rw [m_tq_s, if_pos h, e, nI_clamp (by omega), k_or1 (by omega)]
def m_ss (g0 : Nat → Int32) (N : Nat) : Nat → Int32 := fo (fun g a => a + m_st g0 N g) 0
def m_ms (g0 : Nat → Int32) (N : Nat) : UInt64 := if m_n g0 N - 1 = 0 then FP.dconst0 else FP.ddiv (FP.i2d (m_ss g0 N (m_n g0 N - 1))) (FP.i2d (nI (m_n g0 N - 1)))
theorem m_ms_1 {n : Nat} (hn : n ≤ 24) (h : 1 ≤ nI n - 1) : ¬ n - 1 = 0 := by
  intro e
  rcases (by omega : n = 0 ∨ n = 1) with rfl | rfl
  · exact absurd h (by decide)
  · exact absurd h (by decide)
theorem m_ms_0 {n : Nat} (hn : n ≤ 24) (h : ¬ 1 ≤ nI n - 1) : n - 1 = 0 := by
  rcases Nat.lt_or_ge 1 n with q | q
  · obtain ⟨k, rfl⟩ : ∃ k, n = k + 2 := ⟨n - 2, by omega⟩
    rw [nI_pred] at h
    exact absurd (nI_le (a := 1) (by omega) (by omega)) h
  · omega
