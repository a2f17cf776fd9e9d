/-! own rows, written by wip/whole/mro.py: what the reference answers, in the words of its own code; its methods that only read -/
abbrev mw (cI cZ : ClassId) (ad : Nat → Nat) (th n pa pe : Int32) (g0 g1 g2 : Nat → Int32) : va_W :=
  [(ad 0, .inr (1, [.int th, .int n, .int pa, .int pe, .ref (ad 1), .ref (ad 2), .ref (ad 3)])), (ad 1, .inl (cI, 25, .inl g0)), (ad 2, .inl (cI, 25, .inl g1)), (ad 3, .inl (cZ, 25, .inl g2))]
/-- the last place below n that is marked, with k marked ones ahead of it -/
def plr (p : Nat → Bool) : Nat → Nat → Nat
  | 0, _ => 0
  | n + 1, k => if p n = true ∧ ct p n = k then n else plr p n k
theorem ct_mono (p : Nat → Bool) {i j : Nat} (h : i ≤ j) : ct p i ≤ ct p j := by
  induction j with
  | zero => rw [Nat.le_zero.mp h]; exact Nat.le_refl _
  | succ j ih =>
    rcases Nat.lt_or_ge i (j + 1) with q | q
    · have := ih (by omega); rw [ct_s]; split <;> omega
    · rw [show i = j + 1 by omega]; exact Nat.le_refl _
theorem plr_spec (p : Nat → Bool) : ∀ (n k : Nat), k < ct p n → plr p n k < n ∧ p (plr p n k) = true ∧ ct p (plr p n k) = k
  | 0, k, h => absurd h (Nat.not_lt_zero k)
  | n + 1, k, h => by
    unfold plr
    by_cases c : p n = true ∧ ct p n = k
    · rw [if_pos c]; exact ⟨Nat.lt_succ_self n, c.1, c.2⟩
    · rw [if_neg c]
      have h2 : k < ct p n := by
        rw [ct_s] at h
        by_cases e : p n = true
        · rw [if_pos e] at h
          have h3 : ¬ ct p n = k := fun q => c ⟨e, q⟩
          omega
        · rw [if_neg e] at h; omega
      obtain ⟨a, b, d⟩ := plr_spec p n k h2
      exact ⟨by omega, b, d⟩
theorem plr_ct (p : Nat → Bool) : ∀ (n i : Nat), i < n → p i = true → plr p n (ct p i) = i
  | 0, i, h, _ => absurd h (Nat.not_lt_zero i)
  | n + 1, i, h, hi => by
    unfold plr
    by_cases e : i = n
    · subst e; rw [if_pos ⟨hi, rfl⟩]
    · have hl : i < n := by omega
      have h2 := ct_mono p (show i + 1 ≤ n by omega)
      rw [ct_t hi] at h2
      rw [if_neg (fun q => by omega)]
      exact plr_ct p n i hl hi
def m_wd (g0 : Nat → Int32) (p : Nat) : Bool := decide (0 ≤ g0 p)
def m_n (g0 : Nat → Int32) (N : Nat) : Nat := ct (m_wd g0) N
def m_P (g0 : Nat → Int32) (N k : Nat) : Nat := plr (m_wd g0) N k
theorem m_n_le (g0 : Nat → Int32) (N : Nat) : m_n g0 N ≤ N := ct_le _ N
theorem m_P_lt {g0 : Nat → Int32} {N k : Nat} (h : k < m_n g0 N) : m_P g0 N k < N := (plr_spec _ _ _ h).1
theorem m_P_wd {g0 : Nat → Int32} {N k : Nat} (h : k < m_n g0 N) : m_wd g0 (m_P g0 N k) = true := (plr_spec _ _ _ h).2.1
theorem m_P_ct {g0 : Nat → Int32} {N k : Nat} (h : k < m_n g0 N) : ct (m_wd g0) (m_P g0 N k) = k := (plr_spec _ _ _ h).2.2
theorem m_P_up {g0 : Nat → Int32} {N j k : Nat} (hj : j < k) (h : k < m_n g0 N) : m_P g0 N j < m_P g0 N k := by
  rcases Nat.lt_or_ge (m_P g0 N j) (m_P g0 N k) with q | q
  · exact q
  · have h2 := ct_mono (m_wd g0) q
    rw [m_P_ct h, m_P_ct (by omega)] at h2
    omega
def m_in (v a b : Int32) : Bool := !decide (v < a) && !decide (b < v)
def m_cN (g0 : Nat → Int32) (N g : Nat) : Nat := m_P g0 N (g + 1) - m_P g0 N g - 1
def m_cg (g0 : Nat → Int32) (N g : Nat) : Int32 := nI (m_P g0 N (g + 1)) - nI (m_P g0 N g) - 1
theorem m_cg_N {g0 : Nat → Int32} {N g : Nat} (h : g + 1 < m_n g0 N) : m_cg g0 N g = nI (m_cN g0 N g) := by
  have h1 := m_P_up (show g < g + 1 by omega) h
  unfold m_cg m_cN
  obtain ⟨d, hd⟩ : ∃ d, m_P g0 N (g + 1) = m_P g0 N g + (d + 1) := ⟨m_P g0 N (g + 1) - m_P g0 N g - 1, by omega⟩
  rw [hd, pk_sub (by omega), show m_P g0 N g + (d + 1) - m_P g0 N g = d + 1 by omega, nI_pred]
  rfl
def m_st (g0 : Nat → Int32) (N g : Nat) : Int32 := x_ds (g0 (m_P g0 N g)) (g0 (m_P g0 N (g + 1))) + m_cg g0 N g
def m_sm (g0 g1 : Nat → Int32) (N g : Nat) : Bool := decide (g1 (m_P g0 N g) = g1 (m_P g0 N (g + 1)))
def m_po (x : Int32) (b : Bool) : Bool := decide (x ≤ 2) || (b && decide (x ≤ 4))
def m_ti (g0 g2 : Nat → Int32) (N g : Nat) : Bool := !decide (g2 (m_P g0 N g) = 0)
def m_so (g0 g2 : Nat → Int32) (N g : Nat) : Bool := m_ti g0 g2 N g || decide (m_st g0 N g ≤ 1)
def m_br (g0 g1 g2 : Nat → Int32) (N g : Nat) : Bool := !m_ti g0 g2 N g && !m_po (m_st g0 N g) (m_sm g0 g1 N g)
def m_ab (g0 g1 g2 : Nat → Int32) (N : Nat) : Nat := ct (m_br g0 g1 g2 N) (m_n g0 N - 1)
def m_ap (g0 g1 g2 : Nat → Int32) (N : Nat) : Nat := ct (fun g => !m_br g0 g1 g2 N g && !m_so g0 g2 N g) (m_n g0 N - 1)
def m_tn (g0 g1 g2 : Nat → Int32) (N : Nat) : Nat := if m_n g0 N = 0 then 0 else m_ab g0 g1 g2 N + 1
def m_th (g0 g1 g2 : Nat → Int32) (N k : Nat) : Nat := ct (m_br g0 g1 g2 N) k
def m_ln (g0 g1 g2 : Nat → Int32) (N : Nat) (t : Int32) : Nat := ct (fun w => decide (nI (m_th g0 g1 g2 N w) = t)) (m_n g0 N)
def m_lg (g0 g1 g2 : Nat → Int32) (N : Nat) : Nat → Int32
  | 0 => -1
  | t + 1 => if m_lg g0 g1 g2 N t = -1 then nI t else if nI (m_ln g0 g1 g2 N (m_lg g0 g1 g2 N t)) < nI (m_ln g0 g1 g2 N (nI t)) then nI t else m_lg g0 g1 g2 N t
/-- the rest of a division -/
def m_rm (x y : Int32) : Int32 := x - x / y * y
def m_half (a b : Int32) : Int32 := m_rm (a + (if 5 < m_rm (b - a + 10) 10 then 10 - x_ds a b / 2 else x_ds a b / 2)) 10
def m_mc (s : Int32) (b : Bool) : Nat → Int32
  | 0 => 3
  | k + 1 => if m_po (s - nI (k + 1)) b = true then i_min (m_mc s b k) (nI (k + 1)) else m_mc s b k
def m_md (g0 g1 g2 : Nat → Int32) (N g : Nat) : Int32 := if m_br g0 g1 g2 N g = true then m_mc (m_st g0 N g) (m_sm g0 g1 N g) (m_cN g0 N g) else 0
def m_ma (g0 g1 g2 : Nat → Int32) (N : Nat) : Nat → Int32 := fo (fun g a => a + m_md g0 g1 g2 N g) 0
def m_is (g0 g1 : Nat → Int32) (N g : Nat) : Bool := !m_po (x_ds (m_half (g0 (m_P g0 N g)) (g0 (m_P g0 N (g + 1)))) (g0 (m_P g0 N (g + 1))) + m_cg g0 N g) (m_sm g0 g1 N g)
def m_sp (g0 g1 g2 : Nat → Int32) (N g : Nat) : Int32 := nI (m_ab g0 g1 g2 N) - bI (m_br g0 g1 g2 N g) + bI (m_is g0 g1 N g)
def m_bs (g0 g1 g2 : Nat → Int32) (N : Nat) : Nat → Int32 × Int32 := fo (fun g a => if m_ti g0 g2 N g = false ∧ m_sp g0 g1 g2 N g < a.2 then (nI g, m_sp g0 g1 g2 N g) else a) (-1, nI (m_ab g0 g1 g2 N))
theorem m_bs_s (g0 g1 g2 : Nat → Int32) (N g : Nat) : m_bs g0 g1 g2 N (g + 1) = if m_ti g0 g2 N g = false ∧ m_sp g0 g1 g2 N g < (m_bs g0 g1 g2 N g).2 then (nI g, m_sp g0 g1 g2 N g) else m_bs g0 g1 g2 N g := rfl
theorem m_ti_1 {g0 g2 : Nat → Int32} {N g : Nat} (h : ¬ g2 (m_P g0 N g) = 0) : m_ti g0 g2 N g = true := by unfold m_ti; rw [decide_eq_false h]; rfl
theorem m_ti_0 {g0 g2 : Nat → Int32} {N g : Nat} (h : g2 (m_P g0 N g) = 0) : m_ti g0 g2 N g = false := by unfold m_ti; rw [decide_eq_true h]; rfl
theorem m_n_1 (g0 : Nat → Int32) (N : Nat) (h : 0 < m_n g0 N) : nI (m_n g0 N) - 1 = nI (m_n g0 N - 1) := by
  obtain ⟨k, hk⟩ : ∃ k, m_n g0 N = k + 1 := ⟨m_n g0 N - 1, by omega⟩
  rw [hk]; exact nI_pred k
/-- the test 'g < many - 1' of a loop over the gaps -/
theorem m_gt {n g : Nat} (hn : n ≤ 24) (hg : g ≤ n - 1) (h : nI n - 1 ≤ nI g) : g = n - 1 := by
  cases n with
  | zero => omega
  | succ k => rw [nI_pred] at h; exact nI_ge' (by omega) (by omega) h
theorem m_gf {n g : Nat} (hn : n ≤ 24) (hg : g ≤ n - 1) (h : ¬ nI n - 1 ≤ nI g) : g + 1 < n := by
  cases n with
  | zero =>
    refine absurd ?_ h
    obtain rfl : g = 0 := by omega
    decide
  | succ k => rw [nI_pred] at h; have := nI_lt' (N := k) (by omega) (by omega) h; omega
theorem bI_ct (p : Nat → Bool) (i : Nat) : nI (ct p i) + bI (p i) = nI (ct p (i + 1)) := by
  rw [ct_s]
  cases p i
  · show nI (ct p i) + 0 = nI (ct p i + 0); rw [Int32.add_zero]; rfl
  · exact nI_1 _
theorem m_pl_w {g0 : Nat → Int32} {i : Nat} : m_wd g0 i = true ↔ ¬ g0 i < 0 := by
  unfold m_wd
  rw [decide_eq_true_iff, Int32.not_lt]
theorem m_pl_lt {g0 : Nat → Int32} {N k i : Nat} (hk : k < m_n g0 N) (hi : i < m_P g0 N k) : ct (m_wd g0) (i + 1) ≤ k := by
  have h := ct_mono (m_wd g0) (show i + 1 ≤ m_P g0 N k by omega)
  rw [m_P_ct hk] at h
  exact h
theorem m_pl_e {g0 : Nat → Int32} {N k i : Nat} (hN : N ≤ 24) (hk : k < m_n g0 N) (hi : i ≤ m_P g0 N k) (h1 : ¬ g0 i < 0) (h2 : nI (k - ct (m_wd g0) i) ≤ 0) : i = m_P g0 N k := by
  rcases Nat.lt_or_ge i (m_P g0 N k) with q | q
  · have h3 := m_pl_lt hk q
    rw [ct_t (m_pl_w.mpr h1)] at h3
    have h4 := m_n_le g0 N
    exact absurd h2 (nI_nle (by omega) (by omega))
  · omega
theorem m_pl_l {g0 : Nat → Int32} {N k i : Nat} (hN : N ≤ 24) (hk : k < m_n g0 N) (hi : i ≤ m_P g0 N k) (h : g0 i < 0 ∨ ¬ nI (k - ct (m_wd g0) i) ≤ 0) : i < m_P g0 N k := by
  rcases Nat.lt_or_ge i (m_P g0 N k) with q | q
  · exact q
  · obtain rfl : i = m_P g0 N k := by omega
    rcases h with h | h
    · exact absurd h (m_pl_w.mp (m_P_wd hk))
    · rw [m_P_ct hk, Nat.sub_self] at h
      exact absurd (by decide) h
theorem m_pl_b {g0 : Nat → Int32} {N k i : Nat} (hk : k < m_n g0 N) (hi : i < m_P g0 N k) : nI (k - ct (m_wd g0) i) - bI (decide (0 ≤ g0 i)) = nI (k - ct (m_wd g0) (i + 1)) := by
  have h3 := m_pl_lt hk hi
  by_cases h : m_wd g0 i = true
  · rw [ct_t h] at h3 ⊢
    unfold m_wd at h
    rw [h]
    show nI (k - ct (m_wd g0) i) - nI 1 = _
    rw [pk_sub (by omega), Nat.sub_sub]
  · rw [ct_f h] at h3 ⊢
    unfold m_wd at h
    rw [Bool.not_eq_true] at h
    rw [h]
    show nI (k - ct (m_wd g0) i) - nI 0 = _
    rw [pk_sub (by omega)]
    rfl
theorem nI_z {a : Nat} (h : a < 2 ^ 31) (e : nI a = 0) : a = 0 := by
  rcases Nat.eq_zero_or_pos a with q | q
  · exact q
  · exact absurd e (nI_ne0 q h)
theorem m_tn_le (g0 g1 g2 : Nat → Int32) (N : Nat) : m_tn g0 g1 g2 N ≤ N := by
  have h := m_n_le g0 N
  have h2 : m_ab g0 g1 g2 N ≤ m_n g0 N - 1 := ct_le _ _
  unfold m_tn
  split <;> omega
theorem m_cN_le {g0 : Nat → Int32} {N g : Nat} (hg : g + 1 < m_n g0 N) : m_cN g0 N g < N := by
  have h := m_P_lt hg
  unfold m_cN
  omega
theorem m_k1 {i c : Nat} (hi : i ≤ c) (hc : c ≤ 24) (h : nI c < nI (i + 1)) : i = c := by
  rcases Nat.lt_or_ge i c with q | q
  · exact absurd h (nI_nlt (by omega) (by omega))
  · omega
theorem m_k2 {i c : Nat} (hi : i ≤ c) (hc : c ≤ 24) (h : ¬ nI c < nI (i + 1)) : i < c := by
  rcases Nat.lt_or_ge i c with q | q
  · exact q
  · exact absurd (nI_lt (by omega) (by omega)) h
theorem kv_X1_isIn : yX1_isIn.cls = RX1 ∧ yX1_isIn.cls ≠ "java/lang/invoke/MethodHandle" ∧ yX1_isIn.cls ≠ "java/lang/invoke/VarHandle" ∧ (parseMethodDescriptor yX1_isIn.desc).map (fun d => d.parameters.length) = some 3 := by decide +kernel
theorem ks_X1_isIn : yX1_isIn.cls ≠ "java/lang/invoke/MethodHandle" ∧ yX1_isIn.cls ≠ "java/lang/invoke/VarHandle" ∧ (parseMethodDescriptor yX1_isIn.desc).map (fun d => d.parameters.length) = some 3 := kv_X1_isIn.2
set_option maxHeartbeats 4000000 in
set_option maxRecDepth 100000 in
theorem c_X1_isIn (l : Launch) (D : va_G) (x1 : Int32) (x2 : Int32) (x3 : Int32) : q_I l yX1_isIn wsX1_isIn ({ frames := 0, cells := 0, slots := 0, locals := 0 } : Room) D ([]) ([]) [.int x1, .int x2, .int x3] (bI (m_in x1 x2 x3)) := by
  refine q_startI (cc := cX1_isIn) (maxL := 3) (rt := .boolean) (by decide) rfl (Nat.le_of_ble_eq_true rfl) ?_
  intro p e s m below meth c hx hb hml hr hts hown hlocks hK H locs ls hP hS hl
  have hl : lv_has ls 3 [(0, .int x1), (1, .int x2), (2, .int x3)] := hl
  refine lv_iload_n hx hb dX1_isIn_0 rfl (lv_at hl 0 rfl) ?_
  refine lv_iload_n hx hb dX1_isIn_1 rfl (lv_at hl 1 rfl) ?_
  refine lv_icmp_lt (tgt := 14) hx hb dX1_isIn_2 (by decide) (fun c_2 => ?_) (fun c_2 => ?_)
  · refine lv_iconst (v := 0) hx hb dX1_isIn_14 (by decide) ?_
    exact q_retZ hx hb hr hlocks hS (by unfold m_in; rw [decide_eq_true c_2]; rfl) (bI_01 _) dX1_isIn_15
  · refine lv_iload_n hx hb dX1_isIn_5 rfl (lv_at hl 0 rfl) ?_
    refine lv_iload_n hx hb dX1_isIn_6 rfl (lv_at hl 2 rfl) ?_
    refine lv_icmp_gt (tgt := 14) hx hb dX1_isIn_7 (by decide) (fun c_7 => ?_) (fun c_7 => ?_)
    · refine lv_iconst (v := 0) hx hb dX1_isIn_14 (by decide) ?_
      exact q_retZ hx hb hr hlocks hS (by unfold m_in; rw [decide_eq_false c_2, decide_eq_true c_7]; rfl) (bI_01 _) dX1_isIn_15
    · refine lv_iconst (v := 1) hx hb dX1_isIn_10 (by decide) ?_
      refine lv_goto (tgt := 15) hx hb dX1_isIn_11 (by decide) ?_
      exact q_retZ hx hb hr hlocks hS (by unfold m_in; rw [decide_eq_false c_2, decide_eq_false c_7]; rfl) (bI_01 _) dX1_isIn_15

theorem kv_X1_isSpeaker : yX1_isSpeaker.cls = RX1 ∧ yX1_isSpeaker.cls ≠ "java/lang/invoke/MethodHandle" ∧ yX1_isSpeaker.cls ≠ "java/lang/invoke/VarHandle" ∧ (parseMethodDescriptor yX1_isSpeaker.desc).map (fun d => d.parameters.length) = some 1 := by decide +kernel
theorem ks_X1_isSpeaker : yX1_isSpeaker.cls ≠ "java/lang/invoke/MethodHandle" ∧ yX1_isSpeaker.cls ≠ "java/lang/invoke/VarHandle" ∧ (parseMethodDescriptor yX1_isSpeaker.desc).map (fun d => d.parameters.length) = some 1 := kv_X1_isSpeaker.2
set_option maxHeartbeats 4000000 in
set_option maxRecDepth 100000 in
theorem c_X1_isSpeaker (l : Launch) (D : va_G) (x1 : Int32) : q_I l yX1_isSpeaker wsX1_isSpeaker ({ frames := 1, cells := 0, slots := 0, locals := 22 } : Room) D ([]) ([]) [.int x1] (bI (m_in x1 0 5)) := by
  refine q_startI (cc := cX1_isSpeaker) (maxL := 1) (rt := .boolean) (by decide) rfl (Nat.le_of_ble_eq_true rfl) ?_
  intro p e s m below meth c hx hb hml hr hts hown hlocks hK H locs ls hP hS hl
  have hl : lv_has ls 1 [(0, .int x1)] := hl
  refine lv_iload_n hx hb dX1_isSpeaker_0 rfl (lv_at hl 0 rfl) ?_
  refine lv_iconst (v := 0) hx hb dX1_isSpeaker_1 (by decide) ?_
  refine lv_iconst (v := 5) hx hb dX1_isSpeaker_2 (by decide) ?_
  refine q_callS (As := [.int x1, .int 0, .int 5]) (rest := []) ⟨hx, hb, hml, hown, hts⟩ (c_X1_isIn l D x1 0 5) (va_cwS 3 hts gX1_isSpeaker_X1_isIn rfl rfl rfl ks_X1_isIn ⟨Nat.le_of_ble_eq_true rfl, Nat.le_of_ble_eq_true rfl⟩) (hP.sub [] rfl) (hK.sub [] rfl) rfl hl.1 rfl (Nat.le_of_ble_eq_true rfl) dX1_isSpeaker_3 (Nat.zero_le _) (Nat.zero_le _) hS (fun H locs hsm hS => ?_)
  have hP := hsm.P hP
  exact q_retZ hx hb hr hlocks hS rfl (bI_01 _) dX1_isSpeaker_6

theorem kv_X1_isPlace : yX1_isPlace.cls = RX1 ∧ yX1_isPlace.cls ≠ "java/lang/invoke/MethodHandle" ∧ yX1_isPlace.cls ≠ "java/lang/invoke/VarHandle" ∧ (parseMethodDescriptor yX1_isPlace.desc).map (fun d => d.parameters.length) = some 1 := by decide +kernel
theorem ks_X1_isPlace : yX1_isPlace.cls ≠ "java/lang/invoke/MethodHandle" ∧ yX1_isPlace.cls ≠ "java/lang/invoke/VarHandle" ∧ (parseMethodDescriptor yX1_isPlace.desc).map (fun d => d.parameters.length) = some 1 := kv_X1_isPlace.2
set_option maxHeartbeats 4000000 in
set_option maxRecDepth 100000 in
theorem c_X1_isPlace (l : Launch) (D : va_G) (cI cZ : ClassId) (ad : Nat → Nat) (th : Int32) (N : Nat) (pa pe : Int32) (g0 g1 g2 : Nat → Int32) (hN : N ≤ 24) (x1 : Int32) : q_I l yX1_isPlace wsX1_isPlace ({ frames := 1, cells := 0, slots := 0, locals := 22 } : Room) D ([(cI, .int), (cZ, .boolean)]) (mw cI cZ ad th (nI N) pa pe g0 g1 g2) [.ref (ad 0), .int x1] (bI (m_in x1 0 (nI N - 1))) := by
  refine q_startI (cc := cX1_isPlace) (maxL := 2) (rt := .boolean) (by decide) rfl (Nat.le_of_ble_eq_true rfl) ?_
  intro p e s m below meth c hx hb hml hr hts hown hlocks hK H locs ls hP hS hl
  have hin : ∀ w ∈ wsX10, w ∈ wsX1_isPlace := by decide +kernel
  have hl : lv_has ls 2 [(0, .ref (ad 0)), (1, .int x1)] := hl
  refine lv_iload_n hx hb dX1_isPlace_0 rfl (lv_at hl 1 rfl) ?_
  refine lv_iconst (v := 0) hx hb dX1_isPlace_1 (by decide) ?_
  refine lv_aload_n hx hb dX1_isPlace_2 rfl (lv_at hl 0 rfl) ?_
  refine va_get (D := D) (ci := 1) (v := .int (nI N)) (C := RX1) (T := TX1) (N := 7) hx hb hts hin hown hK hP 0 rfl rfl 1 (by decide) (hts (.fieldLink RX1 31 "SplicedTalkModel" "remarks" "I") (by decide +kernel)) (fun _ h9 => h9) rfl dX1_isPlace_3 ?_
  refine lv_iconst (v := 1) hx hb dX1_isPlace_6 (by decide) ?_
  refine lv_isub hx hb dX1_isPlace_7 ?_
  refine q_callS (As := [.int x1, .int 0, .int ((nI N) - 1)]) (rest := []) ⟨hx, hb, hml, hown, hts⟩ (c_X1_isIn l D x1 0 ((nI N) - 1)) (va_cwS 3 hts gX1_isPlace_X1_isIn rfl rfl rfl ks_X1_isIn ⟨Nat.le_of_ble_eq_true rfl, Nat.le_of_ble_eq_true rfl⟩) (hP.sub [] rfl) (hK.sub [] rfl) rfl hl.1 rfl (Nat.le_of_ble_eq_true rfl) dX1_isPlace_8 (Nat.zero_le _) (Nat.zero_le _) hS (fun H locs hsm hS => ?_)
  have hP := hsm.P hP
  exact q_retZ hx hb hr hlocks hS rfl (bI_01 _) dX1_isPlace_11

theorem kv_X1_many : yX1_many.cls = RX1 ∧ yX1_many.cls ≠ "java/lang/invoke/MethodHandle" ∧ yX1_many.cls ≠ "java/lang/invoke/VarHandle" ∧ (parseMethodDescriptor yX1_many.desc).map (fun d => d.parameters.length) = some 0 := by decide +kernel
theorem ks_X1_many : yX1_many.cls ≠ "java/lang/invoke/MethodHandle" ∧ yX1_many.cls ≠ "java/lang/invoke/VarHandle" ∧ (parseMethodDescriptor yX1_many.desc).map (fun d => d.parameters.length) = some 0 := kv_X1_many.2
set_option maxHeartbeats 4000000 in
set_option maxRecDepth 100000 in
theorem c_X1_many (l : Launch) (D : va_G) (cI cZ : ClassId) (ad : Nat → Nat) (th : Int32) (N : Nat) (pa pe : Int32) (g0 g1 g2 : Nat → Int32) (hN : N ≤ 24) : q_I l yX1_many wsX1_many ({ frames := 0, cells := 0, slots := 0, locals := 0 } : Room) D ([(cI, .int), (cZ, .boolean)]) (mw cI cZ ad th (nI N) pa pe g0 g1 g2) [.ref (ad 0)] (nI (m_n g0 N)) := by
  refine q_startI (cc := cX1_many) (maxL := 3) (rt := .int) (by decide) rfl (Nat.le_of_ble_eq_true rfl) ?_
  intro p e s m below meth c hx hb hml hr hts hown hlocks hK H locs ls hP hS hl
  have hin : ∀ w ∈ wsX10, w ∈ wsX1_many := by decide +kernel
  have hl : lv_has ls 3 [(0, .ref (ad 0))] := hl
  refine lv_iconst (v := 0) hx hb dX1_many_0 (by decide) ?_
  refine lv_istore_n (lv' := [(1, .int 0), (0, .ref (ad 0))]) hx hb dX1_many_1 rfl hl (by decide) rfl (fun ls hl => ?_)
  refine lv_iconst (v := 0) hx hb dX1_many_2 (by decide) ?_
  refine lv_istore_n (lv' := [(2, .int 0), (1, .int 0), (0, .ref (ad 0))]) hx hb dX1_many_3 rfl hl (by decide) rfl (fun ls hl => ?_)
  have lo_4 : ∀ (fu i : Nat), N - i < fu → i ≤ N → ∀ (H : Heap) (locs : List Loc) (ls : Array Slot), va_P D vwCl (mw cI cZ ad th (nI N) pa pe g0 g1 g2) H → va_S q_no s.heap H locs → lv_has ls 3 [(1, .int (nI (ct (m_wd g0) i))), (2, .int (nI i)), (0, .ref (ad 0))] → W p l e ({ frames := 0, cells := 0, slots := 0, locals := 0 } : Room) s m [.ref (ad 0)].toArray below meth c H locs 0 0 (q_EI below [.ref (ad 0)].toArray s (nI (m_n g0 N))) (F0 m 4 ls []) := by
    intro fu
    induction fu with
    | zero => intro i hi; exact absurd hi (Nat.not_lt_zero _)
    | succ fu ih =>
      intro i hi hiN H locs ls hP hS hl
      refine lv_iload_n hx hb dX1_many_4 rfl (lv_at hl 1 rfl) ?_
      refine lv_aload_n hx hb dX1_many_5 rfl (lv_at hl 2 rfl) ?_
      refine va_get (D := D) (ci := 1) (v := .int (nI N)) (C := RX1) (T := TX1) (N := 7) hx hb hts hin hown hK hP 0 rfl rfl 1 (by decide) (hts (.fieldLink RX1 31 "SplicedTalkModel" "remarks" "I") (by decide +kernel)) (fun _ h9 => h9) rfl dX1_many_6 ?_
      refine lv_icmp_ge (tgt := 35) hx hb dX1_many_9 (by decide) (fun c_9 => ?_) (fun c_9 => ?_)
      · have hi9 := nI_ge' hiN (by omega) c_9
        refine lv_iload_n hx hb dX1_many_35 rfl (lv_at hl 0 rfl) ?_
        exact q_retI hx hb hr hlocks hS (by rw [hi9]; rfl) dX1_many_36
      · have hi9 := nI_lt' hiN (by omega) c_9
        refine lv_iload_n hx hb dX1_many_12 rfl (lv_at hl 0 rfl) ?_
        refine lv_aload_n hx hb dX1_many_13 rfl (lv_at hl 2 rfl) ?_
        refine va_get (D := D) (ci := 1) (v := .ref (ad 1)) (C := RX1) (T := TX1) (N := 7) hx hb hts hin hown hK hP 0 rfl rfl 4 (by decide) (hts (.fieldLink RX1 13 "SplicedTalkModel" "topic" "[I") (by decide +kernel)) (fun _ h9 => h9) rfl dX1_many_14 ?_
        refine lv_iload_n hx hb dX1_many_17 rfl (lv_at hl 1 rfl) ?_
        refine va_iald hx hb hK hP 1 0 rfl rfl (vp_in_nI (by have := hN; skip; omega) (by decide)) dX1_many_18 ?_
        rw [nI_clamp (by have := hN; skip; omega)]
        suffices K_19 : ∀ v9 : Int32, v9 = (bI (decide (0 ≤ (g0 i)))) → W p l e ({ frames := 0, cells := 0, slots := 0, locals := 0 } : Room) s m [.ref (ad 0)].toArray below meth c H locs 0 0 (q_EI below [.ref (ad 0)].toArray s (nI (m_n g0 N))) (F0 m 27 ls [.int v9, .int (nI (ct (m_wd g0) i))]) from by
          refine lv_if_ge (tgt := 26) hx hb dX1_many_19 (by decide) (fun c_19 => ?_) (fun c_19 => ?_)
          · refine lv_iconst (v := 1) hx hb dX1_many_26 (by decide) ?_
            exact K_19 _ (bI_dt c_19)
          · refine lv_iconst (v := 0) hx hb dX1_many_22 (by decide) ?_
            refine lv_goto (tgt := 27) hx hb dX1_many_23 (by decide) ?_
            exact K_19 _ (bI_df c_19)
        intro v9 hv9
        rw [hv9]; clear hv9
        refine lv_iadd hx hb dX1_many_27 ?_
        refine lv_istore_n (lv' := [(1, .int ((nI (ct (m_wd g0) i)) + (bI (decide (0 ≤ (g0 i)))))), (2, .int (nI i)), (0, .ref (ad 0))]) hx hb dX1_many_28 rfl hl (by decide) rfl (fun ls hl => ?_)
        refine lv_iinc (v := ((nI i) + 1)) (lv' := [(2, .int ((nI i) + 1)), (1, .int ((nI (ct (m_wd g0) i)) + (bI (decide (0 ≤ (g0 i)))))), (0, .ref (ad 0))]) hx hb dX1_many_29 hl (k := 1) rfl (by rfl) (by decide) rfl (fun ls hl => ?_)
        refine lv_goto (tgt := 4) hx hb dX1_many_32 (by decide) ?_
        have e_1 : (((nI (ct (m_wd g0) i)) + (bI (decide (0 ≤ (g0 i))))) : Int32) = (nI (ct (m_wd g0) (i + 1))) := (bI_ct (m_wd g0) i)
        have e_2 : (((nI i) + 1) : Int32) = (nI (i + 1)) := nI_1 i
        exact ih (i + 1) (by omega) (by omega) H locs ls hP hS (lv_eq (lv_sub (l' := [(1, .int ((nI (ct (m_wd g0) i)) + (bI (decide (0 ≤ (g0 i)))))), (2, .int ((nI i) + 1)), (0, .ref (ad 0))]) hl [1, 0, 2] rfl) (by rw [e_1, e_2]))
  exact lo_4 (N + 1) 0 (by omega) (by omega) H locs ls hP hS (lv_sub hl [1, 0, 2] rfl)

theorem kv_X1_isWord : yX1_isWord.cls = RX1 ∧ yX1_isWord.cls ≠ "java/lang/invoke/MethodHandle" ∧ yX1_isWord.cls ≠ "java/lang/invoke/VarHandle" ∧ (parseMethodDescriptor yX1_isWord.desc).map (fun d => d.parameters.length) = some 1 := by decide +kernel
theorem ks_X1_isWord : yX1_isWord.cls ≠ "java/lang/invoke/MethodHandle" ∧ yX1_isWord.cls ≠ "java/lang/invoke/VarHandle" ∧ (parseMethodDescriptor yX1_isWord.desc).map (fun d => d.parameters.length) = some 1 := kv_X1_isWord.2
set_option maxHeartbeats 4000000 in
set_option maxRecDepth 100000 in
theorem c_X1_isWord (l : Launch) (D : va_G) (cI cZ : ClassId) (ad : Nat → Nat) (th : Int32) (N : Nat) (pa pe : Int32) (g0 g1 g2 : Nat → Int32) (hN : N ≤ 24) (x1 : Int32) : q_I l yX1_isWord wsX1_isWord ({ frames := 1, cells := 0, slots := 0, locals := 22 } : Room) D ([(cI, .int), (cZ, .boolean)]) (mw cI cZ ad th (nI N) pa pe g0 g1 g2) [.ref (ad 0), .int x1] (bI (m_in x1 0 (nI (m_n g0 N) - 1))) := by
  refine q_startI (cc := cX1_isWord) (maxL := 2) (rt := .boolean) (by decide) rfl (Nat.le_of_ble_eq_true rfl) ?_
  intro p e s m below meth c hx hb hml hr hts hown hlocks hK H locs ls hP hS hl
  have hin : ∀ w ∈ wsX10, w ∈ wsX1_isWord := by decide +kernel
  have hl : lv_has ls 2 [(0, .ref (ad 0)), (1, .int x1)] := hl
  refine lv_iload_n hx hb dX1_isWord_0 rfl (lv_at hl 1 rfl) ?_
  refine lv_iconst (v := 0) hx hb dX1_isWord_1 (by decide) ?_
  refine lv_aload_n hx hb dX1_isWord_2 rfl (lv_at hl 0 rfl) ?_
  refine q_callV (As := []) (rest := [.int 0, .int x1]) ⟨hx, hb, hml, hown, hts⟩ (c_X1_many l D cI cZ ad th N pa pe g0 g1 g2 hN) (cwV 0 hts gX1_isWord_X1_many rfl rfl rfl kv_X1_many ⟨Nat.le_of_ble_eq_true rfl, Nat.le_of_ble_eq_true rfl⟩) (va_recv hK hP (ci := 1) (q0 := 0) rfl rfl) hP hK rfl hl.1 rfl (Nat.le_of_ble_eq_true rfl) dX1_isWord_3 (Nat.zero_le _) (Nat.zero_le _) hS (fun H locs hsm hS => ?_)
  have hP := hsm.P hP
  refine lv_iconst (v := 1) hx hb dX1_isWord_6 (by decide) ?_
  refine lv_isub hx hb dX1_isWord_7 ?_
  refine q_callS (As := [.int x1, .int 0, .int ((nI (m_n g0 N)) - 1)]) (rest := []) ⟨hx, hb, hml, hown, hts⟩ (c_X1_isIn l D x1 0 ((nI (m_n g0 N)) - 1)) (va_cwS 3 hts gX1_isWord_X1_isIn rfl rfl rfl ks_X1_isIn ⟨Nat.le_of_ble_eq_true rfl, Nat.le_of_ble_eq_true rfl⟩) (hP.sub [] rfl) (hK.sub [] rfl) rfl hl.1 rfl (Nat.le_of_ble_eq_true rfl) dX1_isWord_8 (Nat.zero_le _) (Nat.zero_le _) hS (fun H locs hsm hS => ?_)
  have hP := hsm.P hP
  exact q_retZ hx hb hr hlocks hS rfl (bI_01 _) dX1_isWord_11

theorem kv_X1_isGap : yX1_isGap.cls = RX1 ∧ yX1_isGap.cls ≠ "java/lang/invoke/MethodHandle" ∧ yX1_isGap.cls ≠ "java/lang/invoke/VarHandle" ∧ (parseMethodDescriptor yX1_isGap.desc).map (fun d => d.parameters.length) = some 1 := by decide +kernel
theorem ks_X1_isGap : yX1_isGap.cls ≠ "java/lang/invoke/MethodHandle" ∧ yX1_isGap.cls ≠ "java/lang/invoke/VarHandle" ∧ (parseMethodDescriptor yX1_isGap.desc).map (fun d => d.parameters.length) = some 1 := kv_X1_isGap.2
set_option maxHeartbeats 4000000 in
set_option maxRecDepth 100000 in
theorem c_X1_isGap (l : Launch) (D : va_G) (cI cZ : ClassId) (ad : Nat → Nat) (th : Int32) (N : Nat) (pa pe : Int32) (g0 g1 g2 : Nat → Int32) (hN : N ≤ 24) (x1 : Int32) : q_I l yX1_isGap wsX1_isGap ({ frames := 1, cells := 0, slots := 0, locals := 22 } : Room) D ([(cI, .int), (cZ, .boolean)]) (mw cI cZ ad th (nI N) pa pe g0 g1 g2) [.ref (ad 0), .int x1] (bI (m_in x1 0 (nI (m_n g0 N) - 2))) := by
  refine q_startI (cc := cX1_isGap) (maxL := 2) (rt := .boolean) (by decide) rfl (Nat.le_of_ble_eq_true rfl) ?_
  intro p e s m below meth c hx hb hml hr hts hown hlocks hK H locs ls hP hS hl
  have hin : ∀ w ∈ wsX10, w ∈ wsX1_isGap := by decide +kernel
  have hl : lv_has ls 2 [(0, .ref (ad 0)), (1, .int x1)] := hl
  refine lv_iload_n hx hb dX1_isGap_0 rfl (lv_at hl 1 rfl) ?_
  refine lv_iconst (v := 0) hx hb dX1_isGap_1 (by decide) ?_
  refine lv_aload_n hx hb dX1_isGap_2 rfl (lv_at hl 0 rfl) ?_
  refine q_callV (As := []) (rest := [.int 0, .int x1]) ⟨hx, hb, hml, hown, hts⟩ (c_X1_many l D cI cZ ad th N pa pe g0 g1 g2 hN) (cwV 0 hts gX1_isGap_X1_many rfl rfl rfl kv_X1_many ⟨Nat.le_of_ble_eq_true rfl, Nat.le_of_ble_eq_true rfl⟩) (va_recv hK hP (ci := 1) (q0 := 0) rfl rfl) hP hK rfl hl.1 rfl (Nat.le_of_ble_eq_true rfl) dX1_isGap_3 (Nat.zero_le _) (Nat.zero_le _) hS (fun H locs hsm hS => ?_)
  have hP := hsm.P hP
  refine lv_iconst (v := 2) hx hb dX1_isGap_6 (by decide) ?_
  refine lv_isub hx hb dX1_isGap_7 ?_
  refine q_callS (As := [.int x1, .int 0, .int ((nI (m_n g0 N)) - 2)]) (rest := []) ⟨hx, hb, hml, hown, hts⟩ (c_X1_isIn l D x1 0 ((nI (m_n g0 N)) - 2)) (va_cwS 3 hts gX1_isGap_X1_isIn rfl rfl rfl ks_X1_isIn ⟨Nat.le_of_ble_eq_true rfl, Nat.le_of_ble_eq_true rfl⟩) (hP.sub [] rfl) (hK.sub [] rfl) rfl hl.1 rfl (Nat.le_of_ble_eq_true rfl) dX1_isGap_8 (Nat.zero_le _) (Nat.zero_le _) hS (fun H locs hsm hS => ?_)
  have hP := hsm.P hP
  exact q_retZ hx hb hr hlocks hS rfl (bI_01 _) dX1_isGap_11

theorem kv_X1_place : yX1_place.cls = RX1 ∧ yX1_place.cls ≠ "java/lang/invoke/MethodHandle" ∧ yX1_place.cls ≠ "java/lang/invoke/VarHandle" ∧ (parseMethodDescriptor yX1_place.desc).map (fun d => d.parameters.length) = some 1 := by decide +kernel
theorem ks_X1_place : yX1_place.cls ≠ "java/lang/invoke/MethodHandle" ∧ yX1_place.cls ≠ "java/lang/invoke/VarHandle" ∧ (parseMethodDescriptor yX1_place.desc).map (fun d => d.parameters.length) = some 1 := kv_X1_place.2
set_option maxHeartbeats 4000000 in
set_option maxRecDepth 100000 in
theorem c_X1_place (l : Launch) (D : va_G) (cI cZ : ClassId) (ad : Nat → Nat) (th : Int32) (N : Nat) (pa pe : Int32) (g0 g1 g2 : Nat → Int32) (hN : N ≤ 24) (k : Nat) (hk : k < m_n g0 N) : q_I l yX1_place wsX1_place ({ frames := 0, cells := 0, slots := 0, locals := 0 } : Room) D ([(cI, .int), (cZ, .boolean)]) (mw cI cZ ad th (nI N) pa pe g0 g1 g2) [.ref (ad 0), .int (nI k)] (nI (m_P g0 N k)) := by
  refine q_startI (cc := cX1_place) (maxL := 4) (rt := .int) (by decide) rfl (Nat.le_of_ble_eq_true rfl) ?_
  intro p e s m below meth c hx hb hml hr hts hown hlocks hK H locs ls hP hS hl
  have hin : ∀ w ∈ wsX10, w ∈ wsX1_place := by decide +kernel
  have hl : lv_has ls 4 [(0, .ref (ad 0)), (1, .int (nI k))] := hl
  have hPl := m_P_lt hk
  have hPw := m_P_wd hk
  have hPc := m_P_ct hk
  refine lv_iload_n hx hb dX1_place_0 rfl (lv_at hl 1 rfl) ?_
  refine lv_istore_n (lv' := [(2, .int (nI k)), (0, .ref (ad 0)), (1, .int (nI k))]) hx hb dX1_place_1 rfl hl (by decide) rfl (fun ls hl => ?_)
  refine lv_iconst (v := 0) hx hb dX1_place_2 (by decide) ?_
  refine lv_istore_n (lv' := [(3, .int 0), (2, .int (nI k)), (0, .ref (ad 0)), (1, .int (nI k))]) hx hb dX1_place_3 rfl hl (by decide) rfl (fun ls hl => ?_)
  have lo_4 : ∀ (fu i : Nat), (m_P g0 N k) - i < fu → i ≤ (m_P g0 N k) → ∀ (H : Heap) (locs : List Loc) (ls : Array Slot), va_P D vwCl (mw cI cZ ad th (nI N) pa pe g0 g1 g2) H → va_S q_no s.heap H locs → lv_has ls 4 [(2, .int (nI (k - ct (m_wd g0) i))), (3, .int (nI i)), (0, .ref (ad 0)), (1, .int (nI k))] → W p l e ({ frames := 0, cells := 0, slots := 0, locals := 0 } : Room) s m [.ref (ad 0), .int (nI k)].toArray below meth c H locs 0 0 (q_EI below [.ref (ad 0), .int (nI k)].toArray s (nI (m_P g0 N k))) (F0 m 4 ls []) := by
    intro fu
    induction fu with
    | zero => intro i hi; exact absurd hi (Nat.not_lt_zero _)
    | succ fu ih =>
      intro i hi hiN H locs ls hP hS hl
      refine lv_aload_n hx hb dX1_place_4 rfl (lv_at hl 2 rfl) ?_
      refine va_get (D := D) (ci := 1) (v := .ref (ad 1)) (C := RX1) (T := TX1) (N := 7) hx hb hts hin hown hK hP 0 rfl rfl 4 (by decide) (hts (.fieldLink RX1 13 "SplicedTalkModel" "topic" "[I") (by decide +kernel)) (fun _ h9 => h9) rfl dX1_place_5 ?_
      refine lv_iload_n hx hb dX1_place_8 rfl (lv_at hl 1 rfl) ?_
      refine va_iald hx hb hK hP 1 0 rfl rfl (vp_in_nI (by have := hN; skip; omega) (by decide)) dX1_place_9 ?_
      rw [nI_clamp (by have := hN; skip; omega)]
      refine lv_if_lt (tgt := 17) hx hb dX1_place_10 (by decide) (fun c_10 => ?_) (fun c_10 => ?_)
      · have hi9 := m_pl_l hN hk hiN (Or.inl c_10)
        refine lv_iload_n hx hb dX1_place_17 rfl (lv_at hl 0 rfl) ?_
        refine lv_aload_n hx hb dX1_place_18 rfl (lv_at hl 2 rfl) ?_
        refine va_get (D := D) (ci := 1) (v := .ref (ad 1)) (C := RX1) (T := TX1) (N := 7) hx hb hts hin hown hK hP 0 rfl rfl 4 (by decide) (hts (.fieldLink RX1 13 "SplicedTalkModel" "topic" "[I") (by decide +kernel)) (fun _ h9 => h9) rfl dX1_place_19 ?_
        refine lv_iload_n hx hb dX1_place_22 rfl (lv_at hl 1 rfl) ?_
        refine va_iald hx hb hK hP 1 0 rfl rfl (vp_in_nI (by have := hN; skip; omega) (by decide)) dX1_place_23 ?_
        rw [nI_clamp (by have := hN; skip; omega)]
        suffices K_24 : ∀ v9 : Int32, v9 = (bI (decide (0 ≤ (g0 i)))) → W p l e ({ frames := 0, cells := 0, slots := 0, locals := 0 } : Room) s m [.ref (ad 0), .int (nI k)].toArray below meth c H locs 0 0 (q_EI below [.ref (ad 0), .int (nI k)].toArray s (nI (m_P g0 N k))) (F0 m 32 ls [.int v9, .int (nI (k - ct (m_wd g0) i))]) from by
          refine lv_if_ge (tgt := 31) hx hb dX1_place_24 (by decide) (fun c_24 => ?_) (fun c_24 => ?_)
          · refine lv_iconst (v := 1) hx hb dX1_place_31 (by decide) ?_
            exact K_24 _ (bI_dt c_24)
          · refine lv_iconst (v := 0) hx hb dX1_place_27 (by decide) ?_
            refine lv_goto (tgt := 32) hx hb dX1_place_28 (by decide) ?_
            exact K_24 _ (bI_df c_24)
        intro v9 hv9
        rw [hv9]; clear hv9
        refine lv_isub hx hb dX1_place_32 ?_
        refine lv_istore_n (lv' := [(2, .int ((nI (k - ct (m_wd g0) i)) - (bI (decide (0 ≤ (g0 i)))))), (3, .int (nI i)), (0, .ref (ad 0)), (1, .int (nI k))]) hx hb dX1_place_33 rfl hl (by decide) rfl (fun ls hl => ?_)
        refine lv_iinc (v := ((nI i) + 1)) (lv' := [(3, .int ((nI i) + 1)), (2, .int ((nI (k - ct (m_wd g0) i)) - (bI (decide (0 ≤ (g0 i)))))), (0, .ref (ad 0)), (1, .int (nI k))]) hx hb dX1_place_34 hl (k := 1) rfl (by rfl) (by decide) rfl (fun ls hl => ?_)
        refine lv_goto (tgt := 4) hx hb dX1_place_37 (by decide) ?_
        have e_2 : (((nI (k - ct (m_wd g0) i)) - (bI (decide (0 ≤ (g0 i))))) : Int32) = (nI (k - ct (m_wd g0) (i + 1))) := (m_pl_b hk hi9)
        have e_3 : (((nI i) + 1) : Int32) = (nI (i + 1)) := nI_1 i
        exact ih (i + 1) (by omega) (by omega) H locs ls hP hS (lv_eq (lv_sub (l' := [(2, .int ((nI (k - ct (m_wd g0) i)) - (bI (decide (0 ≤ (g0 i)))))), (3, .int ((nI i) + 1)), (0, .ref (ad 0)), (1, .int (nI k))]) hl [1, 0, 2, 3] rfl) (by rw [e_2, e_3]))
      · refine lv_iload_n hx hb dX1_place_13 rfl (lv_at hl 0 rfl) ?_
        refine lv_if_le (tgt := 40) hx hb dX1_place_14 (by decide) (fun c_14 => ?_) (fun c_14 => ?_)
        · have hi9 := m_pl_e hN hk hiN c_10 c_14
          refine lv_iload_n hx hb dX1_place_40 rfl (lv_at hl 1 rfl) ?_
          exact q_retI hx hb hr hlocks hS (by rw [hi9]) dX1_place_41
        · have hi9 := m_pl_l hN hk hiN (Or.inr c_14)
          refine lv_iload_n hx hb dX1_place_17 rfl (lv_at hl 0 rfl) ?_
          refine lv_aload_n hx hb dX1_place_18 rfl (lv_at hl 2 rfl) ?_
          refine va_get (D := D) (ci := 1) (v := .ref (ad 1)) (C := RX1) (T := TX1) (N := 7) hx hb hts hin hown hK hP 0 rfl rfl 4 (by decide) (hts (.fieldLink RX1 13 "SplicedTalkModel" "topic" "[I") (by decide +kernel)) (fun _ h9 => h9) rfl dX1_place_19 ?_
          refine lv_iload_n hx hb dX1_place_22 rfl (lv_at hl 1 rfl) ?_
          refine va_iald hx hb hK hP 1 0 rfl rfl (vp_in_nI (by have := hN; skip; omega) (by decide)) dX1_place_23 ?_
          rw [nI_clamp (by have := hN; skip; omega)]
          suffices K_24 : ∀ v9 : Int32, v9 = (bI (decide (0 ≤ (g0 i)))) → W p l e ({ frames := 0, cells := 0, slots := 0, locals := 0 } : Room) s m [.ref (ad 0), .int (nI k)].toArray below meth c H locs 0 0 (q_EI below [.ref (ad 0), .int (nI k)].toArray s (nI (m_P g0 N k))) (F0 m 32 ls [.int v9, .int (nI (k - ct (m_wd g0) i))]) from by
            refine lv_if_ge (tgt := 31) hx hb dX1_place_24 (by decide) (fun c_24 => ?_) (fun c_24 => ?_)
            · refine lv_iconst (v := 1) hx hb dX1_place_31 (by decide) ?_
              exact K_24 _ (bI_dt c_24)
            · refine lv_iconst (v := 0) hx hb dX1_place_27 (by decide) ?_
              refine lv_goto (tgt := 32) hx hb dX1_place_28 (by decide) ?_
              exact K_24 _ (bI_df c_24)
          intro v9 hv9
          rw [hv9]; clear hv9
          refine lv_isub hx hb dX1_place_32 ?_
          refine lv_istore_n (lv' := [(2, .int ((nI (k - ct (m_wd g0) i)) - (bI (decide (0 ≤ (g0 i)))))), (3, .int (nI i)), (0, .ref (ad 0)), (1, .int (nI k))]) hx hb dX1_place_33 rfl hl (by decide) rfl (fun ls hl => ?_)
          refine lv_iinc (v := ((nI i) + 1)) (lv' := [(3, .int ((nI i) + 1)), (2, .int ((nI (k - ct (m_wd g0) i)) - (bI (decide (0 ≤ (g0 i)))))), (0, .ref (ad 0)), (1, .int (nI k))]) hx hb dX1_place_34 hl (k := 1) rfl (by rfl) (by decide) rfl (fun ls hl => ?_)
          refine lv_goto (tgt := 4) hx hb dX1_place_37 (by decide) ?_
          have e_2 : (((nI (k - ct (m_wd g0) i)) - (bI (decide (0 ≤ (g0 i))))) : Int32) = (nI (k - ct (m_wd g0) (i + 1))) := (m_pl_b hk hi9)
          have e_3 : (((nI i) + 1) : Int32) = (nI (i + 1)) := nI_1 i
          exact ih (i + 1) (by omega) (by omega) H locs ls hP hS (lv_eq (lv_sub (l' := [(2, .int ((nI (k - ct (m_wd g0) i)) - (bI (decide (0 ≤ (g0 i)))))), (3, .int ((nI i) + 1)), (0, .ref (ad 0)), (1, .int (nI k))]) hl [1, 0, 2, 3] rfl) (by rw [e_2, e_3]))
  exact lo_4 ((m_P g0 N k) + 1) 0 (by omega) (by omega) H locs ls hP hS (lv_sub hl [1, 0, 2, 3] rfl)

theorem kv_X1_apart : yX1_apart.cls = RX1 ∧ yX1_apart.cls ≠ "java/lang/invoke/MethodHandle" ∧ yX1_apart.cls ≠ "java/lang/invoke/VarHandle" ∧ (parseMethodDescriptor yX1_apart.desc).map (fun d => d.parameters.length) = some 2 := by decide +kernel
theorem ks_X1_apart : yX1_apart.cls ≠ "java/lang/invoke/MethodHandle" ∧ yX1_apart.cls ≠ "java/lang/invoke/VarHandle" ∧ (parseMethodDescriptor yX1_apart.desc).map (fun d => d.parameters.length) = some 2 := kv_X1_apart.2
set_option maxHeartbeats 4000000 in
set_option maxRecDepth 100000 in
theorem c_X1_apart (l : Launch) (D : va_G) (x1 : Int32) (x2 : Int32) : q_I l yX1_apart wsX1_apart ({ frames := 1, cells := 0, slots := 0, locals := 21 } : Room) D ([]) ([]) [.int x1, .int x2] (x_ds x1 x2) := by
  refine q_startI (cc := cX1_apart) (maxL := 3) (rt := .int) (by decide) rfl (Nat.le_of_ble_eq_true rfl) ?_
  intro p e s m below meth c hx hb hml hr hts hown hlocks hK H locs ls hP hS hl
  have hl : lv_has ls 3 [(0, .int x1), (1, .int x2)] := hl
  refine lv_iload_n hx hb dX1_apart_0 rfl (lv_at hl 0 rfl) ?_
  refine lv_iload_n hx hb dX1_apart_1 rfl (lv_at hl 1 rfl) ?_
  refine lv_isub hx hb dX1_apart_2 ?_
  refine va_mabs hx hb (hml.trans hl.1.symm) hown (hts (.methodLink RX1 38 Lib.Math.abs.name) (by decide +kernel)) (hts (.static Lib.Math.abs.name) (by decide +kernel)) (hts (.initialized "java/lang/Math") (by decide +kernel)) (hts (.code Lib.Math.abs.name Lib.Math.abs.code 1 (some .int)) (by decide +kernel)) (Nat.le_of_ble_eq_true rfl) (Nat.le_of_ble_eq_true rfl) (Nat.zero_le _) (Nat.zero_le _) dX1_apart_3 ?_
  refine lv_istore_n (lv' := [(2, .int (i_abs (x1 - x2))), (0, .int x1), (1, .int x2)]) hx hb dX1_apart_6 rfl hl (by decide) rfl (fun ls hl => ?_)
  refine lv_iload_n hx hb dX1_apart_7 rfl (lv_at hl 0 rfl) ?_
  refine lv_bipush (v := 10) hx hb dX1_apart_8 (by decide) ?_
  refine lv_iload_n hx hb dX1_apart_10 rfl (lv_at hl 0 rfl) ?_
  refine lv_isub hx hb dX1_apart_11 ?_
  refine va_mmin hx hb (hml.trans hl.1.symm) hown (hts (.methodLink RX1 44 Lib.Math.min.name) (by decide +kernel)) (hts (.static Lib.Math.min.name) (by decide +kernel)) (hts (.initialized "java/lang/Math") (by decide +kernel)) (hts (.code Lib.Math.min.name Lib.Math.min.code 2 (some .int)) (by decide +kernel)) (Nat.le_of_ble_eq_true rfl) (Nat.le_of_ble_eq_true rfl) (Nat.zero_le _) (Nat.zero_le _) dX1_apart_12 ?_
  exact q_retI hx hb hr hlocks hS rfl dX1_apart_15

theorem kv_X1_from : yX1_from.cls = RX1 ∧ yX1_from.cls ≠ "java/lang/invoke/MethodHandle" ∧ yX1_from.cls ≠ "java/lang/invoke/VarHandle" ∧ (parseMethodDescriptor yX1_from.desc).map (fun d => d.parameters.length) = some 1 := by decide +kernel
theorem ks_X1_from : yX1_from.cls ≠ "java/lang/invoke/MethodHandle" ∧ yX1_from.cls ≠ "java/lang/invoke/VarHandle" ∧ (parseMethodDescriptor yX1_from.desc).map (fun d => d.parameters.length) = some 1 := kv_X1_from.2
set_option maxHeartbeats 4000000 in
set_option maxRecDepth 100000 in
theorem c_X1_from (l : Launch) (D : va_G) (cI cZ : ClassId) (ad : Nat → Nat) (th : Int32) (N : Nat) (pa pe : Int32) (g0 g1 g2 : Nat → Int32) (hN : N ≤ 24) (g : Nat) (hg : g < m_n g0 N) : q_I l yX1_from wsX1_from ({ frames := 1, cells := 0, slots := 0, locals := 23 } : Room) D ([(cI, .int), (cZ, .boolean)]) (mw cI cZ ad th (nI N) pa pe g0 g1 g2) [.ref (ad 0), .int (nI g)] (nI (m_P g0 N g)) := by
  refine q_startI (cc := cX1_from) (maxL := 2) (rt := .int) (by decide) rfl (Nat.le_of_ble_eq_true rfl) ?_
  intro p e s m below meth c hx hb hml hr hts hown hlocks hK H locs ls hP hS hl
  have hin : ∀ w ∈ wsX10, w ∈ wsX1_from := by decide +kernel
  have hl : lv_has ls 2 [(0, .ref (ad 0)), (1, .int (nI g))] := hl
  refine lv_aload_n hx hb dX1_from_0 rfl (lv_at hl 0 rfl) ?_
  refine lv_iload_n hx hb dX1_from_1 rfl (lv_at hl 1 rfl) ?_
  refine q_callV (As := [.int (nI g)]) (rest := []) ⟨hx, hb, hml, hown, hts⟩ (c_X1_place l D cI cZ ad th N pa pe g0 g1 g2 hN g (by omega)) (cwV 1 hts gX1_from_X1_place rfl rfl rfl kv_X1_place ⟨Nat.le_of_ble_eq_true rfl, Nat.le_of_ble_eq_true rfl⟩) (va_recv hK hP (ci := 1) (q0 := 0) rfl rfl) hP hK rfl hl.1 rfl (Nat.le_of_ble_eq_true rfl) dX1_from_2 (Nat.zero_le _) (Nat.zero_le _) hS (fun H locs hsm hS => ?_)
  have hP := hsm.P hP
  exact q_retI hx hb hr hlocks hS rfl dX1_from_5

theorem kv_X1_to : yX1_to.cls = RX1 ∧ yX1_to.cls ≠ "java/lang/invoke/MethodHandle" ∧ yX1_to.cls ≠ "java/lang/invoke/VarHandle" ∧ (parseMethodDescriptor yX1_to.desc).map (fun d => d.parameters.length) = some 1 := by decide +kernel
theorem ks_X1_to : yX1_to.cls ≠ "java/lang/invoke/MethodHandle" ∧ yX1_to.cls ≠ "java/lang/invoke/VarHandle" ∧ (parseMethodDescriptor yX1_to.desc).map (fun d => d.parameters.length) = some 1 := kv_X1_to.2
set_option maxHeartbeats 4000000 in
set_option maxRecDepth 100000 in
theorem c_X1_to (l : Launch) (D : va_G) (cI cZ : ClassId) (ad : Nat → Nat) (th : Int32) (N : Nat) (pa pe : Int32) (g0 g1 g2 : Nat → Int32) (hN : N ≤ 24) (g : Nat) (hg : g + 1 < m_n g0 N) : q_I l yX1_to wsX1_to ({ frames := 1, cells := 0, slots := 0, locals := 23 } : Room) D ([(cI, .int), (cZ, .boolean)]) (mw cI cZ ad th (nI N) pa pe g0 g1 g2) [.ref (ad 0), .int (nI g)] (nI (m_P g0 N (g + 1))) := by
  refine q_startI (cc := cX1_to) (maxL := 2) (rt := .int) (by decide) rfl (Nat.le_of_ble_eq_true rfl) ?_
  intro p e s m below meth c hx hb hml hr hts hown hlocks hK H locs ls hP hS hl
  have hin : ∀ w ∈ wsX10, w ∈ wsX1_to := by decide +kernel
  have hl : lv_has ls 2 [(0, .ref (ad 0)), (1, .int (nI g))] := hl
  refine lv_aload_n hx hb dX1_to_0 rfl (lv_at hl 0 rfl) ?_
  refine lv_iload_n hx hb dX1_to_1 rfl (lv_at hl 1 rfl) ?_
  refine lv_iconst (v := 1) hx hb dX1_to_2 (by decide) ?_
  refine lv_iadd hx hb dX1_to_3 ?_
  rw [nI_1]
  refine q_callV (As := [.int (nI (g + 1))]) (rest := []) ⟨hx, hb, hml, hown, hts⟩ (c_X1_place l D cI cZ ad th N pa pe g0 g1 g2 hN (g + 1) (by omega)) (cwV 1 hts gX1_to_X1_place rfl rfl rfl kv_X1_place ⟨Nat.le_of_ble_eq_true rfl, Nat.le_of_ble_eq_true rfl⟩) (va_recv hK hP (ci := 1) (q0 := 0) rfl rfl) hP hK rfl hl.1 rfl (Nat.le_of_ble_eq_true rfl) dX1_to_4 (Nat.zero_le _) (Nat.zero_le _) hS (fun H locs hsm hS => ?_)
  have hP := hsm.P hP
  exact q_retI hx hb hr hlocks hS rfl dX1_to_7

theorem kv_X1_coughsOf : yX1_coughsOf.cls = RX1 ∧ yX1_coughsOf.cls ≠ "java/lang/invoke/MethodHandle" ∧ yX1_coughsOf.cls ≠ "java/lang/invoke/VarHandle" ∧ (parseMethodDescriptor yX1_coughsOf.desc).map (fun d => d.parameters.length) = some 1 := by decide +kernel
theorem ks_X1_coughsOf : yX1_coughsOf.cls ≠ "java/lang/invoke/MethodHandle" ∧ yX1_coughsOf.cls ≠ "java/lang/invoke/VarHandle" ∧ (parseMethodDescriptor yX1_coughsOf.desc).map (fun d => d.parameters.length) = some 1 := kv_X1_coughsOf.2
set_option maxHeartbeats 4000000 in
set_option maxRecDepth 100000 in
theorem c_X1_coughsOf (l : Launch) (D : va_G) (cI cZ : ClassId) (ad : Nat → Nat) (th : Int32) (N : Nat) (pa pe : Int32) (g0 g1 g2 : Nat → Int32) (hN : N ≤ 24) (g : Nat) (hg : g + 1 < m_n g0 N) : q_I l yX1_coughsOf wsX1_coughsOf ({ frames := 2, cells := 0, slots := 0, locals := 44 } : Room) D ([(cI, .int), (cZ, .boolean)]) (mw cI cZ ad th (nI N) pa pe g0 g1 g2) [.ref (ad 0), .int (nI g)] (m_cg g0 N g) := by
  refine q_startI (cc := cX1_coughsOf) (maxL := 2) (rt := .int) (by decide) rfl (Nat.le_of_ble_eq_true rfl) ?_
  intro p e s m below meth c hx hb hml hr hts hown hlocks hK H locs ls hP hS hl
  have hin : ∀ w ∈ wsX10, w ∈ wsX1_coughsOf := by decide +kernel
  have hl : lv_has ls 2 [(0, .ref (ad 0)), (1, .int (nI g))] := hl
  refine lv_aload_n hx hb dX1_coughsOf_0 rfl (lv_at hl 0 rfl) ?_
  refine lv_iload_n hx hb dX1_coughsOf_1 rfl (lv_at hl 1 rfl) ?_
  refine q_callV (As := [.int (nI g)]) (rest := []) ⟨hx, hb, hml, hown, hts⟩ (c_X1_to l D cI cZ ad th N pa pe g0 g1 g2 hN g (by omega)) (cwV 1 hts gX1_coughsOf_X1_to rfl rfl rfl kv_X1_to ⟨Nat.le_of_ble_eq_true rfl, Nat.le_of_ble_eq_true rfl⟩) (va_recv hK hP (ci := 1) (q0 := 0) rfl rfl) hP hK rfl hl.1 rfl (Nat.le_of_ble_eq_true rfl) dX1_coughsOf_2 (Nat.zero_le _) (Nat.zero_le _) hS (fun H locs hsm hS => ?_)
  have hP := hsm.P hP
  refine lv_aload_n hx hb dX1_coughsOf_5 rfl (lv_at hl 0 rfl) ?_
  refine lv_iload_n hx hb dX1_coughsOf_6 rfl (lv_at hl 1 rfl) ?_
  refine q_callV (As := [.int (nI g)]) (rest := [.int (nI (m_P g0 N (g + 1)))]) ⟨hx, hb, hml, hown, hts⟩ (c_X1_from l D cI cZ ad th N pa pe g0 g1 g2 hN g (by omega)) (cwV 1 hts gX1_coughsOf_X1_from rfl rfl rfl kv_X1_from ⟨Nat.le_of_ble_eq_true rfl, Nat.le_of_ble_eq_true rfl⟩) (va_recv hK hP (ci := 1) (q0 := 0) rfl rfl) hP hK rfl hl.1 rfl (Nat.le_of_ble_eq_true rfl) dX1_coughsOf_7 (Nat.zero_le _) (Nat.zero_le _) hS (fun H locs hsm hS => ?_)
  have hP := hsm.P hP
  refine lv_isub hx hb dX1_coughsOf_10 ?_
  refine lv_iconst (v := 1) hx hb dX1_coughsOf_11 (by decide) ?_
  refine lv_isub hx hb dX1_coughsOf_12 ?_
  exact q_retI hx hb hr hlocks hS rfl dX1_coughsOf_13

theorem kv_X1_strain : yX1_strain.cls = RX1 ∧ yX1_strain.cls ≠ "java/lang/invoke/MethodHandle" ∧ yX1_strain.cls ≠ "java/lang/invoke/VarHandle" ∧ (parseMethodDescriptor yX1_strain.desc).map (fun d => d.parameters.length) = some 1 := by decide +kernel
theorem ks_X1_strain : yX1_strain.cls ≠ "java/lang/invoke/MethodHandle" ∧ yX1_strain.cls ≠ "java/lang/invoke/VarHandle" ∧ (parseMethodDescriptor yX1_strain.desc).map (fun d => d.parameters.length) = some 1 := kv_X1_strain.2
set_option maxHeartbeats 4000000 in
set_option maxRecDepth 100000 in
theorem c_X1_strain (l : Launch) (D : va_G) (cI cZ : ClassId) (ad : Nat → Nat) (th : Int32) (N : Nat) (pa pe : Int32) (g0 g1 g2 : Nat → Int32) (hN : N ≤ 24) (g : Nat) (hg : g + 1 < m_n g0 N) : q_I l yX1_strain wsX1_strain ({ frames := 3, cells := 0, slots := 0, locals := 65 } : Room) D ([(cI, .int), (cZ, .boolean)]) (mw cI cZ ad th (nI N) pa pe g0 g1 g2) [.ref (ad 0), .int (nI g)] (m_st g0 N g) := by
  refine q_startI (cc := cX1_strain) (maxL := 2) (rt := .int) (by decide) rfl (Nat.le_of_ble_eq_true rfl) ?_
  intro p e s m below meth c hx hb hml hr hts hown hlocks hK H locs ls hP hS hl
  have hin : ∀ w ∈ wsX10, w ∈ wsX1_strain := by decide +kernel
  have hl : lv_has ls 2 [(0, .ref (ad 0)), (1, .int (nI g))] := hl
  refine lv_aload_n hx hb dX1_strain_0 rfl (lv_at hl 0 rfl) ?_
  refine va_get (D := D) (ci := 1) (v := .ref (ad 1)) (C := RX1) (T := TX1) (N := 7) hx hb hts hin hown hK hP 0 rfl rfl 4 (by decide) (hts (.fieldLink RX1 13 "SplicedTalkModel" "topic" "[I") (by decide +kernel)) (fun _ h9 => h9) rfl dX1_strain_1 ?_
  refine lv_aload_n hx hb dX1_strain_4 rfl (lv_at hl 0 rfl) ?_
  refine lv_iload_n hx hb dX1_strain_5 rfl (lv_at hl 1 rfl) ?_
  refine q_callV (As := [.int (nI g)]) (rest := [.ref (ad 1)]) ⟨hx, hb, hml, hown, hts⟩ (c_X1_from l D cI cZ ad th N pa pe g0 g1 g2 hN g (by omega)) (cwV 1 hts gX1_strain_X1_from rfl rfl rfl kv_X1_from ⟨Nat.le_of_ble_eq_true rfl, Nat.le_of_ble_eq_true rfl⟩) (va_recv hK hP (ci := 1) (q0 := 0) rfl rfl) hP hK rfl hl.1 rfl (Nat.le_of_ble_eq_true rfl) dX1_strain_6 (Nat.zero_le _) (Nat.zero_le _) hS (fun H locs hsm hS => ?_)
  have hP := hsm.P hP
  refine va_iald hx hb hK hP 1 0 rfl rfl (vp_in_nI (by have := hN; have := m_P_lt (g0 := g0) (N := N) (k := g) (by omega); omega) (by decide)) dX1_strain_9 ?_
  rw [nI_clamp (by have := hN; have := m_P_lt (g0 := g0) (N := N) (k := g) (by omega); omega)]
  refine lv_aload_n hx hb dX1_strain_10 rfl (lv_at hl 0 rfl) ?_
  refine va_get (D := D) (ci := 1) (v := .ref (ad 1)) (C := RX1) (T := TX1) (N := 7) hx hb hts hin hown hK hP 0 rfl rfl 4 (by decide) (hts (.fieldLink RX1 13 "SplicedTalkModel" "topic" "[I") (by decide +kernel)) (fun _ h9 => h9) rfl dX1_strain_11 ?_
  refine lv_aload_n hx hb dX1_strain_14 rfl (lv_at hl 0 rfl) ?_
  refine lv_iload_n hx hb dX1_strain_15 rfl (lv_at hl 1 rfl) ?_
  refine q_callV (As := [.int (nI g)]) (rest := [.ref (ad 1), .int (g0 (m_P g0 N g))]) ⟨hx, hb, hml, hown, hts⟩ (c_X1_to l D cI cZ ad th N pa pe g0 g1 g2 hN g (by omega)) (cwV 1 hts gX1_strain_X1_to rfl rfl rfl kv_X1_to ⟨Nat.le_of_ble_eq_true rfl, Nat.le_of_ble_eq_true rfl⟩) (va_recv hK hP (ci := 1) (q0 := 0) rfl rfl) hP hK rfl hl.1 rfl (Nat.le_of_ble_eq_true rfl) dX1_strain_16 (Nat.zero_le _) (Nat.zero_le _) hS (fun H locs hsm hS => ?_)
  have hP := hsm.P hP
  refine va_iald hx hb hK hP 1 0 rfl rfl (vp_in_nI (by have := hN; have := m_P_lt (g0 := g0) (N := N) (k := (g + 1)) (by omega); omega) (by decide)) dX1_strain_19 ?_
  rw [nI_clamp (by have := hN; have := m_P_lt (g0 := g0) (N := N) (k := (g + 1)) (by omega); omega)]
  refine q_callS (As := [.int (g0 (m_P g0 N g)), .int (g0 (m_P g0 N (g + 1)))]) (rest := []) ⟨hx, hb, hml, hown, hts⟩ (c_X1_apart l D (g0 (m_P g0 N g)) (g0 (m_P g0 N (g + 1)))) (va_cwS 2 hts gX1_strain_X1_apart rfl rfl rfl ks_X1_apart ⟨Nat.le_of_ble_eq_true rfl, Nat.le_of_ble_eq_true rfl⟩) (hP.sub [] rfl) (hK.sub [] rfl) rfl hl.1 rfl (Nat.le_of_ble_eq_true rfl) dX1_strain_20 (Nat.zero_le _) (Nat.zero_le _) hS (fun H locs hsm hS => ?_)
  have hP := hsm.P hP
  refine lv_aload_n hx hb dX1_strain_23 rfl (lv_at hl 0 rfl) ?_
  refine lv_iload_n hx hb dX1_strain_24 rfl (lv_at hl 1 rfl) ?_
  refine q_callV (As := [.int (nI g)]) (rest := [.int (x_ds (g0 (m_P g0 N g)) (g0 (m_P g0 N (g + 1))))]) ⟨hx, hb, hml, hown, hts⟩ (c_X1_coughsOf l D cI cZ ad th N pa pe g0 g1 g2 hN g (by omega)) (cwV 1 hts gX1_strain_X1_coughsOf rfl rfl rfl kv_X1_coughsOf ⟨Nat.le_of_ble_eq_true rfl, Nat.le_of_ble_eq_true rfl⟩) (va_recv hK hP (ci := 1) (q0 := 0) rfl rfl) hP hK rfl hl.1 rfl (Nat.le_of_ble_eq_true rfl) dX1_strain_25 (Nat.zero_le _) (Nat.zero_le _) hS (fun H locs hsm hS => ?_)
  have hP := hsm.P hP
  refine lv_iadd hx hb dX1_strain_28 ?_
  exact q_retI hx hb hr hlocks hS rfl dX1_strain_29

theorem kv_X1_areSame : yX1_areSame.cls = RX1 ∧ yX1_areSame.cls ≠ "java/lang/invoke/MethodHandle" ∧ yX1_areSame.cls ≠ "java/lang/invoke/VarHandle" ∧ (parseMethodDescriptor yX1_areSame.desc).map (fun d => d.parameters.length) = some 1 := by decide +kernel
theorem ks_X1_areSame : yX1_areSame.cls ≠ "java/lang/invoke/MethodHandle" ∧ yX1_areSame.cls ≠ "java/lang/invoke/VarHandle" ∧ (parseMethodDescriptor yX1_areSame.desc).map (fun d => d.parameters.length) = some 1 := kv_X1_areSame.2
set_option maxHeartbeats 4000000 in
set_option maxRecDepth 100000 in
theorem c_X1_areSame (l : Launch) (D : va_G) (cI cZ : ClassId) (ad : Nat → Nat) (th : Int32) (N : Nat) (pa pe : Int32) (g0 g1 g2 : Nat → Int32) (hN : N ≤ 24) (g : Nat) (hg : g + 1 < m_n g0 N) : q_I l yX1_areSame wsX1_areSame ({ frames := 2, cells := 0, slots := 0, locals := 44 } : Room) D ([(cI, .int), (cZ, .boolean)]) (mw cI cZ ad th (nI N) pa pe g0 g1 g2) [.ref (ad 0), .int (nI g)] (bI (m_sm g0 g1 N g)) := by
  refine q_startI (cc := cX1_areSame) (maxL := 2) (rt := .boolean) (by decide) rfl (Nat.le_of_ble_eq_true rfl) ?_
  intro p e s m below meth c hx hb hml hr hts hown hlocks hK H locs ls hP hS hl
  have hin : ∀ w ∈ wsX10, w ∈ wsX1_areSame := by decide +kernel
  have hl : lv_has ls 2 [(0, .ref (ad 0)), (1, .int (nI g))] := hl
  refine lv_aload_n hx hb dX1_areSame_0 rfl (lv_at hl 0 rfl) ?_
  refine va_get (D := D) (ci := 1) (v := .ref (ad 2)) (C := RX1) (T := TX1) (N := 7) hx hb hts hin hown hK hP 0 rfl rfl 5 (by decide) (hts (.fieldLink RX1 17 "SplicedTalkModel" "speaker" "[I") (by decide +kernel)) (fun _ h9 => h9) rfl dX1_areSame_1 ?_
  refine lv_aload_n hx hb dX1_areSame_4 rfl (lv_at hl 0 rfl) ?_
  refine lv_iload_n hx hb dX1_areSame_5 rfl (lv_at hl 1 rfl) ?_
  refine q_callV (As := [.int (nI g)]) (rest := [.ref (ad 2)]) ⟨hx, hb, hml, hown, hts⟩ (c_X1_from l D cI cZ ad th N pa pe g0 g1 g2 hN g (by omega)) (cwV 1 hts gX1_areSame_X1_from rfl rfl rfl kv_X1_from ⟨Nat.le_of_ble_eq_true rfl, Nat.le_of_ble_eq_true rfl⟩) (va_recv hK hP (ci := 1) (q0 := 0) rfl rfl) hP hK rfl hl.1 rfl (Nat.le_of_ble_eq_true rfl) dX1_areSame_6 (Nat.zero_le _) (Nat.zero_le _) hS (fun H locs hsm hS => ?_)
  have hP := hsm.P hP
  refine va_iald hx hb hK hP 2 0 rfl rfl (vp_in_nI (by have := hN; have := m_P_lt (g0 := g0) (N := N) (k := g) (by omega); omega) (by decide)) dX1_areSame_9 ?_
  rw [nI_clamp (by have := hN; have := m_P_lt (g0 := g0) (N := N) (k := g) (by omega); omega)]
  refine lv_aload_n hx hb dX1_areSame_10 rfl (lv_at hl 0 rfl) ?_
  refine va_get (D := D) (ci := 1) (v := .ref (ad 2)) (C := RX1) (T := TX1) (N := 7) hx hb hts hin hown hK hP 0 rfl rfl 5 (by decide) (hts (.fieldLink RX1 17 "SplicedTalkModel" "speaker" "[I") (by decide +kernel)) (fun _ h9 => h9) rfl dX1_areSame_11 ?_
  refine lv_aload_n hx hb dX1_areSame_14 rfl (lv_at hl 0 rfl) ?_
  refine lv_iload_n hx hb dX1_areSame_15 rfl (lv_at hl 1 rfl) ?_
  refine q_callV (As := [.int (nI g)]) (rest := [.ref (ad 2), .int (g1 (m_P g0 N g))]) ⟨hx, hb, hml, hown, hts⟩ (c_X1_to l D cI cZ ad th N pa pe g0 g1 g2 hN g (by omega)) (cwV 1 hts gX1_areSame_X1_to rfl rfl rfl kv_X1_to ⟨Nat.le_of_ble_eq_true rfl, Nat.le_of_ble_eq_true rfl⟩) (va_recv hK hP (ci := 1) (q0 := 0) rfl rfl) hP hK rfl hl.1 rfl (Nat.le_of_ble_eq_true rfl) dX1_areSame_16 (Nat.zero_le _) (Nat.zero_le _) hS (fun H locs hsm hS => ?_)
  have hP := hsm.P hP
  refine va_iald hx hb hK hP 2 0 rfl rfl (vp_in_nI (by have := hN; have := m_P_lt (g0 := g0) (N := N) (k := (g + 1)) (by omega); omega) (by decide)) dX1_areSame_19 ?_
  rw [nI_clamp (by have := hN; have := m_P_lt (g0 := g0) (N := N) (k := (g + 1)) (by omega); omega)]
  suffices K_20 : ∀ v9 : Int32, v9 = (bI (decide ((g1 (m_P g0 N g)) = (g1 (m_P g0 N (g + 1)))))) → W p l e ({ frames := 2, cells := 0, slots := 0, locals := 44 } : Room) s m [.ref (ad 0), .int (nI g)].toArray below meth c H locs 0 0 (q_EI below [.ref (ad 0), .int (nI g)].toArray s (bI (m_sm g0 g1 N g))) (F0 m 28 ls [.int v9]) from by
    refine lv_icmp_ne (tgt := 27) hx hb dX1_areSame_20 (by decide) (fun c_20 => ?_) (fun c_20 => ?_)
    · refine lv_iconst (v := 0) hx hb dX1_areSame_27 (by decide) ?_
      exact K_20 _ (bI_df c_20)
    · refine lv_iconst (v := 1) hx hb dX1_areSame_23 (by decide) ?_
      refine lv_goto (tgt := 28) hx hb dX1_areSame_24 (by decide) ?_
      exact K_20 _ (bI_dt c_20)
  intro v9 hv9
  rw [hv9]; clear hv9
  exact q_retZ hx hb hr hlocks hS rfl (bI_01 _) dX1_areSame_28

theorem kv_X1_isPoliteOr : yX1_isPoliteOr.cls = RX1 ∧ yX1_isPoliteOr.cls ≠ "java/lang/invoke/MethodHandle" ∧ yX1_isPoliteOr.cls ≠ "java/lang/invoke/VarHandle" ∧ (parseMethodDescriptor yX1_isPoliteOr.desc).map (fun d => d.parameters.length) = some 2 := by decide +kernel
theorem ks_X1_isPoliteOr : yX1_isPoliteOr.cls ≠ "java/lang/invoke/MethodHandle" ∧ yX1_isPoliteOr.cls ≠ "java/lang/invoke/VarHandle" ∧ (parseMethodDescriptor yX1_isPoliteOr.desc).map (fun d => d.parameters.length) = some 2 := kv_X1_isPoliteOr.2
set_option maxHeartbeats 4000000 in
set_option maxRecDepth 100000 in
theorem c_X1_isPoliteOr (l : Launch) (D : va_G) (x1 : Int32) (b2 : Bool) : q_I l yX1_isPoliteOr wsX1_isPoliteOr ({ frames := 0, cells := 0, slots := 0, locals := 0 } : Room) D ([]) ([]) [.int x1, .int (bI b2)] (bI (m_po x1 b2)) := by
  refine q_startI (cc := cX1_isPoliteOr) (maxL := 2) (rt := .boolean) (by decide) rfl (Nat.le_of_ble_eq_true rfl) ?_
  intro p e s m below meth c hx hb hml hr hts hown hlocks hK H locs ls hP hS hl
  have hl : lv_has ls 2 [(0, .int x1), (1, .int (bI b2))] := hl
  refine lv_iload_n hx hb dX1_isPoliteOr_0 rfl (lv_at hl 0 rfl) ?_
  refine lv_iconst (v := 2) hx hb dX1_isPoliteOr_1 (by decide) ?_
  refine lv_icmp_le (tgt := 14) hx hb dX1_isPoliteOr_2 (by decide) (fun c_2 => ?_) (fun c_2 => ?_)
  · refine lv_iconst (v := 1) hx hb dX1_isPoliteOr_14 (by decide) ?_
    refine lv_goto (tgt := 19) hx hb dX1_isPoliteOr_15 (by decide) ?_
    exact q_retZ hx hb hr hlocks hS (by unfold m_po; rw [decide_eq_true c_2]; rfl) (bI_01 _) dX1_isPoliteOr_19
  · refine lv_iload_n hx hb dX1_isPoliteOr_5 rfl (lv_at hl 1 rfl) ?_
    refine lv_if_eq (tgt := 18) hx hb dX1_isPoliteOr_6 (by decide) (fun c_6 => ?_) (fun c_6 => ?_)
    · refine lv_iconst (v := 0) hx hb dX1_isPoliteOr_18 (by decide) ?_
      exact q_retZ hx hb hr hlocks hS (by unfold m_po; rw [decide_eq_false c_2, bI_0.mp c_6]; rfl) (bI_01 _) dX1_isPoliteOr_19
    · refine lv_iload_n hx hb dX1_isPoliteOr_9 rfl (lv_at hl 0 rfl) ?_
      refine lv_iconst (v := 4) hx hb dX1_isPoliteOr_10 (by decide) ?_
      refine lv_icmp_gt (tgt := 18) hx hb dX1_isPoliteOr_11 (by decide) (fun c_11 => ?_) (fun c_11 => ?_)
      · refine lv_iconst (v := 0) hx hb dX1_isPoliteOr_18 (by decide) ?_
        exact q_retZ hx hb hr hlocks hS (by unfold m_po; rw [decide_eq_false c_2, bI_n0.mp c_6, decide_eq_false (Int32.not_le.mpr c_11)]; rfl) (bI_01 _) dX1_isPoliteOr_19
      · refine lv_iconst (v := 1) hx hb dX1_isPoliteOr_14 (by decide) ?_
        refine lv_goto (tgt := 19) hx hb dX1_isPoliteOr_15 (by decide) ?_
        exact q_retZ hx hb hr hlocks hS (by unfold m_po; rw [decide_eq_false c_2, bI_n0.mp c_6, decide_eq_true (Int32.not_lt.mp c_11)]; rfl) (bI_01 _) dX1_isPoliteOr_19

theorem kv_X1_smooth : yX1_smooth.cls = RX1 ∧ yX1_smooth.cls ≠ "java/lang/invoke/MethodHandle" ∧ yX1_smooth.cls ≠ "java/lang/invoke/VarHandle" ∧ (parseMethodDescriptor yX1_smooth.desc).map (fun d => d.parameters.length) = some 1 := by decide +kernel
theorem ks_X1_smooth : yX1_smooth.cls ≠ "java/lang/invoke/MethodHandle" ∧ yX1_smooth.cls ≠ "java/lang/invoke/VarHandle" ∧ (parseMethodDescriptor yX1_smooth.desc).map (fun d => d.parameters.length) = some 1 := kv_X1_smooth.2
set_option maxHeartbeats 4000000 in
set_option maxRecDepth 100000 in
theorem c_X1_smooth (l : Launch) (D : va_G) (cI cZ : ClassId) (ad : Nat → Nat) (th : Int32) (N : Nat) (pa pe : Int32) (g0 g1 g2 : Nat → Int32) (hN : N ≤ 24) (g : Nat) (hg : g + 1 < m_n g0 N) : q_I l yX1_smooth wsX1_smooth ({ frames := 4, cells := 0, slots := 0, locals := 86 } : Room) D ([(cI, .int), (cZ, .boolean)]) (mw cI cZ ad th (nI N) pa pe g0 g1 g2) [.ref (ad 0), .int (nI g)] (bI (m_so g0 g2 N g)) := by
  refine q_startI (cc := cX1_smooth) (maxL := 2) (rt := .boolean) (by decide) rfl (Nat.le_of_ble_eq_true rfl) ?_
  intro p e s m below meth c hx hb hml hr hts hown hlocks hK H locs ls hP hS hl
  have hin : ∀ w ∈ wsX10, w ∈ wsX1_smooth := by decide +kernel
  have hl : lv_has ls 2 [(0, .ref (ad 0)), (1, .int (nI g))] := hl
  refine lv_aload_n hx hb dX1_smooth_0 rfl (lv_at hl 0 rfl) ?_
  refine va_get (D := D) (ci := 1) (v := .ref (ad 3)) (C := RX1) (T := TX1) (N := 7) hx hb hts hin hown hK hP 0 rfl rfl 6 (by decide) (hts (.fieldLink RX1 20 "SplicedTalkModel" "tied" "[Z") (by decide +kernel)) (fun _ h9 => h9) rfl dX1_smooth_1 ?_
  refine lv_aload_n hx hb dX1_smooth_4 rfl (lv_at hl 0 rfl) ?_
  refine lv_iload_n hx hb dX1_smooth_5 rfl (lv_at hl 1 rfl) ?_
  refine q_callV (As := [.int (nI g)]) (rest := [.ref (ad 3)]) ⟨hx, hb, hml, hown, hts⟩ (c_X1_from l D cI cZ ad th N pa pe g0 g1 g2 hN g (by omega)) (cwV 1 hts gX1_smooth_X1_from rfl rfl rfl kv_X1_from ⟨Nat.le_of_ble_eq_true rfl, Nat.le_of_ble_eq_true rfl⟩) (va_recv hK hP (ci := 1) (q0 := 0) rfl rfl) hP hK rfl hl.1 rfl (Nat.le_of_ble_eq_true rfl) dX1_smooth_6 (Nat.zero_le _) (Nat.zero_le _) hS (fun H locs hsm hS => ?_)
  have hP := hsm.P hP
  refine va_zald hx hb hK hP 3 1 rfl rfl (vp_in_nI (by have := hN; have := m_P_lt (g0 := g0) (N := N) (k := g) (by omega); omega) (by decide)) dX1_smooth_9 ?_
  rw [nI_clamp (by have := hN; have := m_P_lt (g0 := g0) (N := N) (k := g) (by omega); omega)]
  refine lv_if_ne (tgt := 22) hx hb dX1_smooth_10 (by decide) (fun c_10 => ?_) (fun c_10 => ?_)
  · refine lv_iconst (v := 1) hx hb dX1_smooth_22 (by decide) ?_
    refine lv_goto (tgt := 27) hx hb dX1_smooth_23 (by decide) ?_
    exact q_retZ hx hb hr hlocks hS (by unfold m_so; rw [m_ti_1 c_10]; rfl) (bI_01 _) dX1_smooth_27
  · refine lv_aload_n hx hb dX1_smooth_13 rfl (lv_at hl 0 rfl) ?_
    refine lv_iload_n hx hb dX1_smooth_14 rfl (lv_at hl 1 rfl) ?_
    refine q_callV (As := [.int (nI g)]) (rest := []) ⟨hx, hb, hml, hown, hts⟩ (c_X1_strain l D cI cZ ad th N pa pe g0 g1 g2 hN g (by omega)) (cwV 1 hts gX1_smooth_X1_strain rfl rfl rfl kv_X1_strain ⟨Nat.le_of_ble_eq_true rfl, Nat.le_of_ble_eq_true rfl⟩) (va_recv hK hP (ci := 1) (q0 := 0) rfl rfl) hP hK rfl hl.1 rfl (Nat.le_of_ble_eq_true rfl) dX1_smooth_15 (Nat.zero_le _) (Nat.zero_le _) hS (fun H locs hsm hS => ?_)
    have hP := hsm.P hP
    refine lv_iconst (v := 1) hx hb dX1_smooth_18 (by decide) ?_
    refine lv_icmp_gt (tgt := 26) hx hb dX1_smooth_19 (by decide) (fun c_19 => ?_) (fun c_19 => ?_)
    · refine lv_iconst (v := 0) hx hb dX1_smooth_26 (by decide) ?_
      exact q_retZ hx hb hr hlocks hS (by unfold m_so; rw [m_ti_0 c_10, decide_eq_false (Int32.not_le.mpr c_19)]; rfl) (bI_01 _) dX1_smooth_27
    · refine lv_iconst (v := 1) hx hb dX1_smooth_22 (by decide) ?_
      refine lv_goto (tgt := 27) hx hb dX1_smooth_23 (by decide) ?_
      exact q_retZ hx hb hr hlocks hS (by unfold m_so; rw [m_ti_0 c_10, decide_eq_true (Int32.not_lt.mp c_19)]; rfl) (bI_01 _) dX1_smooth_27

theorem kv_X1_broken : yX1_broken.cls = RX1 ∧ yX1_broken.cls ≠ "java/lang/invoke/MethodHandle" ∧ yX1_broken.cls ≠ "java/lang/invoke/VarHandle" ∧ (parseMethodDescriptor yX1_broken.desc).map (fun d => d.parameters.length) = some 1 := by decide +kernel
theorem ks_X1_broken : yX1_broken.cls ≠ "java/lang/invoke/MethodHandle" ∧ yX1_broken.cls ≠ "java/lang/invoke/VarHandle" ∧ (parseMethodDescriptor yX1_broken.desc).map (fun d => d.parameters.length) = some 1 := kv_X1_broken.2
set_option maxHeartbeats 4000000 in
set_option maxRecDepth 100000 in
theorem c_X1_broken (l : Launch) (D : va_G) (cI cZ : ClassId) (ad : Nat → Nat) (th : Int32) (N : Nat) (pa pe : Int32) (g0 g1 g2 : Nat → Int32) (hN : N ≤ 24) (g : Nat) (hg : g + 1 < m_n g0 N) : q_I l yX1_broken wsX1_broken ({ frames := 4, cells := 0, slots := 0, locals := 86 } : Room) D ([(cI, .int), (cZ, .boolean)]) (mw cI cZ ad th (nI N) pa pe g0 g1 g2) [.ref (ad 0), .int (nI g)] (bI (m_br g0 g1 g2 N g)) := by
  refine q_startI (cc := cX1_broken) (maxL := 2) (rt := .boolean) (by decide) rfl (Nat.le_of_ble_eq_true rfl) ?_
  intro p e s m below meth c hx hb hml hr hts hown hlocks hK H locs ls hP hS hl
  have hin : ∀ w ∈ wsX10, w ∈ wsX1_broken := by decide +kernel
  have hl : lv_has ls 2 [(0, .ref (ad 0)), (1, .int (nI g))] := hl
  refine lv_aload_n hx hb dX1_broken_0 rfl (lv_at hl 0 rfl) ?_
  refine va_get (D := D) (ci := 1) (v := .ref (ad 3)) (C := RX1) (T := TX1) (N := 7) hx hb hts hin hown hK hP 0 rfl rfl 6 (by decide) (hts (.fieldLink RX1 20 "SplicedTalkModel" "tied" "[Z") (by decide +kernel)) (fun _ h9 => h9) rfl dX1_broken_1 ?_
  refine lv_aload_n hx hb dX1_broken_4 rfl (lv_at hl 0 rfl) ?_
  refine lv_iload_n hx hb dX1_broken_5 rfl (lv_at hl 1 rfl) ?_
  refine q_callV (As := [.int (nI g)]) (rest := [.ref (ad 3)]) ⟨hx, hb, hml, hown, hts⟩ (c_X1_from l D cI cZ ad th N pa pe g0 g1 g2 hN g (by omega)) (cwV 1 hts gX1_broken_X1_from rfl rfl rfl kv_X1_from ⟨Nat.le_of_ble_eq_true rfl, Nat.le_of_ble_eq_true rfl⟩) (va_recv hK hP (ci := 1) (q0 := 0) rfl rfl) hP hK rfl hl.1 rfl (Nat.le_of_ble_eq_true rfl) dX1_broken_6 (Nat.zero_le _) (Nat.zero_le _) hS (fun H locs hsm hS => ?_)
  have hP := hsm.P hP
  refine va_zald hx hb hK hP 3 1 rfl rfl (vp_in_nI (by have := hN; have := m_P_lt (g0 := g0) (N := N) (k := g) (by omega); omega) (by decide)) dX1_broken_9 ?_
  rw [nI_clamp (by have := hN; have := m_P_lt (g0 := g0) (N := N) (k := g) (by omega); omega)]
  refine lv_if_ne (tgt := 33) hx hb dX1_broken_10 (by decide) (fun c_10 => ?_) (fun c_10 => ?_)
  · refine lv_iconst (v := 0) hx hb dX1_broken_33 (by decide) ?_
    exact q_retZ hx hb hr hlocks hS (by unfold m_br; rw [m_ti_1 c_10]; rfl) (bI_01 _) dX1_broken_34
  · refine lv_aload_n hx hb dX1_broken_13 rfl (lv_at hl 0 rfl) ?_
    refine lv_iload_n hx hb dX1_broken_14 rfl (lv_at hl 1 rfl) ?_
    refine q_callV (As := [.int (nI g)]) (rest := []) ⟨hx, hb, hml, hown, hts⟩ (c_X1_strain l D cI cZ ad th N pa pe g0 g1 g2 hN g (by omega)) (cwV 1 hts gX1_broken_X1_strain rfl rfl rfl kv_X1_strain ⟨Nat.le_of_ble_eq_true rfl, Nat.le_of_ble_eq_true rfl⟩) (va_recv hK hP (ci := 1) (q0 := 0) rfl rfl) hP hK rfl hl.1 rfl (Nat.le_of_ble_eq_true rfl) dX1_broken_15 (Nat.zero_le _) (Nat.zero_le _) hS (fun H locs hsm hS => ?_)
    have hP := hsm.P hP
    refine lv_aload_n hx hb dX1_broken_18 rfl (lv_at hl 0 rfl) ?_
    refine lv_iload_n hx hb dX1_broken_19 rfl (lv_at hl 1 rfl) ?_
    refine q_callV (As := [.int (nI g)]) (rest := [.int (m_st g0 N g)]) ⟨hx, hb, hml, hown, hts⟩ (c_X1_areSame l D cI cZ ad th N pa pe g0 g1 g2 hN g (by omega)) (cwV 1 hts gX1_broken_X1_areSame rfl rfl rfl kv_X1_areSame ⟨Nat.le_of_ble_eq_true rfl, Nat.le_of_ble_eq_true rfl⟩) (va_recv hK hP (ci := 1) (q0 := 0) rfl rfl) hP hK rfl hl.1 rfl (Nat.le_of_ble_eq_true rfl) dX1_broken_20 (Nat.zero_le _) (Nat.zero_le _) hS (fun H locs hsm hS => ?_)
    have hP := hsm.P hP
    refine q_callS (As := [.int (m_st g0 N g), .int (bI (m_sm g0 g1 N g))]) (rest := []) ⟨hx, hb, hml, hown, hts⟩ (c_X1_isPoliteOr l D (m_st g0 N g) (m_sm g0 g1 N g)) (va_cwS 2 hts gX1_broken_X1_isPoliteOr rfl rfl rfl ks_X1_isPoliteOr ⟨Nat.le_of_ble_eq_true rfl, Nat.le_of_ble_eq_true rfl⟩) (hP.sub [] rfl) (hK.sub [] rfl) rfl hl.1 rfl (Nat.le_of_ble_eq_true rfl) dX1_broken_23 (Nat.zero_le _) (Nat.zero_le _) hS (fun H locs hsm hS => ?_)
    have hP := hsm.P hP
    refine lv_if_ne (tgt := 33) hx hb dX1_broken_26 (by decide) (fun c_26 => ?_) (fun c_26 => ?_)
    · refine lv_iconst (v := 0) hx hb dX1_broken_33 (by decide) ?_
      exact q_retZ hx hb hr hlocks hS (by unfold m_br; rw [m_ti_0 c_10, bI_n0.mp c_26]; rfl) (bI_01 _) dX1_broken_34
    · refine lv_iconst (v := 1) hx hb dX1_broken_29 (by decide) ?_
      refine lv_goto (tgt := 34) hx hb dX1_broken_30 (by decide) ?_
      exact q_retZ hx hb hr hlocks hS (by unfold m_br; rw [m_ti_0 c_10, bI_0.mp c_26]; rfl) (bI_01 _) dX1_broken_34

theorem kv_X1_allBroken : yX1_allBroken.cls = RX1 ∧ yX1_allBroken.cls ≠ "java/lang/invoke/MethodHandle" ∧ yX1_allBroken.cls ≠ "java/lang/invoke/VarHandle" ∧ (parseMethodDescriptor yX1_allBroken.desc).map (fun d => d.parameters.length) = some 0 := by decide +kernel
theorem ks_X1_allBroken : yX1_allBroken.cls ≠ "java/lang/invoke/MethodHandle" ∧ yX1_allBroken.cls ≠ "java/lang/invoke/VarHandle" ∧ (parseMethodDescriptor yX1_allBroken.desc).map (fun d => d.parameters.length) = some 0 := kv_X1_allBroken.2
set_option maxHeartbeats 4000000 in
set_option maxRecDepth 100000 in
theorem c_X1_allBroken (l : Launch) (D : va_G) (cI cZ : ClassId) (ad : Nat → Nat) (th : Int32) (N : Nat) (pa pe : Int32) (g0 g1 g2 : Nat → Int32) (hN : N ≤ 24) : q_I l yX1_allBroken wsX1_allBroken ({ frames := 5, cells := 0, slots := 0, locals := 107 } : Room) D ([(cI, .int), (cZ, .boolean)]) (mw cI cZ ad th (nI N) pa pe g0 g1 g2) [.ref (ad 0)] (nI (m_ab g0 g1 g2 N)) := by
  refine q_startI (cc := cX1_allBroken) (maxL := 3) (rt := .int) (by decide) rfl (Nat.le_of_ble_eq_true rfl) ?_
  intro p e s m below meth c hx hb hml hr hts hown hlocks hK H locs ls hP hS hl
  have hin : ∀ w ∈ wsX10, w ∈ wsX1_allBroken := by decide +kernel
  have hl : lv_has ls 3 [(0, .ref (ad 0))] := hl
  have hm := m_n_le g0 N
  refine lv_iconst (v := 0) hx hb dX1_allBroken_0 (by decide) ?_
  refine lv_istore_n (lv' := [(1, .int 0), (0, .ref (ad 0))]) hx hb dX1_allBroken_1 rfl hl (by decide) rfl (fun ls hl => ?_)
  refine lv_iconst (v := 0) hx hb dX1_allBroken_2 (by decide) ?_
  refine lv_istore_n (lv' := [(2, .int 0), (1, .int 0), (0, .ref (ad 0))]) hx hb dX1_allBroken_3 rfl hl (by decide) rfl (fun ls hl => ?_)
  have lo_4 : ∀ (fu i : Nat), (m_n g0 N - 1) - i < fu → i ≤ (m_n g0 N - 1) → ∀ (H : Heap) (locs : List Loc) (ls : Array Slot), va_P D vwCl (mw cI cZ ad th (nI N) pa pe g0 g1 g2) H → va_S q_no s.heap H locs → lv_has ls 3 [(1, .int (nI (ct (m_br g0 g1 g2 N) i))), (2, .int (nI i)), (0, .ref (ad 0))] → W p l e ({ frames := 5, cells := 0, slots := 0, locals := 107 } : Room) s m [.ref (ad 0)].toArray below meth c H locs 0 0 (q_EI below [.ref (ad 0)].toArray s (nI (m_ab g0 g1 g2 N))) (F0 m 4 ls []) := by
    intro fu
    induction fu with
    | zero => intro i hi; exact absurd hi (Nat.not_lt_zero _)
    | succ fu ih =>
      intro i hi hiN H locs ls hP hS hl
      refine lv_iload_n hx hb dX1_allBroken_4 rfl (lv_at hl 1 rfl) ?_
      refine lv_aload_n hx hb dX1_allBroken_5 rfl (lv_at hl 2 rfl) ?_
      refine q_callV (As := []) (rest := [.int (nI i)]) ⟨hx, hb, hml, hown, hts⟩ (c_X1_many l D cI cZ ad th N pa pe g0 g1 g2 hN) (cwV 0 hts gX1_allBroken_X1_many rfl rfl rfl kv_X1_many ⟨Nat.le_of_ble_eq_true rfl, Nat.le_of_ble_eq_true rfl⟩) (va_recv hK hP (ci := 1) (q0 := 0) rfl rfl) hP hK rfl hl.1 rfl (Nat.le_of_ble_eq_true rfl) dX1_allBroken_6 (Nat.zero_le _) (Nat.zero_le _) hS (fun H locs hsm hS => ?_)
      have hP := hsm.P hP
      refine lv_iconst (v := 1) hx hb dX1_allBroken_9 (by decide) ?_
      refine lv_isub hx hb dX1_allBroken_10 ?_
      refine lv_icmp_ge (tgt := 36) hx hb dX1_allBroken_11 (by decide) (fun c_11 => ?_) (fun c_11 => ?_)
      · have hi9 := m_gt (by omega) hiN c_11
        refine lv_iload_n hx hb dX1_allBroken_36 rfl (lv_at hl 0 rfl) ?_
        exact q_retI hx hb hr hlocks hS (by rw [hi9]; rfl) dX1_allBroken_37
      · have hi9 := m_gf (by omega) hiN c_11
        refine lv_iload_n hx hb dX1_allBroken_14 rfl (lv_at hl 0 rfl) ?_
        refine lv_aload_n hx hb dX1_allBroken_15 rfl (lv_at hl 2 rfl) ?_
        refine lv_iload_n hx hb dX1_allBroken_16 rfl (lv_at hl 1 rfl) ?_
        refine q_callV (As := [.int (nI i)]) (rest := [.int (nI (ct (m_br g0 g1 g2 N) i))]) ⟨hx, hb, hml, hown, hts⟩ (c_X1_broken l D cI cZ ad th N pa pe g0 g1 g2 hN i (by omega)) (cwV 1 hts gX1_allBroken_X1_broken rfl rfl rfl kv_X1_broken ⟨Nat.le_of_ble_eq_true rfl, Nat.le_of_ble_eq_true rfl⟩) (va_recv hK hP (ci := 1) (q0 := 0) rfl rfl) hP hK rfl hl.1 rfl (Nat.le_of_ble_eq_true rfl) dX1_allBroken_17 (Nat.zero_le _) (Nat.zero_le _) hS (fun H locs hsm hS => ?_)
        have hP := hsm.P hP
        suffices K_20 : ∀ v9 : Int32, v9 = (bI (m_br g0 g1 g2 N i)) → W p l e ({ frames := 5, cells := 0, slots := 0, locals := 107 } : Room) s m [.ref (ad 0)].toArray below meth c H locs 0 0 (q_EI below [.ref (ad 0)].toArray s (nI (m_ab g0 g1 g2 N))) (F0 m 28 ls [.int v9, .int (nI (ct (m_br g0 g1 g2 N) i))]) from by
          refine lv_if_eq (tgt := 27) hx hb dX1_allBroken_20 (by decide) (fun c_20 => ?_) (fun c_20 => ?_)
          · refine lv_iconst (v := 0) hx hb dX1_allBroken_27 (by decide) ?_
            exact K_20 _ (by rw [bI_0.mp c_20]; rfl)
          · refine lv_iconst (v := 1) hx hb dX1_allBroken_23 (by decide) ?_
            refine lv_goto (tgt := 28) hx hb dX1_allBroken_24 (by decide) ?_
            exact K_20 _ (by rw [bI_n0.mp c_20]; rfl)
        intro v9 hv9
        rw [hv9]; clear hv9
        refine lv_iadd hx hb dX1_allBroken_28 ?_
        refine lv_istore_n (lv' := [(1, .int ((nI (ct (m_br g0 g1 g2 N) i)) + (bI (m_br g0 g1 g2 N i)))), (2, .int (nI i)), (0, .ref (ad 0))]) hx hb dX1_allBroken_29 rfl hl (by decide) rfl (fun ls hl => ?_)
        refine lv_iinc (v := ((nI i) + 1)) (lv' := [(2, .int ((nI i) + 1)), (1, .int ((nI (ct (m_br g0 g1 g2 N) i)) + (bI (m_br g0 g1 g2 N i)))), (0, .ref (ad 0))]) hx hb dX1_allBroken_30 hl (k := 1) rfl (by rfl) (by decide) rfl (fun ls hl => ?_)
        refine lv_goto (tgt := 4) hx hb dX1_allBroken_33 (by decide) ?_
        have e_1 : (((nI (ct (m_br g0 g1 g2 N) i)) + (bI (m_br g0 g1 g2 N i))) : Int32) = (nI (ct (m_br g0 g1 g2 N) (i + 1))) := (bI_ct (m_br g0 g1 g2 N) i)
        have e_2 : (((nI i) + 1) : Int32) = (nI (i + 1)) := nI_1 i
        exact ih (i + 1) (by omega) (by omega) H locs ls hP hS (lv_eq (lv_sub (l' := [(1, .int ((nI (ct (m_br g0 g1 g2 N) i)) + (bI (m_br g0 g1 g2 N i)))), (2, .int ((nI i) + 1)), (0, .ref (ad 0))]) hl [1, 0, 2] rfl) (by rw [e_1, e_2]))
  exact lo_4 ((m_n g0 N - 1) + 1) 0 (by omega) (by omega) H locs ls hP hS (lv_sub hl [1, 0, 2] rfl)

theorem kv_X1_allPolite : yX1_allPolite.cls = RX1 ∧ yX1_allPolite.cls ≠ "java/lang/invoke/MethodHandle" ∧ yX1_allPolite.cls ≠ "java/lang/invoke/VarHandle" ∧ (parseMethodDescriptor yX1_allPolite.desc).map (fun d => d.parameters.length) = some 0 := by decide +kernel
theorem ks_X1_allPolite : yX1_allPolite.cls ≠ "java/lang/invoke/MethodHandle" ∧ yX1_allPolite.cls ≠ "java/lang/invoke/VarHandle" ∧ (parseMethodDescriptor yX1_allPolite.desc).map (fun d => d.parameters.length) = some 0 := kv_X1_allPolite.2
set_option maxHeartbeats 4000000 in
set_option maxRecDepth 100000 in
theorem c_X1_allPolite (l : Launch) (D : va_G) (cI cZ : ClassId) (ad : Nat → Nat) (th : Int32) (N : Nat) (pa pe : Int32) (g0 g1 g2 : Nat → Int32) (hN : N ≤ 24) : q_I l yX1_allPolite wsX1_allPolite ({ frames := 5, cells := 0, slots := 0, locals := 107 } : Room) D ([(cI, .int), (cZ, .boolean)]) (mw cI cZ ad th (nI N) pa pe g0 g1 g2) [.ref (ad 0)] (nI (m_ap g0 g1 g2 N)) := by
  refine q_startI (cc := cX1_allPolite) (maxL := 3) (rt := .int) (by decide) rfl (Nat.le_of_ble_eq_true rfl) ?_
  intro p e s m below meth c hx hb hml hr hts hown hlocks hK H locs ls hP hS hl
  have hin : ∀ w ∈ wsX10, w ∈ wsX1_allPolite := by decide +kernel
  have hl : lv_has ls 3 [(0, .ref (ad 0))] := hl
  have hm := m_n_le g0 N
  refine lv_iconst (v := 0) hx hb dX1_allPolite_0 (by decide) ?_
  refine lv_istore_n (lv' := [(1, .int 0), (0, .ref (ad 0))]) hx hb dX1_allPolite_1 rfl hl (by decide) rfl (fun ls hl => ?_)
  refine lv_iconst (v := 0) hx hb dX1_allPolite_2 (by decide) ?_
  refine lv_istore_n (lv' := [(2, .int 0), (1, .int 0), (0, .ref (ad 0))]) hx hb dX1_allPolite_3 rfl hl (by decide) rfl (fun ls hl => ?_)
  have lo_4 : ∀ (fu i : Nat), (m_n g0 N - 1) - i < fu → i ≤ (m_n g0 N - 1) → ∀ (H : Heap) (locs : List Loc) (ls : Array Slot), va_P D vwCl (mw cI cZ ad th (nI N) pa pe g0 g1 g2) H → va_S q_no s.heap H locs → lv_has ls 3 [(1, .int (nI (ct (fun g => !m_br g0 g1 g2 N g && !m_so g0 g2 N g) i))), (2, .int (nI i)), (0, .ref (ad 0))] → W p l e ({ frames := 5, cells := 0, slots := 0, locals := 107 } : Room) s m [.ref (ad 0)].toArray below meth c H locs 0 0 (q_EI below [.ref (ad 0)].toArray s (nI (m_ap g0 g1 g2 N))) (F0 m 4 ls []) := by
    intro fu
    induction fu with
    | zero => intro i hi; exact absurd hi (Nat.not_lt_zero _)
    | succ fu ih =>
      intro i hi hiN H locs ls hP hS hl
      refine lv_iload_n hx hb dX1_allPolite_4 rfl (lv_at hl 1 rfl) ?_
      refine lv_aload_n hx hb dX1_allPolite_5 rfl (lv_at hl 2 rfl) ?_
      refine q_callV (As := []) (rest := [.int (nI i)]) ⟨hx, hb, hml, hown, hts⟩ (c_X1_many l D cI cZ ad th N pa pe g0 g1 g2 hN) (cwV 0 hts gX1_allPolite_X1_many rfl rfl rfl kv_X1_many ⟨Nat.le_of_ble_eq_true rfl, Nat.le_of_ble_eq_true rfl⟩) (va_recv hK hP (ci := 1) (q0 := 0) rfl rfl) hP hK rfl hl.1 rfl (Nat.le_of_ble_eq_true rfl) dX1_allPolite_6 (Nat.zero_le _) (Nat.zero_le _) hS (fun H locs hsm hS => ?_)
      have hP := hsm.P hP
      refine lv_iconst (v := 1) hx hb dX1_allPolite_9 (by decide) ?_
      refine lv_isub hx hb dX1_allPolite_10 ?_
      refine lv_icmp_ge (tgt := 44) hx hb dX1_allPolite_11 (by decide) (fun c_11 => ?_) (fun c_11 => ?_)
      · have hi9 := m_gt (by omega) hiN c_11
        refine lv_iload_n hx hb dX1_allPolite_44 rfl (lv_at hl 0 rfl) ?_
        exact q_retI hx hb hr hlocks hS (by rw [hi9]; rfl) dX1_allPolite_45
      · have hi9 := m_gf (by omega) hiN c_11
        refine lv_iload_n hx hb dX1_allPolite_14 rfl (lv_at hl 0 rfl) ?_
        refine lv_aload_n hx hb dX1_allPolite_15 rfl (lv_at hl 2 rfl) ?_
        refine lv_iload_n hx hb dX1_allPolite_16 rfl (lv_at hl 1 rfl) ?_
        refine q_callV (As := [.int (nI i)]) (rest := [.int (nI (ct (fun g => !m_br g0 g1 g2 N g && !m_so g0 g2 N g) i))]) ⟨hx, hb, hml, hown, hts⟩ (c_X1_broken l D cI cZ ad th N pa pe g0 g1 g2 hN i (by omega)) (cwV 1 hts gX1_allPolite_X1_broken rfl rfl rfl kv_X1_broken ⟨Nat.le_of_ble_eq_true rfl, Nat.le_of_ble_eq_true rfl⟩) (va_recv hK hP (ci := 1) (q0 := 0) rfl rfl) hP hK rfl hl.1 rfl (Nat.le_of_ble_eq_true rfl) dX1_allPolite_17 (Nat.zero_le _) (Nat.zero_le _) hS (fun H locs hsm hS => ?_)
        have hP := hsm.P hP
        refine lv_if_ne (tgt := 31) hx hb dX1_allPolite_20 (by decide) (fun c_20 => ?_) (fun c_20 => ?_)
        · refine lv_iconst (v := 0) hx hb dX1_allPolite_31 (by decide) ?_
          refine lv_goto (tgt := 36) hx hb dX1_allPolite_32 (by decide) ?_
          refine lv_iadd hx hb dX1_allPolite_36 ?_
          refine lv_istore_n (lv' := [(1, .int ((nI (ct (fun g => !m_br g0 g1 g2 N g && !m_so g0 g2 N g) i)) + 0)), (2, .int (nI i)), (0, .ref (ad 0))]) hx hb dX1_allPolite_37 rfl hl (by decide) rfl (fun ls hl => ?_)
          refine lv_iinc (v := ((nI i) + 1)) (lv' := [(2, .int ((nI i) + 1)), (1, .int ((nI (ct (fun g => !m_br g0 g1 g2 N g && !m_so g0 g2 N g) i)) + 0)), (0, .ref (ad 0))]) hx hb dX1_allPolite_38 hl (k := 1) rfl (by rfl) (by decide) rfl (fun ls hl => ?_)
          refine lv_goto (tgt := 4) hx hb dX1_allPolite_41 (by decide) ?_
          have e_1 : (((nI (ct (fun g => !m_br g0 g1 g2 N g && !m_so g0 g2 N g) i)) + 0) : Int32) = (nI (ct (fun g => !m_br g0 g1 g2 N g && !m_so g0 g2 N g) (i + 1))) := (by rw [ct_f (by rw [bI_n0.mp c_20]; exact Bool.false_ne_true), Int32.add_zero])
          have e_2 : (((nI i) + 1) : Int32) = (nI (i + 1)) := nI_1 i
          exact ih (i + 1) (by omega) (by omega) H locs ls hP hS (lv_eq (lv_sub (l' := [(1, .int ((nI (ct (fun g => !m_br g0 g1 g2 N g && !m_so g0 g2 N g) i)) + 0)), (2, .int ((nI i) + 1)), (0, .ref (ad 0))]) hl [1, 0, 2] rfl) (by rw [e_1, e_2]))
        · refine lv_aload_n hx hb dX1_allPolite_23 rfl (lv_at hl 2 rfl) ?_
          refine lv_iload_n hx hb dX1_allPolite_24 rfl (lv_at hl 1 rfl) ?_
          refine q_callV (As := [.int (nI i)]) (rest := [.int (nI (ct (fun g => !m_br g0 g1 g2 N g && !m_so g0 g2 N g) i))]) ⟨hx, hb, hml, hown, hts⟩ (c_X1_smooth l D cI cZ ad th N pa pe g0 g1 g2 hN i (by omega)) (cwV 1 hts gX1_allPolite_X1_smooth rfl rfl rfl kv_X1_smooth ⟨Nat.le_of_ble_eq_true rfl, Nat.le_of_ble_eq_true rfl⟩) (va_recv hK hP (ci := 1) (q0 := 0) rfl rfl) hP hK rfl hl.1 rfl (Nat.le_of_ble_eq_true rfl) dX1_allPolite_25 (Nat.zero_le _) (Nat.zero_le _) hS (fun H locs hsm hS => ?_)
          have hP := hsm.P hP
          refine lv_if_eq (tgt := 35) hx hb dX1_allPolite_28 (by decide) (fun c_28 => ?_) (fun c_28 => ?_)
          · refine lv_iconst (v := 1) hx hb dX1_allPolite_35 (by decide) ?_
            refine lv_iadd hx hb dX1_allPolite_36 ?_
            refine lv_istore_n (lv' := [(1, .int ((nI (ct (fun g => !m_br g0 g1 g2 N g && !m_so g0 g2 N g) i)) + 1)), (2, .int (nI i)), (0, .ref (ad 0))]) hx hb dX1_allPolite_37 rfl hl (by decide) rfl (fun ls hl => ?_)
            refine lv_iinc (v := ((nI i) + 1)) (lv' := [(2, .int ((nI i) + 1)), (1, .int ((nI (ct (fun g => !m_br g0 g1 g2 N g && !m_so g0 g2 N g) i)) + 1)), (0, .ref (ad 0))]) hx hb dX1_allPolite_38 hl (k := 1) rfl (by rfl) (by decide) rfl (fun ls hl => ?_)
            refine lv_goto (tgt := 4) hx hb dX1_allPolite_41 (by decide) ?_
            have e_1 : (((nI (ct (fun g => !m_br g0 g1 g2 N g && !m_so g0 g2 N g) i)) + 1) : Int32) = (nI (ct (fun g => !m_br g0 g1 g2 N g && !m_so g0 g2 N g) (i + 1))) := (by rw [ct_t (by rw [bI_0.mp c_20, bI_0.mp c_28]; rfl), nI_1])
            have e_2 : (((nI i) + 1) : Int32) = (nI (i + 1)) := nI_1 i
            exact ih (i + 1) (by omega) (by omega) H locs ls hP hS (lv_eq (lv_sub (l' := [(1, .int ((nI (ct (fun g => !m_br g0 g1 g2 N g && !m_so g0 g2 N g) i)) + 1)), (2, .int ((nI i) + 1)), (0, .ref (ad 0))]) hl [1, 0, 2] rfl) (by rw [e_1, e_2]))
          · refine lv_iconst (v := 0) hx hb dX1_allPolite_31 (by decide) ?_
            refine lv_goto (tgt := 36) hx hb dX1_allPolite_32 (by decide) ?_
            refine lv_iadd hx hb dX1_allPolite_36 ?_
            refine lv_istore_n (lv' := [(1, .int ((nI (ct (fun g => !m_br g0 g1 g2 N g && !m_so g0 g2 N g) i)) + 0)), (2, .int (nI i)), (0, .ref (ad 0))]) hx hb dX1_allPolite_37 rfl hl (by decide) rfl (fun ls hl => ?_)
            refine lv_iinc (v := ((nI i) + 1)) (lv' := [(2, .int ((nI i) + 1)), (1, .int ((nI (ct (fun g => !m_br g0 g1 g2 N g && !m_so g0 g2 N g) i)) + 0)), (0, .ref (ad 0))]) hx hb dX1_allPolite_38 hl (k := 1) rfl (by rfl) (by decide) rfl (fun ls hl => ?_)
            refine lv_goto (tgt := 4) hx hb dX1_allPolite_41 (by decide) ?_
            have e_1 : (((nI (ct (fun g => !m_br g0 g1 g2 N g && !m_so g0 g2 N g) i)) + 0) : Int32) = (nI (ct (fun g => !m_br g0 g1 g2 N g && !m_so g0 g2 N g) (i + 1))) := (by rw [ct_f (by rw [bI_n0.mp c_28, Bool.not_true, Bool.and_false]; exact Bool.false_ne_true), Int32.add_zero])
            have e_2 : (((nI i) + 1) : Int32) = (nI (i + 1)) := nI_1 i
            exact ih (i + 1) (by omega) (by omega) H locs ls hP hS (lv_eq (lv_sub (l' := [(1, .int ((nI (ct (fun g => !m_br g0 g1 g2 N g && !m_so g0 g2 N g) i)) + 0)), (2, .int ((nI i) + 1)), (0, .ref (ad 0))]) hl [1, 0, 2] rfl) (by rw [e_1, e_2]))
  exact lo_4 ((m_n g0 N - 1) + 1) 0 (by omega) (by omega) H locs ls hP hS (lv_sub hl [1, 0, 2] rfl)

theorem kv_X1_threadsNow : yX1_threadsNow.cls = RX1 ∧ yX1_threadsNow.cls ≠ "java/lang/invoke/MethodHandle" ∧ yX1_threadsNow.cls ≠ "java/lang/invoke/VarHandle" ∧ (parseMethodDescriptor yX1_threadsNow.desc).map (fun d => d.parameters.length) = some 0 := by decide +kernel
theorem ks_X1_threadsNow : yX1_threadsNow.cls ≠ "java/lang/invoke/MethodHandle" ∧ yX1_threadsNow.cls ≠ "java/lang/invoke/VarHandle" ∧ (parseMethodDescriptor yX1_threadsNow.desc).map (fun d => d.parameters.length) = some 0 := kv_X1_threadsNow.2
set_option maxHeartbeats 4000000 in
set_option maxRecDepth 100000 in
theorem c_X1_threadsNow (l : Launch) (D : va_G) (cI cZ : ClassId) (ad : Nat → Nat) (th : Int32) (N : Nat) (pa pe : Int32) (g0 g1 g2 : Nat → Int32) (hN : N ≤ 24) : q_I l yX1_threadsNow wsX1_threadsNow ({ frames := 6, cells := 0, slots := 0, locals := 129 } : Room) D ([(cI, .int), (cZ, .boolean)]) (mw cI cZ ad th (nI N) pa pe g0 g1 g2) [.ref (ad 0)] (nI (m_tn g0 g1 g2 N)) := by
  refine q_startI (cc := cX1_threadsNow) (maxL := 1) (rt := .int) (by decide) rfl (Nat.le_of_ble_eq_true rfl) ?_
  intro p e s m below meth c hx hb hml hr hts hown hlocks hK H locs ls hP hS hl
  have hin : ∀ w ∈ wsX10, w ∈ wsX1_threadsNow := by decide +kernel
  have hl : lv_has ls 1 [(0, .ref (ad 0))] := hl
  have hm := m_n_le g0 N
  refine lv_aload_n hx hb dX1_threadsNow_0 rfl (lv_at hl 0 rfl) ?_
  refine q_callV (As := []) (rest := []) ⟨hx, hb, hml, hown, hts⟩ (c_X1_many l D cI cZ ad th N pa pe g0 g1 g2 hN) (cwV 0 hts gX1_threadsNow_X1_many rfl rfl rfl kv_X1_many ⟨Nat.le_of_ble_eq_true rfl, Nat.le_of_ble_eq_true rfl⟩) (va_recv hK hP (ci := 1) (q0 := 0) rfl rfl) hP hK rfl hl.1 rfl (Nat.le_of_ble_eq_true rfl) dX1_threadsNow_1 (Nat.zero_le _) (Nat.zero_le _) hS (fun H locs hsm hS => ?_)
  have hP := hsm.P hP
  refine lv_if_ne (tgt := 11) hx hb dX1_threadsNow_4 (by decide) (fun c_4 => ?_) (fun c_4 => ?_)
  · refine lv_aload_n hx hb dX1_threadsNow_11 rfl (lv_at hl 0 rfl) ?_
    refine q_callV (As := []) (rest := []) ⟨hx, hb, hml, hown, hts⟩ (c_X1_allBroken l D cI cZ ad th N pa pe g0 g1 g2 hN) (cwV 0 hts gX1_threadsNow_X1_allBroken rfl rfl rfl kv_X1_allBroken ⟨Nat.le_of_ble_eq_true rfl, Nat.le_of_ble_eq_true rfl⟩) (va_recv hK hP (ci := 1) (q0 := 0) rfl rfl) hP hK rfl hl.1 rfl (Nat.le_of_ble_eq_true rfl) dX1_threadsNow_12 (Nat.zero_le _) (Nat.zero_le _) hS (fun H locs hsm hS => ?_)
    have hP := hsm.P hP
    refine lv_iconst (v := 1) hx hb dX1_threadsNow_15 (by decide) ?_
    refine lv_iadd hx hb dX1_threadsNow_16 ?_
    exact q_retI hx hb hr hlocks hS (by unfold m_tn; rw [if_neg (fun h => c_4 (by rw [h]; rfl)), nI_1]) dX1_threadsNow_17
  · refine lv_iconst (v := 0) hx hb dX1_threadsNow_7 (by decide) ?_
    refine lv_goto (tgt := 17) hx hb dX1_threadsNow_8 (by decide) ?_
    exact q_retI hx hb hr hlocks hS (by unfold m_tn; rw [if_pos (nI_z (by omega) c_4)]; rfl) dX1_threadsNow_17

theorem kv_X1_half : yX1_half.cls = RX1 ∧ yX1_half.cls ≠ "java/lang/invoke/MethodHandle" ∧ yX1_half.cls ≠ "java/lang/invoke/VarHandle" ∧ (parseMethodDescriptor yX1_half.desc).map (fun d => d.parameters.length) = some 2 := by decide +kernel
theorem ks_X1_half : yX1_half.cls ≠ "java/lang/invoke/MethodHandle" ∧ yX1_half.cls ≠ "java/lang/invoke/VarHandle" ∧ (parseMethodDescriptor yX1_half.desc).map (fun d => d.parameters.length) = some 2 := kv_X1_half.2
set_option maxHeartbeats 4000000 in
set_option maxRecDepth 100000 in
theorem c_X1_half (l : Launch) (D : va_G) (x1 : Int32) (x2 : Int32) : q_I l yX1_half wsX1_half ({ frames := 2, cells := 0, slots := 0, locals := 43 } : Room) D ([]) ([]) [.int x1, .int x2] (m_half x1 x2) := by
  refine q_startI (cc := cX1_half) (maxL := 4) (rt := .int) (by decide) rfl (Nat.le_of_ble_eq_true rfl) ?_
  intro p e s m below meth c hx hb hml hr hts hown hlocks hK H locs ls hP hS hl
  have hl : lv_has ls 4 [(0, .int x1), (1, .int x2)] := hl
  refine lv_iload_n hx hb dX1_half_0 rfl (lv_at hl 1 rfl) ?_
  refine lv_iload_n hx hb dX1_half_1 rfl (lv_at hl 0 rfl) ?_
  refine lv_isub hx hb dX1_half_2 ?_
  refine lv_bipush (v := 10) hx hb dX1_half_3 (by decide) ?_
  refine lv_iadd hx hb dX1_half_5 ?_
  refine lv_bipush (v := 10) hx hb dX1_half_6 (by decide) ?_
  refine lv_irem hx hb dX1_half_8 (by decide) ?_
  refine lv_istore_n (lv' := [(2, .int (((x2 - x1) + 10) - ((x2 - x1) + 10) / 10 * 10)), (0, .int x1), (1, .int x2)]) hx hb dX1_half_9 rfl hl (by decide) rfl (fun ls hl => ?_)
  refine lv_iload_n hx hb dX1_half_10 rfl (lv_at hl 1 rfl) ?_
  refine lv_iload_n hx hb dX1_half_11 rfl (lv_at hl 2 rfl) ?_
  refine q_callS (As := [.int x1, .int x2]) (rest := []) ⟨hx, hb, hml, hown, hts⟩ (c_X1_apart l D x1 x2) (va_cwS 2 hts gX1_half_X1_apart rfl rfl rfl ks_X1_apart ⟨Nat.le_of_ble_eq_true rfl, Nat.le_of_ble_eq_true rfl⟩) (hP.sub [] rfl) (hK.sub [] rfl) rfl hl.1 rfl (Nat.le_of_ble_eq_true rfl) dX1_half_12 (Nat.zero_le _) (Nat.zero_le _) hS (fun H locs hsm hS => ?_)
  have hP := hsm.P hP
  refine lv_iconst (v := 2) hx hb dX1_half_15 (by decide) ?_
  refine lv_idiv hx hb dX1_half_16 (by decide) ?_
  refine lv_istore_n (lv' := [(3, .int ((x_ds x1 x2) / 2)), (2, .int (((x2 - x1) + 10) - ((x2 - x1) + 10) / 10 * 10)), (0, .int x1), (1, .int x2)]) hx hb dX1_half_17 rfl hl (by decide) rfl (fun ls hl => ?_)
  refine lv_iload_n hx hb dX1_half_18 rfl (lv_at hl 2 rfl) ?_
  refine lv_iload_n hx hb dX1_half_19 rfl (lv_at hl 1 rfl) ?_
  refine lv_iconst (v := 5) hx hb dX1_half_20 (by decide) ?_
  suffices K_21 : ∀ v9 : Int32, v9 = (if 5 < (((x2 - x1) + 10) - ((x2 - x1) + 10) / 10 * 10) then (10 - ((x_ds x1 x2) / 2)) else ((x_ds x1 x2) / 2)) → W p l e ({ frames := 2, cells := 0, slots := 0, locals := 43 } : Room) s m [.int x1, .int x2].toArray below meth c H locs 0 0 (q_EI below [.int x1, .int x2].toArray s (m_half x1 x2)) (F0 m 32 ls [.int v9, .int x1]) from by
    refine lv_icmp_gt (tgt := 28) hx hb dX1_half_21 (by decide) (fun c_21 => ?_) (fun c_21 => ?_)
    · refine lv_bipush (v := 10) hx hb dX1_half_28 (by decide) ?_
      refine lv_iload_n hx hb dX1_half_30 rfl (lv_at hl 0 rfl) ?_
      refine lv_isub hx hb dX1_half_31 ?_
      exact K_21 _ (if_pos c_21).symm
    · refine lv_iload_n hx hb dX1_half_24 rfl (lv_at hl 0 rfl) ?_
      refine lv_goto (tgt := 32) hx hb dX1_half_25 (by decide) ?_
      exact K_21 _ (if_neg c_21).symm
  intro v9 hv9
  rw [hv9]; clear hv9
  refine lv_iadd hx hb dX1_half_32 ?_
  refine lv_bipush (v := 10) hx hb dX1_half_33 (by decide) ?_
  refine lv_irem hx hb dX1_half_35 (by decide) ?_
  exact q_retI hx hb hr hlocks hS rfl dX1_half_36

theorem kv_X1_thread : yX1_thread.cls = RX1 ∧ yX1_thread.cls ≠ "java/lang/invoke/MethodHandle" ∧ yX1_thread.cls ≠ "java/lang/invoke/VarHandle" ∧ (parseMethodDescriptor yX1_thread.desc).map (fun d => d.parameters.length) = some 1 := by decide +kernel
theorem ks_X1_thread : yX1_thread.cls ≠ "java/lang/invoke/MethodHandle" ∧ yX1_thread.cls ≠ "java/lang/invoke/VarHandle" ∧ (parseMethodDescriptor yX1_thread.desc).map (fun d => d.parameters.length) = some 1 := kv_X1_thread.2
set_option maxHeartbeats 4000000 in
set_option maxRecDepth 100000 in
theorem c_X1_thread (l : Launch) (D : va_G) (cI cZ : ClassId) (ad : Nat → Nat) (th : Int32) (N : Nat) (pa pe : Int32) (g0 g1 g2 : Nat → Int32) (hN : N ≤ 24) (k : Nat) (hk : k < m_n g0 N) : q_I l yX1_thread wsX1_thread ({ frames := 5, cells := 0, slots := 0, locals := 107 } : Room) D ([(cI, .int), (cZ, .boolean)]) (mw cI cZ ad th (nI N) pa pe g0 g1 g2) [.ref (ad 0), .int (nI k)] (nI (m_th g0 g1 g2 N k)) := by
  refine q_startI (cc := cX1_thread) (maxL := 4) (rt := .int) (by decide) rfl (Nat.le_of_ble_eq_true rfl) ?_
  intro p e s m below meth c hx hb hml hr hts hown hlocks hK H locs ls hP hS hl
  have hin : ∀ w ∈ wsX10, w ∈ wsX1_thread := by decide +kernel
  have hl : lv_has ls 4 [(0, .ref (ad 0)), (1, .int (nI k))] := hl
  have hm := m_n_le g0 N
  refine lv_iconst (v := 0) hx hb dX1_thread_0 (by decide) ?_
  refine lv_istore_n (lv' := [(2, .int 0), (0, .ref (ad 0)), (1, .int (nI k))]) hx hb dX1_thread_1 rfl hl (by decide) rfl (fun ls hl => ?_)
  refine lv_iconst (v := 0) hx hb dX1_thread_2 (by decide) ?_
  refine lv_istore_n (lv' := [(3, .int 0), (2, .int 0), (0, .ref (ad 0)), (1, .int (nI k))]) hx hb dX1_thread_3 rfl hl (by decide) rfl (fun ls hl => ?_)
  have lo_4 : ∀ (fu i : Nat), k - i < fu → i ≤ k → ∀ (H : Heap) (locs : List Loc) (ls : Array Slot), va_P D vwCl (mw cI cZ ad th (nI N) pa pe g0 g1 g2) H → va_S q_no s.heap H locs → lv_has ls 4 [(2, .int (nI (ct (m_br g0 g1 g2 N) i))), (3, .int (nI i)), (0, .ref (ad 0)), (1, .int (nI k))] → W p l e ({ frames := 5, cells := 0, slots := 0, locals := 107 } : Room) s m [.ref (ad 0), .int (nI k)].toArray below meth c H locs 0 0 (q_EI below [.ref (ad 0), .int (nI k)].toArray s (nI (m_th g0 g1 g2 N k))) (F0 m 4 ls []) := by
    intro fu
    induction fu with
    | zero => intro i hi; exact absurd hi (Nat.not_lt_zero _)
    | succ fu ih =>
      intro i hi hiN H locs ls hP hS hl
      refine lv_iload_n hx hb dX1_thread_4 rfl (lv_at hl 1 rfl) ?_
      refine lv_iload_n hx hb dX1_thread_5 rfl (lv_at hl 3 rfl) ?_
      refine lv_icmp_ge (tgt := 31) hx hb dX1_thread_6 (by decide) (fun c_6 => ?_) (fun c_6 => ?_)
      · have hi9 := nI_ge' hiN (by omega) c_6
        refine lv_iload_n hx hb dX1_thread_31 rfl (lv_at hl 0 rfl) ?_
        exact q_retI hx hb hr hlocks hS (by rw [hi9]; rfl) dX1_thread_32
      · have hi9 := nI_lt' hiN (by omega) c_6
        refine lv_iload_n hx hb dX1_thread_9 rfl (lv_at hl 0 rfl) ?_
        refine lv_aload_n hx hb dX1_thread_10 rfl (lv_at hl 2 rfl) ?_
        refine lv_iload_n hx hb dX1_thread_11 rfl (lv_at hl 1 rfl) ?_
        refine q_callV (As := [.int (nI i)]) (rest := [.int (nI (ct (m_br g0 g1 g2 N) i))]) ⟨hx, hb, hml, hown, hts⟩ (c_X1_broken l D cI cZ ad th N pa pe g0 g1 g2 hN i (by omega)) (cwV 1 hts gX1_thread_X1_broken rfl rfl rfl kv_X1_broken ⟨Nat.le_of_ble_eq_true rfl, Nat.le_of_ble_eq_true rfl⟩) (va_recv hK hP (ci := 1) (q0 := 0) rfl rfl) hP hK rfl hl.1 rfl (Nat.le_of_ble_eq_true rfl) dX1_thread_12 (Nat.zero_le _) (Nat.zero_le _) hS (fun H locs hsm hS => ?_)
        have hP := hsm.P hP
        suffices K_15 : ∀ v9 : Int32, v9 = (bI (m_br g0 g1 g2 N i)) → W p l e ({ frames := 5, cells := 0, slots := 0, locals := 107 } : Room) s m [.ref (ad 0), .int (nI k)].toArray below meth c H locs 0 0 (q_EI below [.ref (ad 0), .int (nI k)].toArray s (nI (m_th g0 g1 g2 N k))) (F0 m 23 ls [.int v9, .int (nI (ct (m_br g0 g1 g2 N) i))]) from by
          refine lv_if_eq (tgt := 22) hx hb dX1_thread_15 (by decide) (fun c_15 => ?_) (fun c_15 => ?_)
          · refine lv_iconst (v := 0) hx hb dX1_thread_22 (by decide) ?_
            exact K_15 _ (by rw [bI_0.mp c_15]; rfl)
          · refine lv_iconst (v := 1) hx hb dX1_thread_18 (by decide) ?_
            refine lv_goto (tgt := 23) hx hb dX1_thread_19 (by decide) ?_
            exact K_15 _ (by rw [bI_n0.mp c_15]; rfl)
        intro v9 hv9
        rw [hv9]; clear hv9
        refine lv_iadd hx hb dX1_thread_23 ?_
        refine lv_istore_n (lv' := [(2, .int ((nI (ct (m_br g0 g1 g2 N) i)) + (bI (m_br g0 g1 g2 N i)))), (3, .int (nI i)), (0, .ref (ad 0)), (1, .int (nI k))]) hx hb dX1_thread_24 rfl hl (by decide) rfl (fun ls hl => ?_)
        refine lv_iinc (v := ((nI i) + 1)) (lv' := [(3, .int ((nI i) + 1)), (2, .int ((nI (ct (m_br g0 g1 g2 N) i)) + (bI (m_br g0 g1 g2 N i)))), (0, .ref (ad 0)), (1, .int (nI k))]) hx hb dX1_thread_25 hl (k := 1) rfl (by rfl) (by decide) rfl (fun ls hl => ?_)
        refine lv_goto (tgt := 4) hx hb dX1_thread_28 (by decide) ?_
        have e_2 : (((nI (ct (m_br g0 g1 g2 N) i)) + (bI (m_br g0 g1 g2 N i))) : Int32) = (nI (ct (m_br g0 g1 g2 N) (i + 1))) := (bI_ct (m_br g0 g1 g2 N) i)
        have e_3 : (((nI i) + 1) : Int32) = (nI (i + 1)) := nI_1 i
        exact ih (i + 1) (by omega) (by omega) H locs ls hP hS (lv_eq (lv_sub (l' := [(2, .int ((nI (ct (m_br g0 g1 g2 N) i)) + (bI (m_br g0 g1 g2 N i)))), (3, .int ((nI i) + 1)), (0, .ref (ad 0)), (1, .int (nI k))]) hl [1, 0, 2, 3] rfl) (by rw [e_2, e_3]))
  exact lo_4 (k + 1) 0 (by omega) (by omega) H locs ls hP hS (lv_sub hl [1, 0, 2, 3] rfl)

theorem kv_X1_isThread : yX1_isThread.cls = RX1 ∧ yX1_isThread.cls ≠ "java/lang/invoke/MethodHandle" ∧ yX1_isThread.cls ≠ "java/lang/invoke/VarHandle" ∧ (parseMethodDescriptor yX1_isThread.desc).map (fun d => d.parameters.length) = some 1 := by decide +kernel
theorem ks_X1_isThread : yX1_isThread.cls ≠ "java/lang/invoke/MethodHandle" ∧ yX1_isThread.cls ≠ "java/lang/invoke/VarHandle" ∧ (parseMethodDescriptor yX1_isThread.desc).map (fun d => d.parameters.length) = some 1 := kv_X1_isThread.2
set_option maxHeartbeats 4000000 in
set_option maxRecDepth 100000 in
theorem c_X1_isThread (l : Launch) (D : va_G) (cI cZ : ClassId) (ad : Nat → Nat) (th : Int32) (N : Nat) (pa pe : Int32) (g0 g1 g2 : Nat → Int32) (hN : N ≤ 24) (x1 : Int32) : q_I l yX1_isThread wsX1_isThread ({ frames := 7, cells := 0, slots := 0, locals := 149 } : Room) D ([(cI, .int), (cZ, .boolean)]) (mw cI cZ ad th (nI N) pa pe g0 g1 g2) [.ref (ad 0), .int x1] (bI (m_in x1 0 (nI (m_tn g0 g1 g2 N) - 1))) := by
  refine q_startI (cc := cX1_isThread) (maxL := 2) (rt := .boolean) (by decide) rfl (Nat.le_of_ble_eq_true rfl) ?_
  intro p e s m below meth c hx hb hml hr hts hown hlocks hK H locs ls hP hS hl
  have hin : ∀ w ∈ wsX10, w ∈ wsX1_isThread := by decide +kernel
  have hl : lv_has ls 2 [(0, .ref (ad 0)), (1, .int x1)] := hl
  refine lv_iload_n hx hb dX1_isThread_0 rfl (lv_at hl 1 rfl) ?_
  refine lv_iconst (v := 0) hx hb dX1_isThread_1 (by decide) ?_
  refine lv_aload_n hx hb dX1_isThread_2 rfl (lv_at hl 0 rfl) ?_
  refine q_callV (As := []) (rest := [.int 0, .int x1]) ⟨hx, hb, hml, hown, hts⟩ (c_X1_threadsNow l D cI cZ ad th N pa pe g0 g1 g2 hN) (cwV 0 hts gX1_isThread_X1_threadsNow rfl rfl rfl kv_X1_threadsNow ⟨Nat.le_of_ble_eq_true rfl, Nat.le_of_ble_eq_true rfl⟩) (va_recv hK hP (ci := 1) (q0 := 0) rfl rfl) hP hK rfl hl.1 rfl (Nat.le_of_ble_eq_true rfl) dX1_isThread_3 (Nat.zero_le _) (Nat.zero_le _) hS (fun H locs hsm hS => ?_)
  have hP := hsm.P hP
  refine lv_iconst (v := 1) hx hb dX1_isThread_6 (by decide) ?_
  refine lv_isub hx hb dX1_isThread_7 ?_
  refine q_callS (As := [.int x1, .int 0, .int ((nI (m_tn g0 g1 g2 N)) - 1)]) (rest := []) ⟨hx, hb, hml, hown, hts⟩ (c_X1_isIn l D x1 0 ((nI (m_tn g0 g1 g2 N)) - 1)) (va_cwS 3 hts gX1_isThread_X1_isIn rfl rfl rfl ks_X1_isIn ⟨Nat.le_of_ble_eq_true rfl, Nat.le_of_ble_eq_true rfl⟩) (hP.sub [] rfl) (hK.sub [] rfl) rfl hl.1 rfl (Nat.le_of_ble_eq_true rfl) dX1_isThread_8 (Nat.zero_le _) (Nat.zero_le _) hS (fun H locs hsm hS => ?_)
  have hP := hsm.P hP
  exact q_retZ hx hb hr hlocks hS rfl (bI_01 _) dX1_isThread_11

theorem kv_X1_length : yX1_length.cls = RX1 ∧ yX1_length.cls ≠ "java/lang/invoke/MethodHandle" ∧ yX1_length.cls ≠ "java/lang/invoke/VarHandle" ∧ (parseMethodDescriptor yX1_length.desc).map (fun d => d.parameters.length) = some 1 := by decide +kernel
theorem ks_X1_length : yX1_length.cls ≠ "java/lang/invoke/MethodHandle" ∧ yX1_length.cls ≠ "java/lang/invoke/VarHandle" ∧ (parseMethodDescriptor yX1_length.desc).map (fun d => d.parameters.length) = some 1 := kv_X1_length.2
set_option maxHeartbeats 4000000 in
set_option maxRecDepth 100000 in
theorem c_X1_length (l : Launch) (D : va_G) (cI cZ : ClassId) (ad : Nat → Nat) (th : Int32) (N : Nat) (pa pe : Int32) (g0 g1 g2 : Nat → Int32) (hN : N ≤ 24) (x1 : Int32) : q_I l yX1_length wsX1_length ({ frames := 6, cells := 0, slots := 0, locals := 130 } : Room) D ([(cI, .int), (cZ, .boolean)]) (mw cI cZ ad th (nI N) pa pe g0 g1 g2) [.ref (ad 0), .int x1] (nI (m_ln g0 g1 g2 N x1)) := by
  refine q_startI (cc := cX1_length) (maxL := 4) (rt := .int) (by decide) rfl (Nat.le_of_ble_eq_true rfl) ?_
  intro p e s m below meth c hx hb hml hr hts hown hlocks hK H locs ls hP hS hl
  have hin : ∀ w ∈ wsX10, w ∈ wsX1_length := by decide +kernel
  have hl : lv_has ls 4 [(0, .ref (ad 0)), (1, .int x1)] := hl
  have hm := m_n_le g0 N
  refine lv_iconst (v := 0) hx hb dX1_length_0 (by decide) ?_
  refine lv_istore_n (lv' := [(2, .int 0), (0, .ref (ad 0)), (1, .int x1)]) hx hb dX1_length_1 rfl hl (by decide) rfl (fun ls hl => ?_)
  refine lv_iconst (v := 0) hx hb dX1_length_2 (by decide) ?_
  refine lv_istore_n (lv' := [(3, .int 0), (2, .int 0), (0, .ref (ad 0)), (1, .int x1)]) hx hb dX1_length_3 rfl hl (by decide) rfl (fun ls hl => ?_)
  have lo_4 : ∀ (fu i : Nat), (m_n g0 N) - i < fu → i ≤ (m_n g0 N) → ∀ (H : Heap) (locs : List Loc) (ls : Array Slot), va_P D vwCl (mw cI cZ ad th (nI N) pa pe g0 g1 g2) H → va_S q_no s.heap H locs → lv_has ls 4 [(2, .int (nI (ct (fun w => decide (nI (m_th g0 g1 g2 N w) = x1)) i))), (3, .int (nI i)), (0, .ref (ad 0)), (1, .int x1)] → W p l e ({ frames := 6, cells := 0, slots := 0, locals := 130 } : Room) s m [.ref (ad 0), .int x1].toArray below meth c H locs 0 0 (q_EI below [.ref (ad 0), .int x1].toArray s (nI (m_ln g0 g1 g2 N x1))) (F0 m 4 ls []) := by
    intro fu
    induction fu with
    | zero => intro i hi; exact absurd hi (Nat.not_lt_zero _)
    | succ fu ih =>
      intro i hi hiN H locs ls hP hS hl
      refine lv_iload_n hx hb dX1_length_4 rfl (lv_at hl 1 rfl) ?_
      refine lv_aload_n hx hb dX1_length_5 rfl (lv_at hl 2 rfl) ?_
      refine q_callV (As := []) (rest := [.int (nI i)]) ⟨hx, hb, hml, hown, hts⟩ (c_X1_many l D cI cZ ad th N pa pe g0 g1 g2 hN) (cwV 0 hts gX1_length_X1_many rfl rfl rfl kv_X1_many ⟨Nat.le_of_ble_eq_true rfl, Nat.le_of_ble_eq_true rfl⟩) (va_recv hK hP (ci := 1) (q0 := 0) rfl rfl) hP hK rfl hl.1 rfl (Nat.le_of_ble_eq_true rfl) dX1_length_6 (Nat.zero_le _) (Nat.zero_le _) hS (fun H locs hsm hS => ?_)
      have hP := hsm.P hP
      refine lv_icmp_ge (tgt := 35) hx hb dX1_length_9 (by decide) (fun c_9 => ?_) (fun c_9 => ?_)
      · have hi9 := nI_ge' hiN (by omega) c_9
        refine lv_iload_n hx hb dX1_length_35 rfl (lv_at hl 0 rfl) ?_
        exact q_retI hx hb hr hlocks hS (by rw [hi9]; rfl) dX1_length_36
      · have hi9 := nI_lt' hiN (by omega) c_9
        refine lv_iload_n hx hb dX1_length_12 rfl (lv_at hl 0 rfl) ?_
        refine lv_aload_n hx hb dX1_length_13 rfl (lv_at hl 2 rfl) ?_
        refine lv_iload_n hx hb dX1_length_14 rfl (lv_at hl 1 rfl) ?_
        refine q_callV (As := [.int (nI i)]) (rest := [.int (nI (ct (fun w => decide (nI (m_th g0 g1 g2 N w) = x1)) i))]) ⟨hx, hb, hml, hown, hts⟩ (c_X1_thread l D cI cZ ad th N pa pe g0 g1 g2 hN i (by omega)) (cwV 1 hts gX1_length_X1_thread rfl rfl rfl kv_X1_thread ⟨Nat.le_of_ble_eq_true rfl, Nat.le_of_ble_eq_true rfl⟩) (va_recv hK hP (ci := 1) (q0 := 0) rfl rfl) hP hK rfl hl.1 rfl (Nat.le_of_ble_eq_true rfl) dX1_length_15 (Nat.zero_le _) (Nat.zero_le _) hS (fun H locs hsm hS => ?_)
        have hP := hsm.P hP
        refine lv_iload_n hx hb dX1_length_18 rfl (lv_at hl 3 rfl) ?_
        suffices K_19 : ∀ v9 : Int32, v9 = (bI (decide ((nI (m_th g0 g1 g2 N i)) = x1))) → W p l e ({ frames := 6, cells := 0, slots := 0, locals := 130 } : Room) s m [.ref (ad 0), .int x1].toArray below meth c H locs 0 0 (q_EI below [.ref (ad 0), .int x1].toArray s (nI (m_ln g0 g1 g2 N x1))) (F0 m 27 ls [.int v9, .int (nI (ct (fun w => decide (nI (m_th g0 g1 g2 N w) = x1)) i))]) from by
          refine lv_icmp_ne (tgt := 26) hx hb dX1_length_19 (by decide) (fun c_19 => ?_) (fun c_19 => ?_)
          · refine lv_iconst (v := 0) hx hb dX1_length_26 (by decide) ?_
            exact K_19 _ (bI_df c_19)
          · refine lv_iconst (v := 1) hx hb dX1_length_22 (by decide) ?_
            refine lv_goto (tgt := 27) hx hb dX1_length_23 (by decide) ?_
            exact K_19 _ (bI_dt c_19)
        intro v9 hv9
        rw [hv9]; clear hv9
        refine lv_iadd hx hb dX1_length_27 ?_
        refine lv_istore_n (lv' := [(2, .int ((nI (ct (fun w => decide (nI (m_th g0 g1 g2 N w) = x1)) i)) + (bI (decide ((nI (m_th g0 g1 g2 N i)) = x1))))), (3, .int (nI i)), (0, .ref (ad 0)), (1, .int x1)]) hx hb dX1_length_28 rfl hl (by decide) rfl (fun ls hl => ?_)
        refine lv_iinc (v := ((nI i) + 1)) (lv' := [(3, .int ((nI i) + 1)), (2, .int ((nI (ct (fun w => decide (nI (m_th g0 g1 g2 N w) = x1)) i)) + (bI (decide ((nI (m_th g0 g1 g2 N i)) = x1))))), (0, .ref (ad 0)), (1, .int x1)]) hx hb dX1_length_29 hl (k := 1) rfl (by rfl) (by decide) rfl (fun ls hl => ?_)
        refine lv_goto (tgt := 4) hx hb dX1_length_32 (by decide) ?_
        have e_2 : (((nI (ct (fun w => decide (nI (m_th g0 g1 g2 N w) = x1)) i)) + (bI (decide ((nI (m_th g0 g1 g2 N i)) = x1)))) : Int32) = (nI (ct (fun w => decide (nI (m_th g0 g1 g2 N w) = x1)) (i + 1))) := (bI_ct (fun w => decide (nI (m_th g0 g1 g2 N w) = x1)) i)
        have e_3 : (((nI i) + 1) : Int32) = (nI (i + 1)) := nI_1 i
        exact ih (i + 1) (by omega) (by omega) H locs ls hP hS (lv_eq (lv_sub (l' := [(2, .int ((nI (ct (fun w => decide (nI (m_th g0 g1 g2 N w) = x1)) i)) + (bI (decide ((nI (m_th g0 g1 g2 N i)) = x1))))), (3, .int ((nI i) + 1)), (0, .ref (ad 0)), (1, .int x1)]) hl [1, 0, 2, 3] rfl) (by rw [e_2, e_3]))
  exact lo_4 ((m_n g0 N) + 1) 0 (by omega) (by omega) H locs ls hP hS (lv_sub hl [1, 0, 2, 3] rfl)

theorem kv_X1_longest : yX1_longest.cls = RX1 ∧ yX1_longest.cls ≠ "java/lang/invoke/MethodHandle" ∧ yX1_longest.cls ≠ "java/lang/invoke/VarHandle" ∧ (parseMethodDescriptor yX1_longest.desc).map (fun d => d.parameters.length) = some 0 := by decide +kernel
theorem ks_X1_longest : yX1_longest.cls ≠ "java/lang/invoke/MethodHandle" ∧ yX1_longest.cls ≠ "java/lang/invoke/VarHandle" ∧ (parseMethodDescriptor yX1_longest.desc).map (fun d => d.parameters.length) = some 0 := kv_X1_longest.2
set_option maxHeartbeats 4000000 in
set_option maxRecDepth 100000 in
theorem c_X1_longest (l : Launch) (D : va_G) (cI cZ : ClassId) (ad : Nat → Nat) (th : Int32) (N : Nat) (pa pe : Int32) (g0 g1 g2 : Nat → Int32) (hN : N ≤ 24) : q_I l yX1_longest wsX1_longest ({ frames := 7, cells := 0, slots := 0, locals := 153 } : Room) D ([(cI, .int), (cZ, .boolean)]) (mw cI cZ ad th (nI N) pa pe g0 g1 g2) [.ref (ad 0)] (m_lg g0 g1 g2 N (m_tn g0 g1 g2 N)) := by
  refine q_startI (cc := cX1_longest) (maxL := 3) (rt := .int) (by decide) rfl (Nat.le_of_ble_eq_true rfl) ?_
  intro p e s m below meth c hx hb hml hr hts hown hlocks hK H locs ls hP hS hl
  have hin : ∀ w ∈ wsX10, w ∈ wsX1_longest := by decide +kernel
  have hl : lv_has ls 3 [(0, .ref (ad 0))] := hl
  have hm := m_n_le g0 N
  have htn := m_tn_le g0 g1 g2 N
  refine lv_iconst (v := -1) hx hb dX1_longest_0 (by decide) ?_
  refine lv_istore_n (lv' := [(1, .int (-1)), (0, .ref (ad 0))]) hx hb dX1_longest_1 rfl hl (by decide) rfl (fun ls hl => ?_)
  refine lv_iconst (v := 0) hx hb dX1_longest_2 (by decide) ?_
  refine lv_istore_n (lv' := [(2, .int 0), (1, .int (-1)), (0, .ref (ad 0))]) hx hb dX1_longest_3 rfl hl (by decide) rfl (fun ls hl => ?_)
  have lo_4 : ∀ (fu i : Nat), (m_tn g0 g1 g2 N) - i < fu → i ≤ (m_tn g0 g1 g2 N) → ∀ (H : Heap) (locs : List Loc) (ls : Array Slot), va_P D vwCl (mw cI cZ ad th (nI N) pa pe g0 g1 g2) H → va_S q_no s.heap H locs → lv_has ls 3 [(1, .int (m_lg g0 g1 g2 N i)), (2, .int (nI i)), (0, .ref (ad 0))] → W p l e ({ frames := 7, cells := 0, slots := 0, locals := 153 } : Room) s m [.ref (ad 0)].toArray below meth c H locs 0 0 (q_EI below [.ref (ad 0)].toArray s (m_lg g0 g1 g2 N (m_tn g0 g1 g2 N))) (F0 m 4 ls []) := by
    intro fu
    induction fu with
    | zero => intro i hi; exact absurd hi (Nat.not_lt_zero _)
    | succ fu ih =>
      intro i hi hiN H locs ls hP hS hl
      refine lv_iload_n hx hb dX1_longest_4 rfl (lv_at hl 1 rfl) ?_
      refine lv_aload_n hx hb dX1_longest_5 rfl (lv_at hl 2 rfl) ?_
      refine q_callV (As := []) (rest := [.int (nI i)]) ⟨hx, hb, hml, hown, hts⟩ (c_X1_threadsNow l D cI cZ ad th N pa pe g0 g1 g2 hN) (cwV 0 hts gX1_longest_X1_threadsNow rfl rfl rfl kv_X1_threadsNow ⟨Nat.le_of_ble_eq_true rfl, Nat.le_of_ble_eq_true rfl⟩) (va_recv hK hP (ci := 1) (q0 := 0) rfl rfl) hP hK rfl hl.1 rfl (Nat.le_of_ble_eq_true rfl) dX1_longest_6 (Nat.zero_le _) (Nat.zero_le _) hS (fun H locs hsm hS => ?_)
      have hP := hsm.P hP
      refine lv_icmp_ge (tgt := 38) hx hb dX1_longest_9 (by decide) (fun c_9 => ?_) (fun c_9 => ?_)
      · have hi9 := nI_ge' hiN (by omega) c_9
        refine lv_iload_n hx hb dX1_longest_38 rfl (lv_at hl 0 rfl) ?_
        exact q_retI hx hb hr hlocks hS (by rw [hi9]) dX1_longest_39
      · have hi9 := nI_lt' hiN (by omega) c_9
        refine lv_iload_n hx hb dX1_longest_12 rfl (lv_at hl 0 rfl) ?_
        refine lv_iconst (v := -1) hx hb dX1_longest_13 (by decide) ?_
        refine lv_icmp_eq (tgt := 30) hx hb dX1_longest_14 (by decide) (fun c_14 => ?_) (fun c_14 => ?_)
        · refine lv_iload_n hx hb dX1_longest_30 rfl (lv_at hl 1 rfl) ?_
          refine lv_istore_n (lv' := [(1, .int (nI i)), (2, .int (nI i)), (0, .ref (ad 0))]) hx hb dX1_longest_31 rfl hl (by decide) rfl (fun ls hl => ?_)
          refine lv_iinc (v := ((nI i) + 1)) (lv' := [(2, .int ((nI i) + 1)), (1, .int (nI i)), (0, .ref (ad 0))]) hx hb dX1_longest_32 hl (k := 1) rfl (by rfl) (by decide) rfl (fun ls hl => ?_)
          refine lv_goto (tgt := 4) hx hb dX1_longest_35 (by decide) ?_
          have e_1 : ((nI i) : Int32) = (m_lg g0 g1 g2 N (i + 1)) := (by rw [m_lg, if_pos c_14])
          have e_2 : (((nI i) + 1) : Int32) = (nI (i + 1)) := nI_1 i
          exact ih (i + 1) (by omega) (by omega) H locs ls hP hS (lv_eq (lv_sub (l' := [(1, .int (nI i)), (2, .int ((nI i) + 1)), (0, .ref (ad 0))]) hl [1, 0, 2] rfl) (by rw [e_2, e_1]))
        · refine lv_aload_n hx hb dX1_longest_17 rfl (lv_at hl 2 rfl) ?_
          refine lv_iload_n hx hb dX1_longest_18 rfl (lv_at hl 1 rfl) ?_
          refine q_callV (As := [.int (nI i)]) (rest := []) ⟨hx, hb, hml, hown, hts⟩ (c_X1_length l D cI cZ ad th N pa pe g0 g1 g2 hN (nI i)) (cwV 1 hts gX1_longest_X1_length rfl rfl rfl kv_X1_length ⟨Nat.le_of_ble_eq_true rfl, Nat.le_of_ble_eq_true rfl⟩) (va_recv hK hP (ci := 1) (q0 := 0) rfl rfl) hP hK rfl hl.1 rfl (Nat.le_of_ble_eq_true rfl) dX1_longest_19 (Nat.zero_le _) (Nat.zero_le _) hS (fun H locs hsm hS => ?_)
          have hP := hsm.P hP
          refine lv_aload_n hx hb dX1_longest_22 rfl (lv_at hl 2 rfl) ?_
          refine lv_iload_n hx hb dX1_longest_23 rfl (lv_at hl 0 rfl) ?_
          refine q_callV (As := [.int (m_lg g0 g1 g2 N i)]) (rest := [.int (nI (m_ln g0 g1 g2 N (nI i)))]) ⟨hx, hb, hml, hown, hts⟩ (c_X1_length l D cI cZ ad th N pa pe g0 g1 g2 hN (m_lg g0 g1 g2 N i)) (cwV 1 hts gX1_longest_X1_length rfl rfl rfl kv_X1_length ⟨Nat.le_of_ble_eq_true rfl, Nat.le_of_ble_eq_true rfl⟩) (va_recv hK hP (ci := 1) (q0 := 0) rfl rfl) hP hK rfl hl.1 rfl (Nat.le_of_ble_eq_true rfl) dX1_longest_24 (Nat.zero_le _) (Nat.zero_le _) hS (fun H locs hsm hS => ?_)
          have hP := hsm.P hP
          refine lv_icmp_le (tgt := 32) hx hb dX1_longest_27 (by decide) (fun c_27 => ?_) (fun c_27 => ?_)
          · refine lv_iinc (v := ((nI i) + 1)) (lv' := [(2, .int ((nI i) + 1)), (1, .int (m_lg g0 g1 g2 N i)), (0, .ref (ad 0))]) hx hb dX1_longest_32 hl (k := 1) rfl (by rfl) (by decide) rfl (fun ls hl => ?_)
            refine lv_goto (tgt := 4) hx hb dX1_longest_35 (by decide) ?_
            have e_1 : ((m_lg g0 g1 g2 N i) : Int32) = (m_lg g0 g1 g2 N (i + 1)) := (by rw [m_lg, if_neg c_14, if_neg (Int32.not_lt.mpr c_27)])
            have e_2 : (((nI i) + 1) : Int32) = (nI (i + 1)) := nI_1 i
            exact ih (i + 1) (by omega) (by omega) H locs ls hP hS (lv_eq (lv_sub (l' := [(1, .int (m_lg g0 g1 g2 N i)), (2, .int ((nI i) + 1)), (0, .ref (ad 0))]) hl [1, 0, 2] rfl) (by rw [e_1, e_2]))
          · refine lv_iload_n hx hb dX1_longest_30 rfl (lv_at hl 1 rfl) ?_
            refine lv_istore_n (lv' := [(1, .int (nI i)), (2, .int (nI i)), (0, .ref (ad 0))]) hx hb dX1_longest_31 rfl hl (by decide) rfl (fun ls hl => ?_)
            refine lv_iinc (v := ((nI i) + 1)) (lv' := [(2, .int ((nI i) + 1)), (1, .int (nI i)), (0, .ref (ad 0))]) hx hb dX1_longest_32 hl (k := 1) rfl (by rfl) (by decide) rfl (fun ls hl => ?_)
            refine lv_goto (tgt := 4) hx hb dX1_longest_35 (by decide) ?_
            have e_1 : ((nI i) : Int32) = (m_lg g0 g1 g2 N (i + 1)) := (by rw [m_lg, if_neg c_14, if_pos (Int32.not_le.mp c_27)])
            have e_2 : (((nI i) + 1) : Int32) = (nI (i + 1)) := nI_1 i
            exact ih (i + 1) (by omega) (by omega) H locs ls hP hS (lv_eq (lv_sub (l' := [(1, .int (nI i)), (2, .int ((nI i) + 1)), (0, .ref (ad 0))]) hl [1, 0, 2] rfl) (by rw [e_2, e_1]))
  exact lo_4 ((m_tn g0 g1 g2 N) + 1) 0 (by omega) (by omega) H locs ls hP hS (lv_sub hl [1, 0, 2] rfl)

theorem kv_X1_mends : yX1_mends.cls = RX1 ∧ yX1_mends.cls ≠ "java/lang/invoke/MethodHandle" ∧ yX1_mends.cls ≠ "java/lang/invoke/VarHandle" ∧ (parseMethodDescriptor yX1_mends.desc).map (fun d => d.parameters.length) = some 1 := by decide +kernel
theorem ks_X1_mends : yX1_mends.cls ≠ "java/lang/invoke/MethodHandle" ∧ yX1_mends.cls ≠ "java/lang/invoke/VarHandle" ∧ (parseMethodDescriptor yX1_mends.desc).map (fun d => d.parameters.length) = some 1 := kv_X1_mends.2
set_option maxHeartbeats 4000000 in
set_option maxRecDepth 100000 in
theorem c_X1_mends (l : Launch) (D : va_G) (cI cZ : ClassId) (ad : Nat → Nat) (th : Int32) (N : Nat) (pa pe : Int32) (g0 g1 g2 : Nat → Int32) (hN : N ≤ 24) (g : Nat) (hg : g + 1 < m_n g0 N) : q_I l yX1_mends wsX1_mends ({ frames := 5, cells := 0, slots := 0, locals := 107 } : Room) D ([(cI, .int), (cZ, .boolean)]) (mw cI cZ ad th (nI N) pa pe g0 g1 g2) [.ref (ad 0), .int (nI g)] (m_md g0 g1 g2 N g) := by
  refine q_startI (cc := cX1_mends) (maxL := 4) (rt := .int) (by decide) rfl (Nat.le_of_ble_eq_true rfl) ?_
  intro p e s m below meth c hx hb hml hr hts hown hlocks hK H locs ls hP hS hl
  have hin : ∀ w ∈ wsX10, w ∈ wsX1_mends := by decide +kernel
  have hl : lv_has ls 4 [(0, .ref (ad 0)), (1, .int (nI g))] := hl
  have hm := m_n_le g0 N
  refine lv_aload_n hx hb dX1_mends_0 rfl (lv_at hl 0 rfl) ?_
  refine lv_iload_n hx hb dX1_mends_1 rfl (lv_at hl 1 rfl) ?_
  refine q_callV (As := [.int (nI g)]) (rest := []) ⟨hx, hb, hml, hown, hts⟩ (c_X1_broken l D cI cZ ad th N pa pe g0 g1 g2 hN g (by omega)) (cwV 1 hts gX1_mends_X1_broken rfl rfl rfl kv_X1_broken ⟨Nat.le_of_ble_eq_true rfl, Nat.le_of_ble_eq_true rfl⟩) (va_recv hK hP (ci := 1) (q0 := 0) rfl rfl) hP hK rfl hl.1 rfl (Nat.le_of_ble_eq_true rfl) dX1_mends_2 (Nat.zero_le _) (Nat.zero_le _) hS (fun H locs hsm hS => ?_)
  have hP := hsm.P hP
  refine lv_if_ne (tgt := 10) hx hb dX1_mends_5 (by decide) (fun c_5 => ?_) (fun c_5 => ?_)
  · refine lv_iconst (v := 3) hx hb dX1_mends_10 (by decide) ?_
    refine lv_istore_n (lv' := [(2, .int 3), (0, .ref (ad 0)), (1, .int (nI g))]) hx hb dX1_mends_11 rfl hl (by decide) rfl (fun ls hl => ?_)
    refine lv_iconst (v := 1) hx hb dX1_mends_12 (by decide) ?_
    refine lv_istore_n (lv' := [(3, .int 1), (2, .int 3), (0, .ref (ad 0)), (1, .int (nI g))]) hx hb dX1_mends_13 rfl hl (by decide) rfl (fun ls hl => ?_)
    have lo_14 : ∀ (fu i : Nat), (m_cN g0 N g) - i < fu → i ≤ (m_cN g0 N g) → ∀ (H : Heap) (locs : List Loc) (ls : Array Slot), va_P D vwCl (mw cI cZ ad th (nI N) pa pe g0 g1 g2) H → va_S q_no s.heap H locs → lv_has ls 4 [(2, .int (m_mc (m_st g0 N g) (m_sm g0 g1 N g) i)), (3, .int (nI (i + 1))), (0, .ref (ad 0)), (1, .int (nI g))] → W p l e ({ frames := 5, cells := 0, slots := 0, locals := 107 } : Room) s m [.ref (ad 0), .int (nI g)].toArray below meth c H locs 0 0 (q_EI below [.ref (ad 0), .int (nI g)].toArray s (m_md g0 g1 g2 N g)) (F0 m 14 ls []) := by
      intro fu
      induction fu with
      | zero => intro i hi; exact absurd hi (Nat.not_lt_zero _)
      | succ fu ih =>
        intro i hi hiN H locs ls hP hS hl
        refine lv_iload_n hx hb dX1_mends_14 rfl (lv_at hl 1 rfl) ?_
        refine lv_aload_n hx hb dX1_mends_15 rfl (lv_at hl 2 rfl) ?_
        refine lv_iload_n hx hb dX1_mends_16 rfl (lv_at hl 3 rfl) ?_
        refine q_callV (As := [.int (nI g)]) (rest := [.int (nI (i + 1))]) ⟨hx, hb, hml, hown, hts⟩ (c_X1_coughsOf l D cI cZ ad th N pa pe g0 g1 g2 hN g (by omega)) (cwV 1 hts gX1_mends_X1_coughsOf rfl rfl rfl kv_X1_coughsOf ⟨Nat.le_of_ble_eq_true rfl, Nat.le_of_ble_eq_true rfl⟩) (va_recv hK hP (ci := 1) (q0 := 0) rfl rfl) hP hK rfl hl.1 rfl (Nat.le_of_ble_eq_true rfl) dX1_mends_17 (Nat.zero_le _) (Nat.zero_le _) hS (fun H locs hsm hS => ?_)
        have hP := hsm.P hP
        rw [m_cg_N (by omega)]
        refine lv_icmp_gt (tgt := 53) hx hb dX1_mends_20 (by decide) (fun c_20 => ?_) (fun c_20 => ?_)
        · have hcN := m_cN_le hg
          have hi9 : i = m_cN g0 N g := m_k1 hiN (by omega) c_20
          refine lv_iload_n hx hb dX1_mends_53 rfl (lv_at hl 0 rfl) ?_
          exact q_retI hx hb hr hlocks hS (by unfold m_md; rw [if_pos (bI_n0.mp c_5), hi9]) dX1_mends_54
        · have hcN := m_cN_le hg
          have hi9 : i < m_cN g0 N g := m_k2 hiN (by omega) c_20
          refine lv_aload_n hx hb dX1_mends_23 rfl (lv_at hl 2 rfl) ?_
          refine lv_iload_n hx hb dX1_mends_24 rfl (lv_at hl 3 rfl) ?_
          refine q_callV (As := [.int (nI g)]) (rest := []) ⟨hx, hb, hml, hown, hts⟩ (c_X1_strain l D cI cZ ad th N pa pe g0 g1 g2 hN g (by omega)) (cwV 1 hts gX1_mends_X1_strain rfl rfl rfl kv_X1_strain ⟨Nat.le_of_ble_eq_true rfl, Nat.le_of_ble_eq_true rfl⟩) (va_recv hK hP (ci := 1) (q0 := 0) rfl rfl) hP hK rfl hl.1 rfl (Nat.le_of_ble_eq_true rfl) dX1_mends_25 (Nat.zero_le _) (Nat.zero_le _) hS (fun H locs hsm hS => ?_)
          have hP := hsm.P hP
          refine lv_iload_n hx hb dX1_mends_28 rfl (lv_at hl 1 rfl) ?_
          refine lv_isub hx hb dX1_mends_29 ?_
          refine lv_aload_n hx hb dX1_mends_30 rfl (lv_at hl 2 rfl) ?_
          refine lv_iload_n hx hb dX1_mends_31 rfl (lv_at hl 3 rfl) ?_
          refine q_callV (As := [.int (nI g)]) (rest := [.int ((m_st g0 N g) - (nI (i + 1)))]) ⟨hx, hb, hml, hown, hts⟩ (c_X1_areSame l D cI cZ ad th N pa pe g0 g1 g2 hN g (by omega)) (cwV 1 hts gX1_mends_X1_areSame rfl rfl rfl kv_X1_areSame ⟨Nat.le_of_ble_eq_true rfl, Nat.le_of_ble_eq_true rfl⟩) (va_recv hK hP (ci := 1) (q0 := 0) rfl rfl) hP hK rfl hl.1 rfl (Nat.le_of_ble_eq_true rfl) dX1_mends_32 (Nat.zero_le _) (Nat.zero_le _) hS (fun H locs hsm hS => ?_)
          have hP := hsm.P hP
          refine q_callS (As := [.int ((m_st g0 N g) - (nI (i + 1))), .int (bI (m_sm g0 g1 N g))]) (rest := []) ⟨hx, hb, hml, hown, hts⟩ (c_X1_isPoliteOr l D ((m_st g0 N g) - (nI (i + 1))) (m_sm g0 g1 N g)) (va_cwS 2 hts gX1_mends_X1_isPoliteOr rfl rfl rfl ks_X1_isPoliteOr ⟨Nat.le_of_ble_eq_true rfl, Nat.le_of_ble_eq_true rfl⟩) (hP.sub [] rfl) (hK.sub [] rfl) rfl hl.1 rfl (Nat.le_of_ble_eq_true rfl) dX1_mends_35 (Nat.zero_le _) (Nat.zero_le _) hS (fun H locs hsm hS => ?_)
          have hP := hsm.P hP
          refine lv_if_eq (tgt := 47) hx hb dX1_mends_38 (by decide) (fun c_38 => ?_) (fun c_38 => ?_)
          · refine lv_iinc (v := ((nI (i + 1)) + 1)) (lv' := [(3, .int ((nI (i + 1)) + 1)), (2, .int (m_mc (m_st g0 N g) (m_sm g0 g1 N g) i)), (0, .ref (ad 0)), (1, .int (nI g))]) hx hb dX1_mends_47 hl (k := 1) rfl (by rfl) (by decide) rfl (fun ls hl => ?_)
            refine lv_goto (tgt := 14) hx hb dX1_mends_50 (by decide) ?_
            have e_2 : ((m_mc (m_st g0 N g) (m_sm g0 g1 N g) i) : Int32) = (m_mc (m_st g0 N g) (m_sm g0 g1 N g) (i + 1)) := (by rw [m_mc, if_neg (by rw [bI_0.mp c_38]; exact Bool.false_ne_true)])
            have e_3 : (((nI (i + 1)) + 1) : Int32) = (nI ((i + 1) + 1)) := nI_1 (i + 1)
            exact ih (i + 1) (by omega) (by omega) H locs ls hP hS (lv_eq (lv_sub (l' := [(2, .int (m_mc (m_st g0 N g) (m_sm g0 g1 N g) i)), (3, .int ((nI (i + 1)) + 1)), (0, .ref (ad 0)), (1, .int (nI g))]) hl [1, 0, 2, 3] rfl) (by rw [e_2, e_3]))
          · refine lv_iload_n hx hb dX1_mends_41 rfl (lv_at hl 0 rfl) ?_
            refine lv_iload_n hx hb dX1_mends_42 rfl (lv_at hl 1 rfl) ?_
            refine va_mmin hx hb (hml.trans hl.1.symm) hown (hts (.methodLink RX1 44 Lib.Math.min.name) (by decide +kernel)) (hts (.static Lib.Math.min.name) (by decide +kernel)) (hts (.initialized "java/lang/Math") (by decide +kernel)) (hts (.code Lib.Math.min.name Lib.Math.min.code 2 (some .int)) (by decide +kernel)) (Nat.le_of_ble_eq_true rfl) (Nat.le_of_ble_eq_true rfl) (Nat.zero_le _) (Nat.zero_le _) dX1_mends_43 ?_
            refine lv_istore_n (lv' := [(2, .int (i_min (m_mc (m_st g0 N g) (m_sm g0 g1 N g) i) (nI (i + 1)))), (3, .int (nI (i + 1))), (0, .ref (ad 0)), (1, .int (nI g))]) hx hb dX1_mends_46 rfl hl (by decide) rfl (fun ls hl => ?_)
            refine lv_iinc (v := ((nI (i + 1)) + 1)) (lv' := [(3, .int ((nI (i + 1)) + 1)), (2, .int (i_min (m_mc (m_st g0 N g) (m_sm g0 g1 N g) i) (nI (i + 1)))), (0, .ref (ad 0)), (1, .int (nI g))]) hx hb dX1_mends_47 hl (k := 1) rfl (by rfl) (by decide) rfl (fun ls hl => ?_)
            refine lv_goto (tgt := 14) hx hb dX1_mends_50 (by decide) ?_
            have e_2 : ((i_min (m_mc (m_st g0 N g) (m_sm g0 g1 N g) i) (nI (i + 1))) : Int32) = (m_mc (m_st g0 N g) (m_sm g0 g1 N g) (i + 1)) := (by rw [m_mc, if_pos (bI_n0.mp c_38)])
            have e_3 : (((nI (i + 1)) + 1) : Int32) = (nI ((i + 1) + 1)) := nI_1 (i + 1)
            exact ih (i + 1) (by omega) (by omega) H locs ls hP hS (lv_eq (lv_sub (l' := [(2, .int (i_min (m_mc (m_st g0 N g) (m_sm g0 g1 N g) i) (nI (i + 1)))), (3, .int ((nI (i + 1)) + 1)), (0, .ref (ad 0)), (1, .int (nI g))]) hl [1, 0, 2, 3] rfl) (by rw [e_2, e_3]))
    have hcN := m_cN_le hg
    exact lo_14 ((m_cN g0 N g) + 1) 0 (by omega) (by omega) H locs ls hP hS (lv_sub hl [1, 0, 2, 3] rfl)
  · refine lv_iconst (v := 0) hx hb dX1_mends_8 (by decide) ?_
    exact q_retI hx hb hr hlocks hS (by unfold m_md; rw [if_neg (by rw [bI_0.mp c_5]; exact Bool.false_ne_true)]) dX1_mends_9

theorem kv_X1_mendsAll : yX1_mendsAll.cls = RX1 ∧ yX1_mendsAll.cls ≠ "java/lang/invoke/MethodHandle" ∧ yX1_mendsAll.cls ≠ "java/lang/invoke/VarHandle" ∧ (parseMethodDescriptor yX1_mendsAll.desc).map (fun d => d.parameters.length) = some 0 := by decide +kernel
theorem ks_X1_mendsAll : yX1_mendsAll.cls ≠ "java/lang/invoke/MethodHandle" ∧ yX1_mendsAll.cls ≠ "java/lang/invoke/VarHandle" ∧ (parseMethodDescriptor yX1_mendsAll.desc).map (fun d => d.parameters.length) = some 0 := kv_X1_mendsAll.2
set_option maxHeartbeats 4000000 in
set_option maxRecDepth 100000 in
theorem c_X1_mendsAll (l : Launch) (D : va_G) (cI cZ : ClassId) (ad : Nat → Nat) (th : Int32) (N : Nat) (pa pe : Int32) (g0 g1 g2 : Nat → Int32) (hN : N ≤ 24) : q_I l yX1_mendsAll wsX1_mendsAll ({ frames := 6, cells := 0, slots := 0, locals := 130 } : Room) D ([(cI, .int), (cZ, .boolean)]) (mw cI cZ ad th (nI N) pa pe g0 g1 g2) [.ref (ad 0)] (m_ma g0 g1 g2 N (m_n g0 N - 1)) := by
  refine q_startI (cc := cX1_mendsAll) (maxL := 3) (rt := .int) (by decide) rfl (Nat.le_of_ble_eq_true rfl) ?_
  intro p e s m below meth c hx hb hml hr hts hown hlocks hK H locs ls hP hS hl
  have hin : ∀ w ∈ wsX10, w ∈ wsX1_mendsAll := by decide +kernel
  have hl : lv_has ls 3 [(0, .ref (ad 0))] := hl
  have hm := m_n_le g0 N
  refine lv_iconst (v := 0) hx hb dX1_mendsAll_0 (by decide) ?_
  refine lv_istore_n (lv' := [(1, .int 0), (0, .ref (ad 0))]) hx hb dX1_mendsAll_1 rfl hl (by decide) rfl (fun ls hl => ?_)
  refine lv_iconst (v := 0) hx hb dX1_mendsAll_2 (by decide) ?_
  refine lv_istore_n (lv' := [(2, .int 0), (1, .int 0), (0, .ref (ad 0))]) hx hb dX1_mendsAll_3 rfl hl (by decide) rfl (fun ls hl => ?_)
  have lo_4 : ∀ (fu i : Nat), (m_n g0 N - 1) - i < fu → i ≤ (m_n g0 N - 1) → ∀ (H : Heap) (locs : List Loc) (ls : Array Slot), va_P D vwCl (mw cI cZ ad th (nI N) pa pe g0 g1 g2) H → va_S q_no s.heap H locs → lv_has ls 3 [(1, .int (m_ma g0 g1 g2 N i)), (2, .int (nI i)), (0, .ref (ad 0))] → W p l e ({ frames := 6, cells := 0, slots := 0, locals := 130 } : Room) s m [.ref (ad 0)].toArray below meth c H locs 0 0 (q_EI below [.ref (ad 0)].toArray s (m_ma g0 g1 g2 N (m_n g0 N - 1))) (F0 m 4 ls []) := by
    intro fu
    induction fu with
    | zero => intro i hi; exact absurd hi (Nat.not_lt_zero _)
    | succ fu ih =>
      intro i hi hiN H locs ls hP hS hl
      refine lv_iload_n hx hb dX1_mendsAll_4 rfl (lv_at hl 1 rfl) ?_
      refine lv_aload_n hx hb dX1_mendsAll_5 rfl (lv_at hl 2 rfl) ?_
      refine q_callV (As := []) (rest := [.int (nI i)]) ⟨hx, hb, hml, hown, hts⟩ (c_X1_many l D cI cZ ad th N pa pe g0 g1 g2 hN) (cwV 0 hts gX1_mendsAll_X1_many rfl rfl rfl kv_X1_many ⟨Nat.le_of_ble_eq_true rfl, Nat.le_of_ble_eq_true rfl⟩) (va_recv hK hP (ci := 1) (q0 := 0) rfl rfl) hP hK rfl hl.1 rfl (Nat.le_of_ble_eq_true rfl) dX1_mendsAll_6 (Nat.zero_le _) (Nat.zero_le _) hS (fun H locs hsm hS => ?_)
      have hP := hsm.P hP
      refine lv_iconst (v := 1) hx hb dX1_mendsAll_9 (by decide) ?_
      refine lv_isub hx hb dX1_mendsAll_10 ?_
      refine lv_icmp_ge (tgt := 28) hx hb dX1_mendsAll_11 (by decide) (fun c_11 => ?_) (fun c_11 => ?_)
      · have hi9 := m_gt (by omega) hiN c_11
        refine lv_iload_n hx hb dX1_mendsAll_28 rfl (lv_at hl 0 rfl) ?_
        exact q_retI hx hb hr hlocks hS (by rw [hi9]) dX1_mendsAll_29
      · have hi9 := m_gf (by omega) hiN c_11
        refine lv_iload_n hx hb dX1_mendsAll_14 rfl (lv_at hl 0 rfl) ?_
        refine lv_aload_n hx hb dX1_mendsAll_15 rfl (lv_at hl 2 rfl) ?_
        refine lv_iload_n hx hb dX1_mendsAll_16 rfl (lv_at hl 1 rfl) ?_
        refine q_callV (As := [.int (nI i)]) (rest := [.int (m_ma g0 g1 g2 N i)]) ⟨hx, hb, hml, hown, hts⟩ (c_X1_mends l D cI cZ ad th N pa pe g0 g1 g2 hN i (by omega)) (cwV 1 hts gX1_mendsAll_X1_mends rfl rfl rfl kv_X1_mends ⟨Nat.le_of_ble_eq_true rfl, Nat.le_of_ble_eq_true rfl⟩) (va_recv hK hP (ci := 1) (q0 := 0) rfl rfl) hP hK rfl hl.1 rfl (Nat.le_of_ble_eq_true rfl) dX1_mendsAll_17 (Nat.zero_le _) (Nat.zero_le _) hS (fun H locs hsm hS => ?_)
        have hP := hsm.P hP
        refine lv_iadd hx hb dX1_mendsAll_20 ?_
        refine lv_istore_n (lv' := [(1, .int ((m_ma g0 g1 g2 N i) + (m_md g0 g1 g2 N i))), (2, .int (nI i)), (0, .ref (ad 0))]) hx hb dX1_mendsAll_21 rfl hl (by decide) rfl (fun ls hl => ?_)
        refine lv_iinc (v := ((nI i) + 1)) (lv' := [(2, .int ((nI i) + 1)), (1, .int ((m_ma g0 g1 g2 N i) + (m_md g0 g1 g2 N i))), (0, .ref (ad 0))]) hx hb dX1_mendsAll_22 hl (k := 1) rfl (by rfl) (by decide) rfl (fun ls hl => ?_)
        refine lv_goto (tgt := 4) hx hb dX1_mendsAll_25 (by decide) ?_
        have e_2 : (((nI i) + 1) : Int32) = (nI (i + 1)) := nI_1 i
        exact ih (i + 1) (by omega) (by omega) H locs ls hP hS (lv_eq (lv_sub (l' := [(1, .int (m_ma g0 g1 g2 N (i + 1))), (2, .int ((nI i) + 1)), (0, .ref (ad 0))]) hl [1, 0, 2] rfl) (by rw [e_2]))
  exact lo_4 ((m_n g0 N - 1) + 1) 0 (by omega) (by omega) H locs ls hP hS (lv_sub hl [1, 0, 2] rfl)

theorem kv_X1_spliced : yX1_spliced.cls = RX1 ∧ yX1_spliced.cls ≠ "java/lang/invoke/MethodHandle" ∧ yX1_spliced.cls ≠ "java/lang/invoke/VarHandle" ∧ (parseMethodDescriptor yX1_spliced.desc).map (fun d => d.parameters.length) = some 1 := by decide +kernel
theorem ks_X1_spliced : yX1_spliced.cls ≠ "java/lang/invoke/MethodHandle" ∧ yX1_spliced.cls ≠ "java/lang/invoke/VarHandle" ∧ (parseMethodDescriptor yX1_spliced.desc).map (fun d => d.parameters.length) = some 1 := kv_X1_spliced.2
set_option maxHeartbeats 4000000 in
set_option maxRecDepth 100000 in
theorem c_X1_spliced (l : Launch) (D : va_G) (cI cZ : ClassId) (ad : Nat → Nat) (th : Int32) (N : Nat) (pa pe : Int32) (g0 g1 g2 : Nat → Int32) (hN : N ≤ 24) (g : Nat) (hg : g + 1 < m_n g0 N) : q_I l yX1_spliced wsX1_spliced ({ frames := 6, cells := 0, slots := 0, locals := 129 } : Room) D ([(cI, .int), (cZ, .boolean)]) (mw cI cZ ad th (nI N) pa pe g0 g1 g2) [.ref (ad 0), .int (nI g)] (m_sp g0 g1 g2 N g) := by
  refine q_startI (cc := cX1_spliced) (maxL := 5) (rt := .int) (by decide) rfl (Nat.le_of_ble_eq_true rfl) ?_
  intro p e s m below meth c hx hb hml hr hts hown hlocks hK H locs ls hP hS hl
  have hin : ∀ w ∈ wsX10, w ∈ wsX1_spliced := by decide +kernel
  have hl : lv_has ls 5 [(0, .ref (ad 0)), (1, .int (nI g))] := hl
  refine lv_aload_n hx hb dX1_spliced_0 rfl (lv_at hl 0 rfl) ?_
  refine va_get (D := D) (ci := 1) (v := .ref (ad 1)) (C := RX1) (T := TX1) (N := 7) hx hb hts hin hown hK hP 0 rfl rfl 4 (by decide) (hts (.fieldLink RX1 13 "SplicedTalkModel" "topic" "[I") (by decide +kernel)) (fun _ h9 => h9) rfl dX1_spliced_1 ?_
  refine lv_aload_n hx hb dX1_spliced_4 rfl (lv_at hl 0 rfl) ?_
  refine lv_iload_n hx hb dX1_spliced_5 rfl (lv_at hl 1 rfl) ?_
  refine q_callV (As := [.int (nI g)]) (rest := [.ref (ad 1)]) ⟨hx, hb, hml, hown, hts⟩ (c_X1_from l D cI cZ ad th N pa pe g0 g1 g2 hN g (by omega)) (cwV 1 hts gX1_spliced_X1_from rfl rfl rfl kv_X1_from ⟨Nat.le_of_ble_eq_true rfl, Nat.le_of_ble_eq_true rfl⟩) (va_recv hK hP (ci := 1) (q0 := 0) rfl rfl) hP hK rfl hl.1 rfl (Nat.le_of_ble_eq_true rfl) dX1_spliced_6 (Nat.zero_le _) (Nat.zero_le _) hS (fun H locs hsm hS => ?_)
  have hP := hsm.P hP
  refine va_iald hx hb hK hP 1 0 rfl rfl (vp_in_nI (by have := hN; have := m_P_lt (g0 := g0) (N := N) (k := g) (by omega); omega) (by decide)) dX1_spliced_9 ?_
  rw [nI_clamp (by have := hN; have := m_P_lt (g0 := g0) (N := N) (k := g) (by omega); omega)]
  refine lv_istore_n (lv' := [(2, .int (g0 (m_P g0 N g))), (0, .ref (ad 0)), (1, .int (nI g))]) hx hb dX1_spliced_10 rfl hl (by decide) rfl (fun ls hl => ?_)
  refine lv_aload_n hx hb dX1_spliced_11 rfl (lv_at hl 1 rfl) ?_
  refine va_get (D := D) (ci := 1) (v := .ref (ad 1)) (C := RX1) (T := TX1) (N := 7) hx hb hts hin hown hK hP 0 rfl rfl 4 (by decide) (hts (.fieldLink RX1 13 "SplicedTalkModel" "topic" "[I") (by decide +kernel)) (fun _ h9 => h9) rfl dX1_spliced_12 ?_
  refine lv_aload_n hx hb dX1_spliced_15 rfl (lv_at hl 1 rfl) ?_
  refine lv_iload_n hx hb dX1_spliced_16 rfl (lv_at hl 2 rfl) ?_
  refine q_callV (As := [.int (nI g)]) (rest := [.ref (ad 1)]) ⟨hx, hb, hml, hown, hts⟩ (c_X1_to l D cI cZ ad th N pa pe g0 g1 g2 hN g (by omega)) (cwV 1 hts gX1_spliced_X1_to rfl rfl rfl kv_X1_to ⟨Nat.le_of_ble_eq_true rfl, Nat.le_of_ble_eq_true rfl⟩) (va_recv hK hP (ci := 1) (q0 := 0) rfl rfl) hP hK rfl hl.1 rfl (Nat.le_of_ble_eq_true rfl) dX1_spliced_17 (Nat.zero_le _) (Nat.zero_le _) hS (fun H locs hsm hS => ?_)
  have hP := hsm.P hP
  refine va_iald hx hb hK hP 1 0 rfl rfl (vp_in_nI (by have := hN; have := m_P_lt (g0 := g0) (N := N) (k := (g + 1)) (by omega); omega) (by decide)) dX1_spliced_20 ?_
  rw [nI_clamp (by have := hN; have := m_P_lt (g0 := g0) (N := N) (k := (g + 1)) (by omega); omega)]
  refine lv_istore_n (lv' := [(3, .int (g0 (m_P g0 N (g + 1)))), (2, .int (g0 (m_P g0 N g))), (0, .ref (ad 0)), (1, .int (nI g))]) hx hb dX1_spliced_21 rfl hl (by decide) rfl (fun ls hl => ?_)
  refine lv_iload_n hx hb dX1_spliced_22 rfl (lv_at hl 1 rfl) ?_
  refine lv_iload_n hx hb dX1_spliced_23 rfl (lv_at hl 0 rfl) ?_
  refine q_callS (As := [.int (g0 (m_P g0 N g)), .int (g0 (m_P g0 N (g + 1)))]) (rest := []) ⟨hx, hb, hml, hown, hts⟩ (c_X1_half l D (g0 (m_P g0 N g)) (g0 (m_P g0 N (g + 1)))) (va_cwS 2 hts gX1_spliced_X1_half rfl rfl rfl ks_X1_half ⟨Nat.le_of_ble_eq_true rfl, Nat.le_of_ble_eq_true rfl⟩) (hP.sub [] rfl) (hK.sub [] rfl) rfl hl.1 rfl (Nat.le_of_ble_eq_true rfl) dX1_spliced_24 (Nat.zero_le _) (Nat.zero_le _) hS (fun H locs hsm hS => ?_)
  have hP := hsm.P hP
  refine lv_iload_n hx hb dX1_spliced_27 rfl (lv_at hl 0 rfl) ?_
  refine q_callS (As := [.int (m_half (g0 (m_P g0 N g)) (g0 (m_P g0 N (g + 1)))), .int (g0 (m_P g0 N (g + 1)))]) (rest := []) ⟨hx, hb, hml, hown, hts⟩ (c_X1_apart l D (m_half (g0 (m_P g0 N g)) (g0 (m_P g0 N (g + 1)))) (g0 (m_P g0 N (g + 1)))) (va_cwS 2 hts gX1_spliced_X1_apart rfl rfl rfl ks_X1_apart ⟨Nat.le_of_ble_eq_true rfl, Nat.le_of_ble_eq_true rfl⟩) (hP.sub [] rfl) (hK.sub [] rfl) rfl hl.1 rfl (Nat.le_of_ble_eq_true rfl) dX1_spliced_28 (Nat.zero_le _) (Nat.zero_le _) hS (fun H locs hsm hS => ?_)
  have hP := hsm.P hP
  refine lv_aload_n hx hb dX1_spliced_31 rfl (lv_at hl 2 rfl) ?_
  refine lv_iload_n hx hb dX1_spliced_32 rfl (lv_at hl 3 rfl) ?_
  refine q_callV (As := [.int (nI g)]) (rest := [.int (x_ds (m_half (g0 (m_P g0 N g)) (g0 (m_P g0 N (g + 1)))) (g0 (m_P g0 N (g + 1))))]) ⟨hx, hb, hml, hown, hts⟩ (c_X1_coughsOf l D cI cZ ad th N pa pe g0 g1 g2 hN g (by omega)) (cwV 1 hts gX1_spliced_X1_coughsOf rfl rfl rfl kv_X1_coughsOf ⟨Nat.le_of_ble_eq_true rfl, Nat.le_of_ble_eq_true rfl⟩) (va_recv hK hP (ci := 1) (q0 := 0) rfl rfl) hP hK rfl hl.1 rfl (Nat.le_of_ble_eq_true rfl) dX1_spliced_33 (Nat.zero_le _) (Nat.zero_le _) hS (fun H locs hsm hS => ?_)
  have hP := hsm.P hP
  refine lv_iadd hx hb dX1_spliced_36 ?_
  refine lv_aload_n hx hb dX1_spliced_37 rfl (lv_at hl 2 rfl) ?_
  refine lv_iload_n hx hb dX1_spliced_38 rfl (lv_at hl 3 rfl) ?_
  refine q_callV (As := [.int (nI g)]) (rest := [.int ((x_ds (m_half (g0 (m_P g0 N g)) (g0 (m_P g0 N (g + 1)))) (g0 (m_P g0 N (g + 1)))) + (m_cg g0 N g))]) ⟨hx, hb, hml, hown, hts⟩ (c_X1_areSame l D cI cZ ad th N pa pe g0 g1 g2 hN g (by omega)) (cwV 1 hts gX1_spliced_X1_areSame rfl rfl rfl kv_X1_areSame ⟨Nat.le_of_ble_eq_true rfl, Nat.le_of_ble_eq_true rfl⟩) (va_recv hK hP (ci := 1) (q0 := 0) rfl rfl) hP hK rfl hl.1 rfl (Nat.le_of_ble_eq_true rfl) dX1_spliced_39 (Nat.zero_le _) (Nat.zero_le _) hS (fun H locs hsm hS => ?_)
  have hP := hsm.P hP
  refine q_callS (As := [.int ((x_ds (m_half (g0 (m_P g0 N g)) (g0 (m_P g0 N (g + 1)))) (g0 (m_P g0 N (g + 1)))) + (m_cg g0 N g)), .int (bI (m_sm g0 g1 N g))]) (rest := []) ⟨hx, hb, hml, hown, hts⟩ (c_X1_isPoliteOr l D ((x_ds (m_half (g0 (m_P g0 N g)) (g0 (m_P g0 N (g + 1)))) (g0 (m_P g0 N (g + 1)))) + (m_cg g0 N g)) (m_sm g0 g1 N g)) (va_cwS 2 hts gX1_spliced_X1_isPoliteOr rfl rfl rfl ks_X1_isPoliteOr ⟨Nat.le_of_ble_eq_true rfl, Nat.le_of_ble_eq_true rfl⟩) (hP.sub [] rfl) (hK.sub [] rfl) rfl hl.1 rfl (Nat.le_of_ble_eq_true rfl) dX1_spliced_42 (Nat.zero_le _) (Nat.zero_le _) hS (fun H locs hsm hS => ?_)
  have hP := hsm.P hP
  suffices K_45 : ∀ v9 : Int32, v9 = (bI (!(m_po ((x_ds (m_half (g0 (m_P g0 N g)) (g0 (m_P g0 N (g + 1)))) (g0 (m_P g0 N (g + 1)))) + (m_cg g0 N g)) (m_sm g0 g1 N g)))) → W p l e ({ frames := 6, cells := 0, slots := 0, locals := 129 } : Room) s m [.ref (ad 0), .int (nI g)].toArray below meth c H locs 0 0 (q_EI below [.ref (ad 0), .int (nI g)].toArray s (m_sp g0 g1 g2 N g)) (F0 m 53 ls [.int v9]) from by
    refine lv_if_ne (tgt := 52) hx hb dX1_spliced_45 (by decide) (fun c_45 => ?_) (fun c_45 => ?_)
    · refine lv_iconst (v := 0) hx hb dX1_spliced_52 (by decide) ?_
      exact K_45 _ (by rw [bI_n0.mp c_45]; rfl)
    · refine lv_iconst (v := 1) hx hb dX1_spliced_48 (by decide) ?_
      refine lv_goto (tgt := 53) hx hb dX1_spliced_49 (by decide) ?_
      exact K_45 _ (by rw [bI_0.mp c_45]; rfl)
  intro v9 hv9
  rw [hv9]; clear hv9
  refine lv_istore (lv' := [(4, .int (bI (!(m_po ((x_ds (m_half (g0 (m_P g0 N g)) (g0 (m_P g0 N (g + 1)))) (g0 (m_P g0 N (g + 1)))) + (m_cg g0 N g)) (m_sm g0 g1 N g))))), (3, .int (g0 (m_P g0 N (g + 1)))), (2, .int (g0 (m_P g0 N g))), (0, .ref (ad 0)), (1, .int (nI g))]) hx hb dX1_spliced_53 hl (by decide) rfl (fun ls hl => ?_)
  refine lv_aload_n hx hb dX1_spliced_55 rfl (lv_at hl 3 rfl) ?_
  refine q_callV (As := []) (rest := []) ⟨hx, hb, hml, hown, hts⟩ (c_X1_allBroken l D cI cZ ad th N pa pe g0 g1 g2 hN) (cwV 0 hts gX1_spliced_X1_allBroken rfl rfl rfl kv_X1_allBroken ⟨Nat.le_of_ble_eq_true rfl, Nat.le_of_ble_eq_true rfl⟩) (va_recv hK hP (ci := 1) (q0 := 0) rfl rfl) hP hK rfl hl.1 rfl (Nat.le_of_ble_eq_true rfl) dX1_spliced_56 (Nat.zero_le _) (Nat.zero_le _) hS (fun H locs hsm hS => ?_)
  have hP := hsm.P hP
  refine lv_aload_n hx hb dX1_spliced_59 rfl (lv_at hl 3 rfl) ?_
  refine lv_iload_n hx hb dX1_spliced_60 rfl (lv_at hl 4 rfl) ?_
  refine q_callV (As := [.int (nI g)]) (rest := [.int (nI (m_ab g0 g1 g2 N))]) ⟨hx, hb, hml, hown, hts⟩ (c_X1_broken l D cI cZ ad th N pa pe g0 g1 g2 hN g (by omega)) (cwV 1 hts gX1_spliced_X1_broken rfl rfl rfl kv_X1_broken ⟨Nat.le_of_ble_eq_true rfl, Nat.le_of_ble_eq_true rfl⟩) (va_recv hK hP (ci := 1) (q0 := 0) rfl rfl) hP hK rfl hl.1 rfl (Nat.le_of_ble_eq_true rfl) dX1_spliced_61 (Nat.zero_le _) (Nat.zero_le _) hS (fun H locs hsm hS => ?_)
  have hP := hsm.P hP
  suffices K_64 : ∀ v9 : Int32, v9 = (bI (m_br g0 g1 g2 N g)) → W p l e ({ frames := 6, cells := 0, slots := 0, locals := 129 } : Room) s m [.ref (ad 0), .int (nI g)].toArray below meth c H locs 0 0 (q_EI below [.ref (ad 0), .int (nI g)].toArray s (m_sp g0 g1 g2 N g)) (F0 m 72 ls [.int v9, .int (nI (m_ab g0 g1 g2 N))]) from by
    refine lv_if_eq (tgt := 71) hx hb dX1_spliced_64 (by decide) (fun c_64 => ?_) (fun c_64 => ?_)
    · refine lv_iconst (v := 0) hx hb dX1_spliced_71 (by decide) ?_
      exact K_64 _ (by rw [bI_0.mp c_64]; rfl)
    · refine lv_iconst (v := 1) hx hb dX1_spliced_67 (by decide) ?_
      refine lv_goto (tgt := 72) hx hb dX1_spliced_68 (by decide) ?_
      exact K_64 _ (by rw [bI_n0.mp c_64]; rfl)
  intro v9 hv9
  rw [hv9]; clear hv9
  refine lv_isub hx hb dX1_spliced_72 ?_
  refine lv_iload hx hb dX1_spliced_73 (lv_at hl 0 rfl) ?_
  suffices K_75 : ∀ v9 : Int32, v9 = (bI (!(m_po ((x_ds (m_half (g0 (m_P g0 N g)) (g0 (m_P g0 N (g + 1)))) (g0 (m_P g0 N (g + 1)))) + (m_cg g0 N g)) (m_sm g0 g1 N g)))) → W p l e ({ frames := 6, cells := 0, slots := 0, locals := 129 } : Room) s m [.ref (ad 0), .int (nI g)].toArray below meth c H locs 0 0 (q_EI below [.ref (ad 0), .int (nI g)].toArray s (m_sp g0 g1 g2 N g)) (F0 m 83 ls [.int v9, .int ((nI (m_ab g0 g1 g2 N)) - (bI (m_br g0 g1 g2 N g)))]) from by
    refine lv_if_eq (tgt := 82) hx hb dX1_spliced_75 (by decide) (fun c_75 => ?_) (fun c_75 => ?_)
    · refine lv_iconst (v := 0) hx hb dX1_spliced_82 (by decide) ?_
      exact K_75 _ (by rw [bI_0.mp c_75]; rfl)
    · refine lv_iconst (v := 1) hx hb dX1_spliced_78 (by decide) ?_
      refine lv_goto (tgt := 83) hx hb dX1_spliced_79 (by decide) ?_
      exact K_75 _ (by rw [bI_n0.mp c_75]; rfl)
  intro v9 hv9
  rw [hv9]; clear hv9
  refine lv_iadd hx hb dX1_spliced_83 ?_
  exact q_retI hx hb hr hlocks hS rfl dX1_spliced_84

theorem kv_X1_best : yX1_best.cls = RX1 ∧ yX1_best.cls ≠ "java/lang/invoke/MethodHandle" ∧ yX1_best.cls ≠ "java/lang/invoke/VarHandle" ∧ (parseMethodDescriptor yX1_best.desc).map (fun d => d.parameters.length) = some 0 := by decide +kernel
theorem ks_X1_best : yX1_best.cls ≠ "java/lang/invoke/MethodHandle" ∧ yX1_best.cls ≠ "java/lang/invoke/VarHandle" ∧ (parseMethodDescriptor yX1_best.desc).map (fun d => d.parameters.length) = some 0 := kv_X1_best.2
set_option maxHeartbeats 4000000 in
set_option maxRecDepth 100000 in
theorem c_X1_best (l : Launch) (D : va_G) (cI cZ : ClassId) (ad : Nat → Nat) (th : Int32) (N : Nat) (pa pe : Int32) (g0 g1 g2 : Nat → Int32) (hN : N ≤ 24) : q_I l yX1_best wsX1_best ({ frames := 7, cells := 0, slots := 0, locals := 153 } : Room) D ([(cI, .int), (cZ, .boolean)]) (mw cI cZ ad th (nI N) pa pe g0 g1 g2) [.ref (ad 0)] ((m_bs g0 g1 g2 N (m_n g0 N - 1)).1) := by
  refine q_startI (cc := cX1_best) (maxL := 4) (rt := .int) (by decide) rfl (Nat.le_of_ble_eq_true rfl) ?_
  intro p e s m below meth c hx hb hml hr hts hown hlocks hK H locs ls hP hS hl
  have hin : ∀ w ∈ wsX10, w ∈ wsX1_best := by decide +kernel
  have hl : lv_has ls 4 [(0, .ref (ad 0))] := hl
  have hm := m_n_le g0 N
  refine lv_iconst (v := -1) hx hb dX1_best_0 (by decide) ?_
  refine lv_istore_n (lv' := [(1, .int (-1)), (0, .ref (ad 0))]) hx hb dX1_best_1 rfl hl (by decide) rfl (fun ls hl => ?_)
  refine lv_aload_n hx hb dX1_best_2 rfl (lv_at hl 1 rfl) ?_
  refine q_callV (As := []) (rest := []) ⟨hx, hb, hml, hown, hts⟩ (c_X1_allBroken l D cI cZ ad th N pa pe g0 g1 g2 hN) (cwV 0 hts gX1_best_X1_allBroken rfl rfl rfl kv_X1_allBroken ⟨Nat.le_of_ble_eq_true rfl, Nat.le_of_ble_eq_true rfl⟩) (va_recv hK hP (ci := 1) (q0 := 0) rfl rfl) hP hK rfl hl.1 rfl (Nat.le_of_ble_eq_true rfl) dX1_best_3 (Nat.zero_le _) (Nat.zero_le _) hS (fun H locs hsm hS => ?_)
  have hP := hsm.P hP
  refine lv_istore_n (lv' := [(2, .int (nI (m_ab g0 g1 g2 N))), (1, .int (-1)), (0, .ref (ad 0))]) hx hb dX1_best_6 rfl hl (by decide) rfl (fun ls hl => ?_)
  refine lv_iconst (v := 0) hx hb dX1_best_7 (by decide) ?_
  refine lv_istore_n (lv' := [(3, .int 0), (2, .int (nI (m_ab g0 g1 g2 N))), (1, .int (-1)), (0, .ref (ad 0))]) hx hb dX1_best_8 rfl hl (by decide) rfl (fun ls hl => ?_)
  have lo_9 : ∀ (fu i : Nat), (m_n g0 N - 1) - i < fu → i ≤ (m_n g0 N - 1) → ∀ (H : Heap) (locs : List Loc) (ls : Array Slot), va_P D vwCl (mw cI cZ ad th (nI N) pa pe g0 g1 g2) H → va_S q_no s.heap H locs → lv_has ls 4 [(1, .int ((m_bs g0 g1 g2 N i).1)), (2, .int ((m_bs g0 g1 g2 N i).2)), (3, .int (nI i)), (0, .ref (ad 0))] → W p l e ({ frames := 7, cells := 0, slots := 0, locals := 153 } : Room) s m [.ref (ad 0)].toArray below meth c H locs 0 0 (q_EI below [.ref (ad 0)].toArray s ((m_bs g0 g1 g2 N (m_n g0 N - 1)).1)) (F0 m 9 ls []) := by
    intro fu
    induction fu with
    | zero => intro i hi; exact absurd hi (Nat.not_lt_zero _)
    | succ fu ih =>
      intro i hi hiN H locs ls hP hS hl
      refine lv_iload_n hx hb dX1_best_9 rfl (lv_at hl 2 rfl) ?_
      refine lv_aload_n hx hb dX1_best_10 rfl (lv_at hl 3 rfl) ?_
      refine q_callV (As := []) (rest := [.int (nI i)]) ⟨hx, hb, hml, hown, hts⟩ (c_X1_many l D cI cZ ad th N pa pe g0 g1 g2 hN) (cwV 0 hts gX1_best_X1_many rfl rfl rfl kv_X1_many ⟨Nat.le_of_ble_eq_true rfl, Nat.le_of_ble_eq_true rfl⟩) (va_recv hK hP (ci := 1) (q0 := 0) rfl rfl) hP hK rfl hl.1 rfl (Nat.le_of_ble_eq_true rfl) dX1_best_11 (Nat.zero_le _) (Nat.zero_le _) hS (fun H locs hsm hS => ?_)
      have hP := hsm.P hP
      refine lv_iconst (v := 1) hx hb dX1_best_14 (by decide) ?_
      refine lv_isub hx hb dX1_best_15 ?_
      refine lv_icmp_ge (tgt := 58) hx hb dX1_best_16 (by decide) (fun c_16 => ?_) (fun c_16 => ?_)
      · have hi9 := m_gt (by omega) hiN c_16
        refine lv_iload_n hx hb dX1_best_58 rfl (lv_at hl 0 rfl) ?_
        exact q_retI hx hb hr hlocks hS (by rw [hi9]) dX1_best_59
      · have hi9 := m_gf (by omega) hiN c_16
        refine lv_aload_n hx hb dX1_best_19 rfl (lv_at hl 3 rfl) ?_
        refine va_get (D := D) (ci := 1) (v := .ref (ad 3)) (C := RX1) (T := TX1) (N := 7) hx hb hts hin hown hK hP 0 rfl rfl 6 (by decide) (hts (.fieldLink RX1 20 "SplicedTalkModel" "tied" "[Z") (by decide +kernel)) (fun _ h9 => h9) rfl dX1_best_20 ?_
        refine lv_aload_n hx hb dX1_best_23 rfl (lv_at hl 3 rfl) ?_
        refine lv_iload_n hx hb dX1_best_24 rfl (lv_at hl 2 rfl) ?_
        refine q_callV (As := [.int (nI i)]) (rest := [.ref (ad 3)]) ⟨hx, hb, hml, hown, hts⟩ (c_X1_from l D cI cZ ad th N pa pe g0 g1 g2 hN i (by omega)) (cwV 1 hts gX1_best_X1_from rfl rfl rfl kv_X1_from ⟨Nat.le_of_ble_eq_true rfl, Nat.le_of_ble_eq_true rfl⟩) (va_recv hK hP (ci := 1) (q0 := 0) rfl rfl) hP hK rfl hl.1 rfl (Nat.le_of_ble_eq_true rfl) dX1_best_25 (Nat.zero_le _) (Nat.zero_le _) hS (fun H locs hsm hS => ?_)
        have hP := hsm.P hP
        refine va_zald hx hb hK hP 3 1 rfl rfl (vp_in_nI (by have := hN; have := m_P_lt (g0 := g0) (N := N) (k := i) (by omega); omega) (by decide)) dX1_best_28 ?_
        rw [nI_clamp (by have := hN; have := m_P_lt (g0 := g0) (N := N) (k := i) (by omega); omega)]
        refine lv_if_ne (tgt := 52) hx hb dX1_best_29 (by decide) (fun c_29 => ?_) (fun c_29 => ?_)
        · refine lv_iinc (v := ((nI i) + 1)) (lv' := [(3, .int ((nI i) + 1)), (1, .int ((m_bs g0 g1 g2 N i).1)), (2, .int ((m_bs g0 g1 g2 N i).2)), (0, .ref (ad 0))]) hx hb dX1_best_52 hl (k := 2) rfl (by rfl) (by decide) rfl (fun ls hl => ?_)
          refine lv_goto (tgt := 9) hx hb dX1_best_55 (by decide) ?_
          have e_1 : ((m_bs g0 g1 g2 N i).1 : Int32) = (m_bs g0 g1 g2 N (i + 1)).1 := (by rw [m_bs_s, if_neg (fun h => by rw [m_ti_1 c_29] at h; exact absurd h.1 (by decide))])
          have e_2 : ((m_bs g0 g1 g2 N i).2 : Int32) = (m_bs g0 g1 g2 N (i + 1)).2 := (by rw [m_bs_s, if_neg (fun h => by rw [m_ti_1 c_29] at h; exact absurd h.1 (by decide))])
          have e_3 : (((nI i) + 1) : Int32) = (nI (i + 1)) := nI_1 i
          exact ih (i + 1) (by omega) (by omega) H locs ls hP hS (lv_eq (lv_sub (l' := [(1, .int ((m_bs g0 g1 g2 N i).1)), (2, .int ((m_bs g0 g1 g2 N i).2)), (3, .int ((nI i) + 1)), (0, .ref (ad 0))]) hl [1, 2, 0, 3] rfl) (by rw [e_1, e_2, e_3]))
        · refine lv_aload_n hx hb dX1_best_32 rfl (lv_at hl 3 rfl) ?_
          refine lv_iload_n hx hb dX1_best_33 rfl (lv_at hl 2 rfl) ?_
          refine q_callV (As := [.int (nI i)]) (rest := []) ⟨hx, hb, hml, hown, hts⟩ (c_X1_spliced l D cI cZ ad th N pa pe g0 g1 g2 hN i (by omega)) (cwV 1 hts gX1_best_X1_spliced rfl rfl rfl kv_X1_spliced ⟨Nat.le_of_ble_eq_true rfl, Nat.le_of_ble_eq_true rfl⟩) (va_recv hK hP (ci := 1) (q0 := 0) rfl rfl) hP hK rfl hl.1 rfl (Nat.le_of_ble_eq_true rfl) dX1_best_34 (Nat.zero_le _) (Nat.zero_le _) hS (fun H locs hsm hS => ?_)
          have hP := hsm.P hP
          refine lv_iload_n hx hb dX1_best_37 rfl (lv_at hl 1 rfl) ?_
          refine lv_icmp_lt (tgt := 44) hx hb dX1_best_38 (by decide) (fun c_38 => ?_) (fun c_38 => ?_)
          · refine lv_iload_n hx hb dX1_best_44 rfl (lv_at hl 2 rfl) ?_
            refine lv_istore_n (lv' := [(1, .int (nI i)), (2, .int ((m_bs g0 g1 g2 N i).2)), (3, .int (nI i)), (0, .ref (ad 0))]) hx hb dX1_best_45 rfl hl (by decide) rfl (fun ls hl => ?_)
            refine lv_aload_n hx hb dX1_best_46 rfl (lv_at hl 3 rfl) ?_
            refine lv_iload_n hx hb dX1_best_47 rfl (lv_at hl 2 rfl) ?_
            refine q_callV (As := [.int (nI i)]) (rest := []) ⟨hx, hb, hml, hown, hts⟩ (c_X1_spliced l D cI cZ ad th N pa pe g0 g1 g2 hN i (by omega)) (cwV 1 hts gX1_best_X1_spliced rfl rfl rfl kv_X1_spliced ⟨Nat.le_of_ble_eq_true rfl, Nat.le_of_ble_eq_true rfl⟩) (va_recv hK hP (ci := 1) (q0 := 0) rfl rfl) hP hK rfl hl.1 rfl (Nat.le_of_ble_eq_true rfl) dX1_best_48 (Nat.zero_le _) (Nat.zero_le _) hS (fun H locs hsm hS => ?_)
            have hP := hsm.P hP
            refine lv_istore_n (lv' := [(2, .int (m_sp g0 g1 g2 N i)), (1, .int (nI i)), (3, .int (nI i)), (0, .ref (ad 0))]) hx hb dX1_best_51 rfl hl (by decide) rfl (fun ls hl => ?_)
            refine lv_iinc (v := ((nI i) + 1)) (lv' := [(3, .int ((nI i) + 1)), (2, .int (m_sp g0 g1 g2 N i)), (1, .int (nI i)), (0, .ref (ad 0))]) hx hb dX1_best_52 hl (k := 2) rfl (by rfl) (by decide) rfl (fun ls hl => ?_)
            refine lv_goto (tgt := 9) hx hb dX1_best_55 (by decide) ?_
            have e_1 : ((nI i) : Int32) = (m_bs g0 g1 g2 N (i + 1)).1 := (by rw [m_bs_s, if_pos ⟨m_ti_0 c_29, c_38⟩])
            have e_2 : ((m_sp g0 g1 g2 N i) : Int32) = (m_bs g0 g1 g2 N (i + 1)).2 := (by rw [m_bs_s, if_pos ⟨m_ti_0 c_29, c_38⟩])
            have e_3 : (((nI i) + 1) : Int32) = (nI (i + 1)) := nI_1 i
            exact ih (i + 1) (by omega) (by omega) H locs ls hP hS (lv_eq (lv_sub (l' := [(1, .int (nI i)), (2, .int (m_sp g0 g1 g2 N i)), (3, .int ((nI i) + 1)), (0, .ref (ad 0))]) hl [2, 1, 0, 3] rfl) (by rw [e_2, e_3, e_1]))
          · refine lv_goto (tgt := 52) hx hb dX1_best_41 (by decide) ?_
            refine lv_iinc (v := ((nI i) + 1)) (lv' := [(3, .int ((nI i) + 1)), (1, .int ((m_bs g0 g1 g2 N i).1)), (2, .int ((m_bs g0 g1 g2 N i).2)), (0, .ref (ad 0))]) hx hb dX1_best_52 hl (k := 2) rfl (by rfl) (by decide) rfl (fun ls hl => ?_)
            refine lv_goto (tgt := 9) hx hb dX1_best_55 (by decide) ?_
            have e_1 : ((m_bs g0 g1 g2 N i).1 : Int32) = (m_bs g0 g1 g2 N (i + 1)).1 := (by rw [m_bs_s, if_neg (fun h => c_38 h.2)])
            have e_2 : ((m_bs g0 g1 g2 N i).2 : Int32) = (m_bs g0 g1 g2 N (i + 1)).2 := (by rw [m_bs_s, if_neg (fun h => c_38 h.2)])
            have e_3 : (((nI i) + 1) : Int32) = (nI (i + 1)) := nI_1 i
            exact ih (i + 1) (by omega) (by omega) H locs ls hP hS (lv_eq (lv_sub (l' := [(1, .int ((m_bs g0 g1 g2 N i).1)), (2, .int ((m_bs g0 g1 g2 N i).2)), (3, .int ((nI i) + 1)), (0, .ref (ad 0))]) hl [1, 2, 0, 3] rfl) (by rw [e_1, e_2, e_3]))
  exact lo_9 ((m_n g0 N - 1) + 1) 0 (by omega) (by omega) H locs ls hP hS (lv_sub hl [2, 1, 0, 3] rfl)
