/-! own rows: what the class's methods answer, in the words of its own code -/
def i_abs (x : Int32) : Int32 := if 0 ≤ x then x else 0 - x
def i_min (x y : Int32) : Int32 := if y < x then y else x
/-- counting, and going through a range -/
def ct (p : Nat → Bool) : Nat → Nat
  | 0 => 0
  | n + 1 => ct p n + (if p n = true then 1 else 0)
def fo {α : Type} (f : Nat → α → α) (a : α) : Nat → α
  | 0 => a
  | n + 1 => f n (fo f a n)
theorem ct_s (p : Nat → Bool) (n : Nat) : ct p (n + 1) = ct p n + (if p n = true then 1 else 0) := rfl
theorem ct_t {p : Nat → Bool} {n : Nat} (h : p n = true) : ct p (n + 1) = ct p n + 1 := by rw [ct_s, if_pos h]
theorem ct_f {p : Nat → Bool} {n : Nat} (h : ¬ p n = true) : ct p (n + 1) = ct p n := by rw [ct_s, if_neg h, Nat.add_zero]
theorem ct_le (p : Nat → Bool) : ∀ n, ct p n ≤ n
  | 0 => Nat.le_refl 0
  | n + 1 => by
    have h := ct_le p n
    rw [ct_s]
    split <;> omega
theorem fo_s {α : Type} (f : Nat → α → α) (a : α) (n : Nat) : fo f a (n + 1) = f n (fo f a n) := rfl
theorem nI_ge' {i N : Nat} (hi : i ≤ N) (hN : N < 2 ^ 31) (h : nI N ≤ nI i) : i = N := by
  rcases Nat.lt_or_ge i N with q | q
  · exact absurd h (nI_ge q hN)
  · omega
theorem nI_lt' {i N : Nat} (hi : i ≤ N) (hN : N < 2 ^ 31) (h : ¬ nI N ≤ nI i) : i < N := by
  rcases Nat.lt_or_ge i N with q | q
  · exact q
  · exact absurd (nI_le (by omega : N ≤ i) (by omega)) h
/-- an index within, by its two tests -/
theorem vp_in_c {i : Int32} {n : Nat} {N : Int32} (hN : N = nI n) (hn : n < 2 ^ 31) (h1 : ¬ i < 0) (h2 : ¬ N ≤ i) : vp_in i n := by
  obtain ⟨j, hj, rfl⟩ := nI_of h1
  subst hN
  refine vp_in_nI ?_ hn
  rcases Nat.lt_or_ge j n with q | q
  · exact q
  · exact absurd (nI_le q hj) h2
/-- the class's object and its five rows -/
abbrev xw (cI : ClassId) (ad : Nat → Nat) (n w t pa pe : Int32) (f0 f1 f2 f3 f4 : Nat → Int32) : va_W :=
  [(ad 0, .inr (0, [.ref (ad 1), .ref (ad 2), .ref (ad 3), .int n, .ref (ad 4), .ref (ad 5), .int w, .int t, .int pa, .int pe])), (ad 1, .inl (cI, 24, .inl f0)), (ad 2, .inl (cI, 24, .inl f1)), (ad 3, .inl (cI, 24, .inl f2)), (ad 4, .inl (cI, 24, .inl f3)), (ad 5, .inl (cI, 24, .inl f4))]
def rd (f : Nat → Int32) (i : Int32) : Int32 := if i < 0 then 0 else if 24 ≤ i then 0 else f i.toNatClampNeg
def wr (f : Nat → Int32) (i v : Int32) : Nat → Int32 := if i < 0 then f else if 24 ≤ i then f else upd f i.toNatClampNeg v
def x_ds (a b : Int32) : Int32 := i_min (i_abs (a - b)) (10 - i_abs (a - b))
def x_most (b : Bool) : Int32 := if b = true then 4 else 2
def x_kind (b : Bool) (x : Int32) (o : Bool) : Int32 := if b = true then 0 else if x ≤ 1 then 0 else if x ≤ x_most o then 1 else 2
def x_fm (a b : Int32) : Int32 := if 0 ≤ a ^^^ b then a - a / b * b else if a - a / b * b = 0 then a - a / b * b else a - a / b * b + b
def x_btw (a b : Int32) : Int32 := x_fm (if x_fm (b - a) 10 ≤ 5 then a + x_ds a b / 2 else a - x_ds a b / 2) 10
def x_cs (f1 : Nat → Int32) (p : Int32) : Bool := decide (rd f1 p = -1)
def x_sp (f0 f3 : Nat → Int32) (g : Int32) : Int32 := rd f0 (rd f3 g)
def x_tp (f1 f3 : Nat → Int32) (g : Int32) : Int32 := rd f1 (rd f3 g)
def x_ti (f2 f3 : Nat → Int32) (g : Int32) : Bool := decide (rd f2 (rd f3 g) = 1)
def x_one (f0 f3 : Nat → Int32) (g : Int32) : Bool := decide (x_sp f0 f3 g = x_sp f0 f3 (g + 1))
def x_cg (f3 : Nat → Int32) (g : Int32) : Int32 := rd f3 (g + 1) - rd f3 g - 1
def x_st (f1 f3 : Nat → Int32) (g : Int32) : Int32 := x_ds (x_tp f1 f3 g) (x_tp f1 f3 (g + 1)) + x_cg f3 g
def x_kg (f0 f1 f2 f3 : Nat → Int32) (g : Int32) : Int32 := x_kind (x_ti f2 f3 g) (x_st f1 f3 g) (x_one f0 f3 g)
def x_gc (w : Int32) : Int32 := if w = 0 then 0 else w - 1
def x_gk (f0 f1 f2 f3 : Nat → Int32) (k : Int32) (N : Nat) : Int32 := nI (ct (fun g => decide (x_kg f0 f1 f2 f3 (nI g) = k)) (N - 1))
def x_wt (f4 : Nat → Int32) (t : Int32) (N : Nat) : Int32 := nI (ct (fun k => decide (rd f4 (nI k) = t)) N)
def x_mc (f0 f1 f2 f3 : Nat → Int32) (g : Int32) : Int32 :=
  if x_kg f0 f1 f2 f3 g = 2 then (if x_st f1 f3 g - x_most (x_one f0 f3 g) ≤ x_cg f3 g then i_min 3 ((x_st f1 f3 g - x_most (x_one f0 f3 g)) * 1) else 3) else 0
def x_bc (f0 f1 f2 f3 : Nat → Int32) (g : Int32) : Int32 :=
  bI (decide (x_kind false (x_ds (x_tp f1 f3 g) (x_btw (x_tp f1 f3 g) (x_tp f1 f3 (g + 1)))) true = 2)) + bI (decide (x_kind false (x_ds (x_btw (x_tp f1 f3 g) (x_tp f1 f3 (g + 1))) (x_tp f1 f3 (g + 1)) + x_cg f3 g) (x_one f0 f3 g) = 2)) - bI (decide (x_kg f0 f1 f2 f3 g = 2))
theorem x_gc_nI {N : Nat} (h : N < 2 ^ 31) : x_gc (nI N) = nI (N - 1) := by
  unfold x_gc
  cases N with
  | zero => rfl
  | succ k =>
    rw [if_neg (nI_ne0 (by omega) h), nI_pred]
    rfl
def x_mix (d : Int64) (x : Int32) : Int64 := d * 31 + x.toInt64
/-- .. the longest thread, and how many words it has -/
def x_lg (f4 : Nat → Int32) (N : Nat) : Nat → Int32 × Int32 := fo (fun t a => if a.2 < x_wt f4 (nI t) N then (nI t, x_wt f4 (nI t) N) else a) (-1, 0)
def x_ca (f0 f1 f2 f3 : Nat → Int32) : Nat → Int32 := fo (fun g a => a + x_mc f0 f1 f2 f3 (nI g)) 0
def x_bs (f0 f1 f2 f3 : Nat → Int32) : Nat → Int32 × Int32 := fo (fun g a => if x_ti f2 f3 (nI g) = false ∧ x_bc f0 f1 f2 f3 (nI g) < a.2 then (nI g, x_bc f0 f1 f2 f3 (nI g)) else a) (-1, 0)
def x_ss (f1 f3 : Nat → Int32) : Nat → Int32 := fo (fun g a => a + x_st f1 f3 (nI g)) 0
def x_mr (f0 f1 : Nat → Int32) (d : Int64) : Nat → Int64 := fo (fun p d => x_mix (x_mix d (bI (x_cs f1 (nI p)))) (rd f0 (nI p))) d
def x_mw (f1 f3 f4 : Nat → Int32) (d : Int64) : Nat → Int64 := fo (fun k d => x_mix (x_mix (x_mix d (rd f3 (nI k))) (x_tp f1 f3 (nI k))) (rd f4 (nI k))) d
def x_mg (f0 f1 f2 f3 : Nat → Int32) (d : Int64) : Nat → Int64 := fo (fun g d => x_mix (x_mix (x_mix (x_mix (x_mix d (x_cg f3 (nI g))) (x_st f1 f3 (nI g))) (bI (x_ti f2 f3 (nI g)))) (bI (decide (x_kg f0 f1 f2 f3 (nI g) = 2)))) (x_mc f0 f1 f2 f3 (nI g))) d
