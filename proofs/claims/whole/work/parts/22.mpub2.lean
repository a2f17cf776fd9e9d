/-! own rows, written by wip/whole/mpub2.py: the reference's bits, masks and means -/
def pcn (v : Nat) : Nat := ct (fun j => v.testBit j) 31
theorem ct_cong {p q : Nat → Bool} : ∀ {n : Nat}, (∀ k, k < n → p k = q k) → ct p n = ct q n
  | 0, _ => rfl
  | n + 1, h => by rw [ct_s, ct_s, ct_cong (fun k hk => h k (by omega)), h n (by omega)]
theorem ct_shift (p : Nat → Bool) : ∀ n, ct p (n + 1) = (if p 0 = true then 1 else 0) + ct (fun j => p (j + 1)) n
  | 0 => by rw [ct_s]; show 0 + _ = _ + 0; omega
  | n + 1 => by rw [ct_s, ct_shift p n, ct_s]; omega
theorem pcn_0 : pcn 0 = 0 := by decide +kernel
theorem pcn_s {v : Nat} (h : v < 2 ^ 31) : pcn v = v % 2 + pcn (v / 2) := by
  unfold pcn
  rw [ct_shift (fun j => v.testBit j) 30, ct_s (fun j => (v / 2).testBit j) 30]
  have e : ∀ j, v.testBit (j + 1) = (v / 2).testBit j := fun j => Nat.testBit_succ v j
  have h30 : (v / 2).testBit 30 = false := Nat.testBit_lt_two_pow (by omega)
  rw [h30, if_neg Bool.false_ne_true, Nat.add_zero, ct_cong (fun k _ => e k)]
  congr 1
  rw [Nat.testBit_zero]
  have := Nat.mod_two_eq_zero_or_one v
  rcases this with q | q <;> simp [q]
theorem fa_or (a b : Nat) : nI a ||| nI b = nI (a ||| b) := by
  apply Int32.toBitVec_inj.1
  show BitVec.ofNat 32 a ||| BitVec.ofNat 32 b = BitVec.ofNat 32 (a ||| b)
  apply BitVec.eq_of_getLsbD_eq
  intro i hi
  simp [hi]
theorem s_l : ∀ n, n < 32 → ((nI n &&& 31).toBitVec.smod 32).toNat = n := by decide +kernel
theorem k_or1 {a k : Nat} (hk : k < 31) : nI a ||| ((1 : Int32) <<< (nI k &&& 31)) = nI (a ||| 2 ^ k) := by
  have h1 : (2 : Nat) ^ k < 2 ^ 31 := Nat.pow_lt_pow_right (by decide) hk
  have h := pk_shlN (n := 1) (nI k &&& 31) k (s_l k (by omega)) (by rw [Nat.one_mul]; omega)
  rw [Nat.one_mul] at h
  rw [show (1 : Int32) = nI 1 from rfl, h, fa_or]
theorem k_b1 {v : Nat} (h : v < 2 ^ 31) : nI v - nI v / 2 * 2 = nI (v % 2) := pk_rem (d := 2) h (by decide) (by decide)
theorem k_b2 {v : Nat} (h : v < 2 ^ 31) : nI v / 2 = nI (v / 2) := pk_div (d := 2) h (by decide) (by decide)
theorem k_b0 {v : Nat} (h : v < 2 ^ 31) (e : nI v ≤ 0) : v = 0 := by
  rcases Nat.eq_zero_or_pos v with q | q
  · exact q
  · exact absurd e (nI_nle q h)
def m_wo (g0 g1 : Nat → Int32) (N : Nat) (s : Int32) : Nat := ct (fun p => decide (0 ≤ g0 p) && decide (g1 p = s)) N
def m_ts (g0 g1 g2 : Nat → Int32) (N : Nat) (s : Int32) : Nat → Nat := fo (fun w a => if g1 (m_P g0 N w) = s then a ||| 2 ^ m_th g0 g1 g2 N w else a) 0
theorem m_ts_s (g0 g1 g2 : Nat → Int32) (N : Nat) (s : Int32) (w : Nat) : m_ts g0 g1 g2 N s (w + 1) = if g1 (m_P g0 N w) = s then m_ts g0 g1 g2 N s w ||| 2 ^ m_th g0 g1 g2 N w else m_ts g0 g1 g2 N s w := rfl
theorem m_th_le (g0 g1 g2 : Nat → Int32) (N k : Nat) : m_th g0 g1 g2 N k ≤ k := ct_le _ k
theorem m_ts_lt (g0 g1 g2 : Nat → Int32) (N : Nat) (s : Int32) : ∀ w, w ≤ 24 → m_ts g0 g1 g2 N s w < 2 ^ 24
  | 0, _ => by show 0 < _; decide
  | w + 1, h => by
    have ih := m_ts_lt g0 g1 g2 N s w (by omega)
    rw [m_ts_s]
    split
    · exact Nat.or_lt_two_pow ih (Nat.pow_lt_pow_right (by decide) (by have := m_th_le g0 g1 g2 N w; omega))
    · exact ih
def m_tq (g0 g1 g2 : Nat → Int32) (N : Nat) (t : Int32) : Nat → Nat := fo (fun w a => if nI (m_th g0 g1 g2 N w) = t then a ||| 2 ^ (g0 (m_P g0 N w)).toNatClampNeg else a) 0
theorem m_tq_s (g0 g1 g2 : Nat → Int32) (N : Nat) (t : Int32) (w : Nat) : m_tq g0 g1 g2 N t (w + 1) = if nI (m_th g0 g1 g2 N w) = t then m_tq g0 g1 g2 N t w ||| 2 ^ (g0 (m_P g0 N w)).toNatClampNeg else m_tq g0 g1 g2 N t w := rfl
/-- every word's topic is 0 to 9 -/
def m_hT (g0 : Nat → Int32) (N : Nat) : Prop := ∀ k : Nat, k < m_n g0 N → ∃ t : Nat, t < 10 ∧ g0 (m_P g0 N k) = nI t
theorem m_tq_lt {g0 : Nat → Int32} (g1 g2 : Nat → Int32) {N : Nat} (t : Int32) (hT : m_hT g0 N) : ∀ w, w ≤ m_n g0 N → m_tq g0 g1 g2 N t w < 2 ^ 10
  | 0, _ => by show 0 < _; decide
  | w + 1, h => by
    have ih := m_tq_lt g1 g2 t hT w (by omega)
    rw [m_tq_s]
    split
    · obtain ⟨u, hu, e⟩ := hT w (by omega)
      rw [e, nI_clamp (by omega)]
      exact Nat.or_lt_two_pow ih (Nat.pow_lt_pow_right (by decide) hu)
    · exact ih
theorem m_tq_1 {g0 : Nat → Int32} (g1 g2 : Nat → Int32) {N : Nat} (t : Int32) (hT : m_hT g0 N) {w : Nat} (hw : w < m_n g0 N) (h : nI (m_th g0 g1 g2 N w) = t) : nI (m_tq g0 g1 g2 N t w) ||| ((1 : Int32) <<< (g0 (m_P g0 N w) &&& 31)) = nI (m_tq g0 g1 g2 N t (w + 1)) := by
  obtain ⟨u, hu, e⟩ := hT w hw
  rw [m_tq_s, if_pos h, e, nI_clamp (by omega), k_or1 (by omega)]
def m_wb (g0 g1 : Nat → Int32) (N : Nat) (x1 x2 : Int32) : Bool :=
  if m_n g0 N = 0 then false else !m_po (x_ds (g0 (m_P g0 N (m_n g0 N - 1))) x2 + nI N - 1 - nI (m_P g0 N (m_n g0 N - 1))) (decide (g1 (m_P g0 N (m_n g0 N - 1)) = x1))
def m_ss (g0 : Nat → Int32) (N : Nat) : Nat → Int32 := fo (fun g a => a + m_st g0 N g) 0
def m_ms (g0 : Nat → Int32) (N : Nat) : UInt64 := if m_n g0 N - 1 = 0 then FP.dconst0 else FP.ddiv (FP.i2d (m_ss g0 N (m_n g0 N - 1))) (FP.i2d (nI (m_n g0 N - 1)))
theorem m_ms_1 {n : Nat} (hn : n ≤ 24) (h : 1 ≤ nI n - 1) : ¬ n - 1 = 0 := by
  intro e
  rcases (by omega : n = 0 ∨ n = 1) with rfl | rfl
  · exact absurd h (by decide)
  · exact absurd h (by decide)
theorem m_ms_0 {n : Nat} (hn : n ≤ 24) (h : ¬ 1 ≤ nI n - 1) : n - 1 = 0 := by
  rcases Nat.lt_or_ge 1 n with q | q
  · obtain ⟨k, rfl⟩ : ∃ k, n = k + 2 := ⟨n - 2, by omega⟩
    rw [nI_pred] at h
    exact absurd (nI_le (a := 1) (by omega) (by omega)) h
  · omega
theorem kv_X1_bits : yX1_bits.cls = RX1 ∧ yX1_bits.cls ≠ "java/lang/invoke/MethodHandle" ∧ yX1_bits.cls ≠ "java/lang/invoke/VarHandle" ∧ (parseMethodDescriptor yX1_bits.desc).map (fun d => d.parameters.length) = some 1 := by decide +kernel
theorem ks_X1_bits : yX1_bits.cls ≠ "java/lang/invoke/MethodHandle" ∧ yX1_bits.cls ≠ "java/lang/invoke/VarHandle" ∧ (parseMethodDescriptor yX1_bits.desc).map (fun d => d.parameters.length) = some 1 := kv_X1_bits.2
set_option maxHeartbeats 4000000 in
set_option maxRecDepth 100000 in
theorem c_X1_bits (l : Launch) (D : va_G) (x1 : Nat) (hx1 : x1 < 2 ^ 31) : q_I l yX1_bits wsX1_bits ({ frames := 0, cells := 0, slots := 0, locals := 0 } : Room) D ([]) ([]) [.int (nI x1)] (nI (pcn x1)) := by
  refine q_startI (cc := cX1_bits) (maxL := 3) (rt := .int) (by decide) rfl (Nat.le_of_ble_eq_true rfl) ?_
  intro p e s m below meth c hx hb hml hr hts hown hlocks hK H locs ls hP hS hl
  have hl : lv_has ls 3 [(0, .int (nI x1))] := hl
  refine lv_iconst (v := 0) hx hb dX1_bits_0 (by decide) ?_
  refine lv_istore_n (lv' := [(1, .int 0), (0, .int (nI x1))]) hx hb dX1_bits_1 rfl hl (by decide) rfl (fun ls hl => ?_)
  refine lv_iload_n hx hb dX1_bits_2 rfl (lv_at hl 1 rfl) ?_
  refine lv_istore_n (lv' := [(2, .int (nI x1)), (1, .int 0), (0, .int (nI x1))]) hx hb dX1_bits_3 rfl hl (by decide) rfl (fun ls hl => ?_)
  have lo_4 : ∀ (fu v a : Nat), v < fu → v < 2 ^ 31 → a + pcn v = pcn x1 → ∀ (H : Heap) (locs : List Loc) (ls : Array Slot), va_P D vwCl [] H → va_S q_no s.heap H locs → lv_has ls 3 [(1, .int (nI a)), (2, .int (nI v)), (0, .int (nI x1))] → W p l e ({ frames := 0, cells := 0, slots := 0, locals := 0 } : Room) s m [.int (nI x1)].toArray below meth c H locs 0 0 (q_EI below [.int (nI x1)].toArray s (nI (pcn x1))) (F0 m 4 ls []) := by
    intro fu
    induction fu with
    | zero => intro v a hi; exact absurd hi (Nat.not_lt_zero _)
    | succ fu ih =>
      intro v a hi hv hs H locs ls hP hS hl
      refine lv_iload_n hx hb dX1_bits_4 rfl (lv_at hl 1 rfl) ?_
      refine lv_if_le (tgt := 21) hx hb dX1_bits_5 (by decide) (fun c_5 => ?_) (fun c_5 => ?_)
      · have hv0 := k_b0 hv c_5
        refine lv_iload_n hx hb dX1_bits_21 rfl (lv_at hl 0 rfl) ?_
        exact q_retI hx hb hr hlocks hS (by rw [hv0, pcn_0, Nat.add_zero] at hs; rw [hs]) dX1_bits_22
      · have hv0 : ¬ v = 0 := fun h => c_5 (by rw [h]; decide)
        refine lv_iload_n hx hb dX1_bits_8 rfl (lv_at hl 0 rfl) ?_
        refine lv_iload_n hx hb dX1_bits_9 rfl (lv_at hl 1 rfl) ?_
        refine lv_iconst (v := 2) hx hb dX1_bits_10 (by decide) ?_
        refine lv_irem hx hb dX1_bits_11 (by decide) ?_
        rw [k_b1 hv]
        refine lv_iadd hx hb dX1_bits_12 ?_
        rw [nI_add]
        refine lv_istore_n (lv' := [(1, .int (nI (a + v % 2))), (2, .int (nI v)), (0, .int (nI x1))]) hx hb dX1_bits_13 rfl hl (by decide) rfl (fun ls hl => ?_)
        refine lv_iload_n hx hb dX1_bits_14 rfl (lv_at hl 1 rfl) ?_
        refine lv_iconst (v := 2) hx hb dX1_bits_15 (by decide) ?_
        refine lv_idiv hx hb dX1_bits_16 (by decide) ?_
        rw [k_b2 hv]
        refine lv_istore_n (lv' := [(2, .int (nI (v / 2))), (1, .int (nI (a + v % 2))), (0, .int (nI x1))]) hx hb dX1_bits_17 rfl hl (by decide) rfl (fun ls hl => ?_)
        refine lv_goto (tgt := 4) hx hb dX1_bits_18 (by decide) ?_
        exact ih (v / 2) (a + v % 2) (by omega) (by omega) (by rw [← hs, pcn_s hv]; omega) H locs ls hP hS (lv_sub hl [1, 0, 2] rfl)
  exact lo_4 (x1 + 1) x1 0 (by omega) hx1 (Nat.zero_add _) H locs ls hP hS (lv_sub hl [1, 0, 2] rfl)

theorem kv_X1_thrown : yX1_thrown.cls = RX1 ∧ yX1_thrown.cls ≠ "java/lang/invoke/MethodHandle" ∧ yX1_thrown.cls ≠ "java/lang/invoke/VarHandle" ∧ (parseMethodDescriptor yX1_thrown.desc).map (fun d => d.parameters.length) = some 0 := by decide +kernel
theorem ks_X1_thrown : yX1_thrown.cls ≠ "java/lang/invoke/MethodHandle" ∧ yX1_thrown.cls ≠ "java/lang/invoke/VarHandle" ∧ (parseMethodDescriptor yX1_thrown.desc).map (fun d => d.parameters.length) = some 0 := kv_X1_thrown.2
set_option maxHeartbeats 4000000 in
set_option maxRecDepth 100000 in
theorem c_X1_thrown (l : Launch) (D : va_G) (cI cZ : ClassId) (ad : Nat → Nat) (th : Int32) (N : Nat) (pa pe : Int32) (g0 g1 g2 : Nat → Int32) (hN : N ≤ 24) : q_I l yX1_thrown wsX1_thrown ({ frames := 0, cells := 0, slots := 0, locals := 0 } : Room) D ([(cI, .int), (cZ, .boolean)]) (mw cI cZ ad th (nI N) pa pe g0 g1 g2) [.ref (ad 0)] th := by
  refine q_startI (cc := cX1_thrown) (maxL := 1) (rt := .int) (by decide) rfl (Nat.le_of_ble_eq_true rfl) ?_
  intro p e s m below meth c hx hb hml hr hts hown hlocks hK H locs ls hP hS hl
  have hin : ∀ w ∈ wsX10, w ∈ wsX1_thrown := by decide +kernel
  have hl : lv_has ls 1 [(0, .ref (ad 0))] := hl
  refine lv_aload_n hx hb dX1_thrown_0 rfl (lv_at hl 0 rfl) ?_
  refine va_get (D := D) (ci := 1) (v := .int th) (C := RX1) (T := TX1) (N := 7) hx hb hts hin hown hK hP 0 rfl rfl 0 (by decide) (hts (.fieldLink RX1 24 "SplicedTalkModel" "thrown" "I") (by decide +kernel)) (fun _ h9 => h9) rfl dX1_thrown_1 ?_
  exact q_retI hx hb hr hlocks hS rfl dX1_thrown_4

theorem kv_X1_wordsOf : yX1_wordsOf.cls = RX1 ∧ yX1_wordsOf.cls ≠ "java/lang/invoke/MethodHandle" ∧ yX1_wordsOf.cls ≠ "java/lang/invoke/VarHandle" ∧ (parseMethodDescriptor yX1_wordsOf.desc).map (fun d => d.parameters.length) = some 1 := by decide +kernel
theorem ks_X1_wordsOf : yX1_wordsOf.cls ≠ "java/lang/invoke/MethodHandle" ∧ yX1_wordsOf.cls ≠ "java/lang/invoke/VarHandle" ∧ (parseMethodDescriptor yX1_wordsOf.desc).map (fun d => d.parameters.length) = some 1 := kv_X1_wordsOf.2
set_option maxHeartbeats 4000000 in
set_option maxRecDepth 100000 in
theorem c_X1_wordsOf_1 (l : Launch) (D : va_G) (cI cZ : ClassId) (ad : Nat → Nat) (th : Int32) (N : Nat) (pa pe : Int32) (g0 g1 g2 : Nat → Int32) (hN : N ≤ 24) (x1 : Int32) (h1 : m_in x1 0 5 = false) : m_I l yX1_wordsOf wsX1_wordsOf ({ frames := 2, cells := 0, slots := 0, locals := 42 } : Room) D ([(cI, .int), (cZ, .boolean)]) (mw cI cZ ad th (nI N) pa pe g0 g1 g2) [.ref (ad 0), .int x1] 0 (mw cI cZ ad 1 (nI N) pa pe g0 g1 g2) := by
  refine m_startI (cc := cX1_wordsOf) (maxL := 4) (rt := .int) (by decide) rfl (Nat.le_of_ble_eq_true rfl) ?_
  intro p e s m below meth c A hx hb hml hr hts hown hlocks hK hA H locs ls hP hD hS hl
  have hin : ∀ w ∈ wsX10, w ∈ wsX1_wordsOf := by decide +kernel
  have hl : lv_has ls 4 [(0, .ref (ad 0)), (1, .int x1)] := hl
  refine lv_aload_n hx hb dX1_wordsOf_0 rfl (lv_at hl 0 rfl) ?_
  refine lv_iconst (v := 0) hx hb dX1_wordsOf_1 (by decide) ?_
  refine va_put (D := D) (ci := 1) (v := .int 0) (ty := .int) (C := RX1) (T := TX1) (N := 7) hx hb hts hin tyX1 tyX1_ok nmX1 hown hK hP hD hS 0 rfl rfl 0 (by decide) (hts (.fieldLink RX1 24 "SplicedTalkModel" "thrown" "I") (by decide +kernel)) (fun _ h9 => h9) rfl (by decide +kernel) rfl rfl (Nat.le_of_ble_eq_true rfl) dX1_wordsOf_2 (fun H locs hP hD hS => ?_)
  have hP : va_P D vwCl (mw cI cZ ad 0 (nI N) pa pe g0 g1 g2) H := hP
  have hD : va_D A (mw cI cZ ad 0 (nI N) pa pe g0 g1 g2) := q_Dc (L := [ad 0, ad 1, ad 2, ad 3]) hD rfl rfl
  refine lv_iload_n hx hb dX1_wordsOf_5 rfl (lv_at hl 1 rfl) ?_
  refine q_callS (As := [.int x1]) (rest := []) ⟨hx, hb, hml, hown, hts⟩ (c_X1_isSpeaker l D x1) (va_cwS 1 hts gX1_wordsOf_X1_isSpeaker rfl rfl rfl ks_X1_isSpeaker ⟨Nat.le_of_ble_eq_true rfl, Nat.le_of_ble_eq_true rfl⟩) (hP.sub [] rfl) (hK.sub [] rfl) rfl hl.1 rfl (Nat.le_of_ble_eq_true rfl) dX1_wordsOf_6 (Nat.zero_le _) (Nat.zero_le _) hS (fun H locs hsm hS => ?_)
  have hP := hsm.P hP
  refine lv_if_ne (tgt := 18) hx hb dX1_wordsOf_9 (by decide) (fun h9 => absurd (bI_0.mpr h1) h9) (fun c_9 => ?_)
  refine lv_aload_n hx hb dX1_wordsOf_12 rfl (lv_at hl 0 rfl) ?_
  refine lv_iconst (v := 1) hx hb dX1_wordsOf_13 (by decide) ?_
  refine m_callVI (As := [.int 1]) (rest := []) (Wr := []) (W2 := (mw cI cZ ad 1 (nI N) pa pe g0 g1 g2)) ⟨hx, hb, hml, hown, hts⟩ (c_X1_fail l D cI cZ ad 0 N pa pe g0 g1 g2 hN 1) (cwV 1 hts gX1_wordsOf_X1_fail rfl rfl rfl kv_X1_fail ⟨Nat.le_of_ble_eq_true rfl, Nat.le_of_ble_eq_true rfl⟩) (va_recv hK hP (ci := 1) (q0 := 0) rfl rfl) hP hD hK hA [0, 1, 2, 3] [] [0, 1, 2, 3] rfl rfl rfl rfl rfl (by decide) rfl rfl rfl hl.1 rfl (Nat.le_of_ble_eq_true rfl) dX1_wordsOf_14 (Nat.zero_le _) (Nat.zero_le _) hS (fun H locs hP hS => ?_)
  have hD : va_D A (mw cI cZ ad 1 (nI N) pa pe g0 g1 g2) := q_Dc (L := [ad 0, ad 1, ad 2, ad 3]) hD rfl rfl
  exact m_retI hx hb hr hlocks hS hP rfl dX1_wordsOf_17

set_option maxHeartbeats 4000000 in
set_option maxRecDepth 100000 in
theorem c_X1_wordsOf_ok (l : Launch) (D : va_G) (cI cZ : ClassId) (ad : Nat → Nat) (th : Int32) (N : Nat) (pa pe : Int32) (g0 g1 g2 : Nat → Int32) (hN : N ≤ 24) (x1 : Int32) (h1 : m_in x1 0 5 = true) : m_I l yX1_wordsOf wsX1_wordsOf ({ frames := 2, cells := 0, slots := 0, locals := 42 } : Room) D ([(cI, .int), (cZ, .boolean)]) (mw cI cZ ad th (nI N) pa pe g0 g1 g2) [.ref (ad 0), .int x1] (nI (m_wo g0 g1 N x1)) (mw cI cZ ad 0 (nI N) pa pe g0 g1 g2) := by
  refine m_startI (cc := cX1_wordsOf) (maxL := 4) (rt := .int) (by decide) rfl (Nat.le_of_ble_eq_true rfl) ?_
  intro p e s m below meth c A hx hb hml hr hts hown hlocks hK hA H locs ls hP hD hS hl
  have hin : ∀ w ∈ wsX10, w ∈ wsX1_wordsOf := by decide +kernel
  have hl : lv_has ls 4 [(0, .ref (ad 0)), (1, .int x1)] := hl
  refine lv_aload_n hx hb dX1_wordsOf_0 rfl (lv_at hl 0 rfl) ?_
  refine lv_iconst (v := 0) hx hb dX1_wordsOf_1 (by decide) ?_
  refine va_put (D := D) (ci := 1) (v := .int 0) (ty := .int) (C := RX1) (T := TX1) (N := 7) hx hb hts hin tyX1 tyX1_ok nmX1 hown hK hP hD hS 0 rfl rfl 0 (by decide) (hts (.fieldLink RX1 24 "SplicedTalkModel" "thrown" "I") (by decide +kernel)) (fun _ h9 => h9) rfl (by decide +kernel) rfl rfl (Nat.le_of_ble_eq_true rfl) dX1_wordsOf_2 (fun H locs hP hD hS => ?_)
  have hP : va_P D vwCl (mw cI cZ ad 0 (nI N) pa pe g0 g1 g2) H := hP
  have hD : va_D A (mw cI cZ ad 0 (nI N) pa pe g0 g1 g2) := q_Dc (L := [ad 0, ad 1, ad 2, ad 3]) hD rfl rfl
  refine lv_iload_n hx hb dX1_wordsOf_5 rfl (lv_at hl 1 rfl) ?_
  refine q_callS (As := [.int x1]) (rest := []) ⟨hx, hb, hml, hown, hts⟩ (c_X1_isSpeaker l D x1) (va_cwS 1 hts gX1_wordsOf_X1_isSpeaker rfl rfl rfl ks_X1_isSpeaker ⟨Nat.le_of_ble_eq_true rfl, Nat.le_of_ble_eq_true rfl⟩) (hP.sub [] rfl) (hK.sub [] rfl) rfl hl.1 rfl (Nat.le_of_ble_eq_true rfl) dX1_wordsOf_6 (Nat.zero_le _) (Nat.zero_le _) hS (fun H locs hsm hS => ?_)
  have hP := hsm.P hP
  refine lv_if_ne (tgt := 18) hx hb dX1_wordsOf_9 (by decide) (fun c_9 => ?_) (fun h9 => absurd (h1.symm.trans (bI_0.mp h9)) (by decide))
  refine lv_iconst (v := 0) hx hb dX1_wordsOf_18 (by decide) ?_
  refine lv_istore_n (lv' := [(2, .int 0), (0, .ref (ad 0)), (1, .int x1)]) hx hb dX1_wordsOf_19 rfl hl (by decide) rfl (fun ls hl => ?_)
  refine lv_iconst (v := 0) hx hb dX1_wordsOf_20 (by decide) ?_
  refine lv_istore_n (lv' := [(3, .int 0), (2, .int 0), (0, .ref (ad 0)), (1, .int x1)]) hx hb dX1_wordsOf_21 rfl hl (by decide) rfl (fun ls hl => ?_)
  have lo_22 : ∀ (fu i : Nat), N - i < fu → i ≤ N → ∀ (H : Heap) (locs : List Loc) (ls : Array Slot), va_P D vwCl (mw cI cZ ad 0 (nI N) pa pe g0 g1 g2) H → va_S A s.heap H locs → lv_has ls 4 [(2, .int (nI (ct (fun p => decide (0 ≤ g0 p) && decide (g1 p = x1)) i))), (3, .int (nI i)), (0, .ref (ad 0)), (1, .int x1)] → W p l e ({ frames := 2, cells := 0, slots := 0, locals := 42 } : Room) s m [.ref (ad 0), .int x1].toArray below meth c H locs 0 0 (m_EI D below [.ref (ad 0), .int x1].toArray s (nI (m_wo g0 g1 N x1)) (mw cI cZ ad 0 (nI N) pa pe g0 g1 g2) A) (F0 m 22 ls []) := by
    intro fu
    induction fu with
    | zero => intro i hi; exact absurd hi (Nat.not_lt_zero _)
    | succ fu ih =>
      intro i hi hiN H locs ls hP hS hl
      have hD : va_D A (mw cI cZ ad 0 (nI N) pa pe g0 g1 g2) := q_Dc (L := [ad 0, ad 1, ad 2, ad 3]) hD rfl rfl
      refine lv_iload_n hx hb dX1_wordsOf_22 rfl (lv_at hl 1 rfl) ?_
      refine lv_aload_n hx hb dX1_wordsOf_23 rfl (lv_at hl 2 rfl) ?_
      refine va_get (D := D) (ci := 1) (v := .int (nI N)) (C := RX1) (T := TX1) (N := 7) hx hb hts hin hown hK hP 0 rfl rfl 1 (by decide) (hts (.fieldLink RX1 31 "SplicedTalkModel" "remarks" "I") (by decide +kernel)) (fun _ h9 => h9) rfl dX1_wordsOf_24 ?_
      refine lv_icmp_ge (tgt := 63) hx hb dX1_wordsOf_27 (by decide) (fun c_27 => ?_) (fun c_27 => ?_)
      · have hi9 := nI_ge' hiN (by omega) c_27
        refine lv_iload_n hx hb dX1_wordsOf_63 rfl (lv_at hl 0 rfl) ?_
        exact m_retI hx hb hr hlocks hS hP (by rw [hi9]; rfl) dX1_wordsOf_64
      · have hi9 := nI_lt' hiN (by omega) c_27
        refine lv_iload_n hx hb dX1_wordsOf_30 rfl (lv_at hl 0 rfl) ?_
        refine lv_aload_n hx hb dX1_wordsOf_31 rfl (lv_at hl 2 rfl) ?_
        refine va_get (D := D) (ci := 1) (v := .ref (ad 1)) (C := RX1) (T := TX1) (N := 7) hx hb hts hin hown hK hP 0 rfl rfl 4 (by decide) (hts (.fieldLink RX1 13 "SplicedTalkModel" "topic" "[I") (by decide +kernel)) (fun _ h9 => h9) rfl dX1_wordsOf_32 ?_
        refine lv_iload_n hx hb dX1_wordsOf_35 rfl (lv_at hl 1 rfl) ?_
        refine va_iald hx hb hK hP 1 0 rfl rfl (vp_in_nI (by have := hN; skip; omega) (by decide)) dX1_wordsOf_36 ?_
        rw [nI_clamp (by have := hN; skip; omega)]
        refine lv_if_lt (tgt := 54) hx hb dX1_wordsOf_37 (by decide) (fun c_37 => ?_) (fun c_37 => ?_)
        · refine lv_iconst (v := 0) hx hb dX1_wordsOf_54 (by decide) ?_
          refine lv_iadd hx hb dX1_wordsOf_55 ?_
          refine lv_istore_n (lv' := [(2, .int ((nI (ct (fun p => decide (0 ≤ g0 p) && decide (g1 p = x1)) i)) + 0)), (3, .int (nI i)), (0, .ref (ad 0)), (1, .int x1)]) hx hb dX1_wordsOf_56 rfl hl (by decide) rfl (fun ls hl => ?_)
          refine lv_iinc (v := ((nI i) + 1)) (lv' := [(3, .int ((nI i) + 1)), (2, .int ((nI (ct (fun p => decide (0 ≤ g0 p) && decide (g1 p = x1)) i)) + 0)), (0, .ref (ad 0)), (1, .int x1)]) hx hb dX1_wordsOf_57 hl (k := 1) rfl (by rfl) (by decide) rfl (fun ls hl => ?_)
          refine lv_goto (tgt := 22) hx hb dX1_wordsOf_60 (by decide) ?_
          have e_2 : (((nI (ct (fun p => decide (0 ≤ g0 p) && decide (g1 p = x1)) i)) + 0) : Int32) = (nI (ct (fun p => decide (0 ≤ g0 p) && decide (g1 p = x1)) (i + 1))) := (by rw [ct_f (by rw [decide_eq_false (Int32.not_le.mpr c_37)]; exact Bool.false_ne_true), Int32.add_zero])
          have e_3 : (((nI i) + 1) : Int32) = (nI (i + 1)) := nI_1 i
          exact ih (i + 1) (by omega) (by omega) H locs ls hP hS (lv_eq (lv_sub (l' := [(2, .int ((nI (ct (fun p => decide (0 ≤ g0 p) && decide (g1 p = x1)) i)) + 0)), (3, .int ((nI i) + 1)), (0, .ref (ad 0)), (1, .int x1)]) hl [1, 0, 2, 3] rfl) (by rw [e_2, e_3]))
        · refine lv_aload_n hx hb dX1_wordsOf_40 rfl (lv_at hl 2 rfl) ?_
          refine va_get (D := D) (ci := 1) (v := .ref (ad 2)) (C := RX1) (T := TX1) (N := 7) hx hb hts hin hown hK hP 0 rfl rfl 5 (by decide) (hts (.fieldLink RX1 17 "SplicedTalkModel" "speaker" "[I") (by decide +kernel)) (fun _ h9 => h9) rfl dX1_wordsOf_41 ?_
          refine lv_iload_n hx hb dX1_wordsOf_44 rfl (lv_at hl 1 rfl) ?_
          refine va_iald hx hb hK hP 2 0 rfl rfl (vp_in_nI (by have := hN; skip; omega) (by decide)) dX1_wordsOf_45 ?_
          rw [nI_clamp (by have := hN; skip; omega)]
          refine lv_iload_n hx hb dX1_wordsOf_46 rfl (lv_at hl 3 rfl) ?_
          refine lv_icmp_ne (tgt := 54) hx hb dX1_wordsOf_47 (by decide) (fun c_47 => ?_) (fun c_47 => ?_)
          · refine lv_iconst (v := 0) hx hb dX1_wordsOf_54 (by decide) ?_
            refine lv_iadd hx hb dX1_wordsOf_55 ?_
            refine lv_istore_n (lv' := [(2, .int ((nI (ct (fun p => decide (0 ≤ g0 p) && decide (g1 p = x1)) i)) + 0)), (3, .int (nI i)), (0, .ref (ad 0)), (1, .int x1)]) hx hb dX1_wordsOf_56 rfl hl (by decide) rfl (fun ls hl => ?_)
            refine lv_iinc (v := ((nI i) + 1)) (lv' := [(3, .int ((nI i) + 1)), (2, .int ((nI (ct (fun p => decide (0 ≤ g0 p) && decide (g1 p = x1)) i)) + 0)), (0, .ref (ad 0)), (1, .int x1)]) hx hb dX1_wordsOf_57 hl (k := 1) rfl (by rfl) (by decide) rfl (fun ls hl => ?_)
            refine lv_goto (tgt := 22) hx hb dX1_wordsOf_60 (by decide) ?_
            have e_2 : (((nI (ct (fun p => decide (0 ≤ g0 p) && decide (g1 p = x1)) i)) + 0) : Int32) = (nI (ct (fun p => decide (0 ≤ g0 p) && decide (g1 p = x1)) (i + 1))) := (by rw [ct_f (by rw [decide_eq_false c_47, Bool.and_false]; exact Bool.false_ne_true), Int32.add_zero])
            have e_3 : (((nI i) + 1) : Int32) = (nI (i + 1)) := nI_1 i
            exact ih (i + 1) (by omega) (by omega) H locs ls hP hS (lv_eq (lv_sub (l' := [(2, .int ((nI (ct (fun p => decide (0 ≤ g0 p) && decide (g1 p = x1)) i)) + 0)), (3, .int ((nI i) + 1)), (0, .ref (ad 0)), (1, .int x1)]) hl [1, 0, 2, 3] rfl) (by rw [e_2, e_3]))
          · refine lv_iconst (v := 1) hx hb dX1_wordsOf_50 (by decide) ?_
            refine lv_goto (tgt := 55) hx hb dX1_wordsOf_51 (by decide) ?_
            refine lv_iadd hx hb dX1_wordsOf_55 ?_
            refine lv_istore_n (lv' := [(2, .int ((nI (ct (fun p => decide (0 ≤ g0 p) && decide (g1 p = x1)) i)) + 1)), (3, .int (nI i)), (0, .ref (ad 0)), (1, .int x1)]) hx hb dX1_wordsOf_56 rfl hl (by decide) rfl (fun ls hl => ?_)
            refine lv_iinc (v := ((nI i) + 1)) (lv' := [(3, .int ((nI i) + 1)), (2, .int ((nI (ct (fun p => decide (0 ≤ g0 p) && decide (g1 p = x1)) i)) + 1)), (0, .ref (ad 0)), (1, .int x1)]) hx hb dX1_wordsOf_57 hl (k := 1) rfl (by rfl) (by decide) rfl (fun ls hl => ?_)
            refine lv_goto (tgt := 22) hx hb dX1_wordsOf_60 (by decide) ?_
            have e_2 : (((nI (ct (fun p => decide (0 ≤ g0 p) && decide (g1 p = x1)) i)) + 1) : Int32) = (nI (ct (fun p => decide (0 ≤ g0 p) && decide (g1 p = x1)) (i + 1))) := (by rw [ct_t (by rw [decide_eq_true (Int32.not_lt.mp c_37), decide_eq_true c_47]; rfl), nI_1])
            have e_3 : (((nI i) + 1) : Int32) = (nI (i + 1)) := nI_1 i
            exact ih (i + 1) (by omega) (by omega) H locs ls hP hS (lv_eq (lv_sub (l' := [(2, .int ((nI (ct (fun p => decide (0 ≤ g0 p) && decide (g1 p = x1)) i)) + 1)), (3, .int ((nI i) + 1)), (0, .ref (ad 0)), (1, .int x1)]) hl [1, 0, 2, 3] rfl) (by rw [e_2, e_3]))
  exact lo_22 (N + 1) 0 (by omega) (by omega) H locs ls hP hS (lv_sub hl [1, 0, 2, 3] rfl)

theorem kv_X1_threadsOf : yX1_threadsOf.cls = RX1 ∧ yX1_threadsOf.cls ≠ "java/lang/invoke/MethodHandle" ∧ yX1_threadsOf.cls ≠ "java/lang/invoke/VarHandle" ∧ (parseMethodDescriptor yX1_threadsOf.desc).map (fun d => d.parameters.length) = some 1 := by decide +kernel
theorem ks_X1_threadsOf : yX1_threadsOf.cls ≠ "java/lang/invoke/MethodHandle" ∧ yX1_threadsOf.cls ≠ "java/lang/invoke/VarHandle" ∧ (parseMethodDescriptor yX1_threadsOf.desc).map (fun d => d.parameters.length) = some 1 := kv_X1_threadsOf.2
set_option maxHeartbeats 4000000 in
set_option maxRecDepth 100000 in
theorem c_X1_threadsOf_1 (l : Launch) (D : va_G) (cI cZ : ClassId) (ad : Nat → Nat) (th : Int32) (N : Nat) (pa pe : Int32) (g0 g1 g2 : Nat → Int32) (hN : N ≤ 24) (x1 : Int32) (h1 : m_in x1 0 5 = false) : m_I l yX1_threadsOf wsX1_threadsOf ({ frames := 2, cells := 0, slots := 0, locals := 42 } : Room) D ([(cI, .int), (cZ, .boolean)]) (mw cI cZ ad th (nI N) pa pe g0 g1 g2) [.ref (ad 0), .int x1] 0 (mw cI cZ ad 1 (nI N) pa pe g0 g1 g2) := by
  refine m_startI (cc := cX1_threadsOf) (maxL := 4) (rt := .int) (by decide) rfl (Nat.le_of_ble_eq_true rfl) ?_
  intro p e s m below meth c A hx hb hml hr hts hown hlocks hK hA H locs ls hP hD hS hl
  have hin : ∀ w ∈ wsX10, w ∈ wsX1_threadsOf := by decide +kernel
  have hl : lv_has ls 4 [(0, .ref (ad 0)), (1, .int x1)] := hl
  refine lv_aload_n hx hb dX1_threadsOf_0 rfl (lv_at hl 0 rfl) ?_
  refine lv_iconst (v := 0) hx hb dX1_threadsOf_1 (by decide) ?_
  refine va_put (D := D) (ci := 1) (v := .int 0) (ty := .int) (C := RX1) (T := TX1) (N := 7) hx hb hts hin tyX1 tyX1_ok nmX1 hown hK hP hD hS 0 rfl rfl 0 (by decide) (hts (.fieldLink RX1 24 "SplicedTalkModel" "thrown" "I") (by decide +kernel)) (fun _ h9 => h9) rfl (by decide +kernel) rfl rfl (Nat.le_of_ble_eq_true rfl) dX1_threadsOf_2 (fun H locs hP hD hS => ?_)
  have hP : va_P D vwCl (mw cI cZ ad 0 (nI N) pa pe g0 g1 g2) H := hP
  have hD : va_D A (mw cI cZ ad 0 (nI N) pa pe g0 g1 g2) := q_Dc (L := [ad 0, ad 1, ad 2, ad 3]) hD rfl rfl
  refine lv_iload_n hx hb dX1_threadsOf_5 rfl (lv_at hl 1 rfl) ?_
  refine q_callS (As := [.int x1]) (rest := []) ⟨hx, hb, hml, hown, hts⟩ (c_X1_isSpeaker l D x1) (va_cwS 1 hts gX1_threadsOf_X1_isSpeaker rfl rfl rfl ks_X1_isSpeaker ⟨Nat.le_of_ble_eq_true rfl, Nat.le_of_ble_eq_true rfl⟩) (hP.sub [] rfl) (hK.sub [] rfl) rfl hl.1 rfl (Nat.le_of_ble_eq_true rfl) dX1_threadsOf_6 (Nat.zero_le _) (Nat.zero_le _) hS (fun H locs hsm hS => ?_)
  have hP := hsm.P hP
  refine lv_if_ne (tgt := 18) hx hb dX1_threadsOf_9 (by decide) (fun h9 => absurd (bI_0.mpr h1) h9) (fun c_9 => ?_)
  refine lv_aload_n hx hb dX1_threadsOf_12 rfl (lv_at hl 0 rfl) ?_
  refine lv_iconst (v := 1) hx hb dX1_threadsOf_13 (by decide) ?_
  refine m_callVI (As := [.int 1]) (rest := []) (Wr := []) (W2 := (mw cI cZ ad 1 (nI N) pa pe g0 g1 g2)) ⟨hx, hb, hml, hown, hts⟩ (c_X1_fail l D cI cZ ad 0 N pa pe g0 g1 g2 hN 1) (cwV 1 hts gX1_threadsOf_X1_fail rfl rfl rfl kv_X1_fail ⟨Nat.le_of_ble_eq_true rfl, Nat.le_of_ble_eq_true rfl⟩) (va_recv hK hP (ci := 1) (q0 := 0) rfl rfl) hP hD hK hA [0, 1, 2, 3] [] [0, 1, 2, 3] rfl rfl rfl rfl rfl (by decide) rfl rfl rfl hl.1 rfl (Nat.le_of_ble_eq_true rfl) dX1_threadsOf_14 (Nat.zero_le _) (Nat.zero_le _) hS (fun H locs hP hS => ?_)
  have hD : va_D A (mw cI cZ ad 1 (nI N) pa pe g0 g1 g2) := q_Dc (L := [ad 0, ad 1, ad 2, ad 3]) hD rfl rfl
  exact m_retI hx hb hr hlocks hS hP rfl dX1_threadsOf_17

set_option maxHeartbeats 4000000 in
set_option maxRecDepth 100000 in
theorem c_X1_threadsOf_ok (l : Launch) (D : va_G) (cI cZ : ClassId) (ad : Nat → Nat) (th : Int32) (N : Nat) (pa pe : Int32) (g0 g1 g2 : Nat → Int32) (hN : N ≤ 24) (x1 : Int32) (h1 : m_in x1 0 5 = true) : m_I l yX1_threadsOf wsX1_threadsOf ({ frames := 6, cells := 0, slots := 0, locals := 130 } : Room) D ([(cI, .int), (cZ, .boolean)]) (mw cI cZ ad th (nI N) pa pe g0 g1 g2) [.ref (ad 0), .int x1] (nI (pcn (m_ts g0 g1 g2 N x1 (m_n g0 N)))) (mw cI cZ ad 0 (nI N) pa pe g0 g1 g2) := by
  refine m_startI (cc := cX1_threadsOf) (maxL := 4) (rt := .int) (by decide) rfl (Nat.le_of_ble_eq_true rfl) ?_
  intro p e s m below meth c A hx hb hml hr hts hown hlocks hK hA H locs ls hP hD hS hl
  have hin : ∀ w ∈ wsX10, w ∈ wsX1_threadsOf := by decide +kernel
  have hl : lv_has ls 4 [(0, .ref (ad 0)), (1, .int x1)] := hl
  have hm := m_n_le g0 N
  refine lv_aload_n hx hb dX1_threadsOf_0 rfl (lv_at hl 0 rfl) ?_
  refine lv_iconst (v := 0) hx hb dX1_threadsOf_1 (by decide) ?_
  refine va_put (D := D) (ci := 1) (v := .int 0) (ty := .int) (C := RX1) (T := TX1) (N := 7) hx hb hts hin tyX1 tyX1_ok nmX1 hown hK hP hD hS 0 rfl rfl 0 (by decide) (hts (.fieldLink RX1 24 "SplicedTalkModel" "thrown" "I") (by decide +kernel)) (fun _ h9 => h9) rfl (by decide +kernel) rfl rfl (Nat.le_of_ble_eq_true rfl) dX1_threadsOf_2 (fun H locs hP hD hS => ?_)
  have hP : va_P D vwCl (mw cI cZ ad 0 (nI N) pa pe g0 g1 g2) H := hP
  have hD : va_D A (mw cI cZ ad 0 (nI N) pa pe g0 g1 g2) := q_Dc (L := [ad 0, ad 1, ad 2, ad 3]) hD rfl rfl
  refine lv_iload_n hx hb dX1_threadsOf_5 rfl (lv_at hl 1 rfl) ?_
  refine q_callS (As := [.int x1]) (rest := []) ⟨hx, hb, hml, hown, hts⟩ (c_X1_isSpeaker l D x1) (va_cwS 1 hts gX1_threadsOf_X1_isSpeaker rfl rfl rfl ks_X1_isSpeaker ⟨Nat.le_of_ble_eq_true rfl, Nat.le_of_ble_eq_true rfl⟩) (hP.sub [] rfl) (hK.sub [] rfl) rfl hl.1 rfl (Nat.le_of_ble_eq_true rfl) dX1_threadsOf_6 (Nat.zero_le _) (Nat.zero_le _) hS (fun H locs hsm hS => ?_)
  have hP := hsm.P hP
  refine lv_if_ne (tgt := 18) hx hb dX1_threadsOf_9 (by decide) (fun c_9 => ?_) (fun h9 => absurd (h1.symm.trans (bI_0.mp h9)) (by decide))
  refine lv_iconst (v := 0) hx hb dX1_threadsOf_18 (by decide) ?_
  refine lv_istore_n (lv' := [(2, .int 0), (0, .ref (ad 0)), (1, .int x1)]) hx hb dX1_threadsOf_19 rfl hl (by decide) rfl (fun ls hl => ?_)
  refine lv_iconst (v := 0) hx hb dX1_threadsOf_20 (by decide) ?_
  refine lv_istore_n (lv' := [(3, .int 0), (2, .int 0), (0, .ref (ad 0)), (1, .int x1)]) hx hb dX1_threadsOf_21 rfl hl (by decide) rfl (fun ls hl => ?_)
  have lo_22 : ∀ (fu i : Nat), (m_n g0 N) - i < fu → i ≤ (m_n g0 N) → ∀ (H : Heap) (locs : List Loc) (ls : Array Slot), va_P D vwCl (mw cI cZ ad 0 (nI N) pa pe g0 g1 g2) H → va_S A s.heap H locs → lv_has ls 4 [(2, .int (nI (m_ts g0 g1 g2 N x1 i))), (3, .int (nI i)), (0, .ref (ad 0)), (1, .int x1)] → W p l e ({ frames := 6, cells := 0, slots := 0, locals := 130 } : Room) s m [.ref (ad 0), .int x1].toArray below meth c H locs 0 0 (m_EI D below [.ref (ad 0), .int x1].toArray s (nI (pcn (m_ts g0 g1 g2 N x1 (m_n g0 N)))) (mw cI cZ ad 0 (nI N) pa pe g0 g1 g2) A) (F0 m 22 ls []) := by
    intro fu
    induction fu with
    | zero => intro i hi; exact absurd hi (Nat.not_lt_zero _)
    | succ fu ih =>
      intro i hi hiN H locs ls hP hS hl
      have hD : va_D A (mw cI cZ ad 0 (nI N) pa pe g0 g1 g2) := q_Dc (L := [ad 0, ad 1, ad 2, ad 3]) hD rfl rfl
      refine lv_iload_n hx hb dX1_threadsOf_22 rfl (lv_at hl 1 rfl) ?_
      refine lv_aload_n hx hb dX1_threadsOf_23 rfl (lv_at hl 2 rfl) ?_
      refine q_callV (As := []) (rest := [.int (nI i)]) ⟨hx, hb, hml, hown, hts⟩ (c_X1_many l D cI cZ ad 0 N pa pe g0 g1 g2 hN) (cwV 0 hts gX1_threadsOf_X1_many rfl rfl rfl kv_X1_many ⟨Nat.le_of_ble_eq_true rfl, Nat.le_of_ble_eq_true rfl⟩) (va_recv hK hP (ci := 1) (q0 := 0) rfl rfl) hP hK rfl hl.1 rfl (Nat.le_of_ble_eq_true rfl) dX1_threadsOf_24 (Nat.zero_le _) (Nat.zero_le _) hS (fun H locs hsm hS => ?_)
      have hP := hsm.P hP
      refine lv_icmp_ge (tgt := 60) hx hb dX1_threadsOf_27 (by decide) (fun c_27 => ?_) (fun c_27 => ?_)
      · have hi9 := nI_ge' hiN (by omega) c_27
        refine lv_iload_n hx hb dX1_threadsOf_60 rfl (lv_at hl 0 rfl) ?_
        refine q_callS (As := [.int (nI (m_ts g0 g1 g2 N x1 i))]) (rest := []) ⟨hx, hb, hml, hown, hts⟩ (c_X1_bits l D (m_ts g0 g1 g2 N x1 i) (Nat.lt_trans (m_ts_lt g0 g1 g2 N x1 i (by omega)) (by decide))) (va_cwS 1 hts gX1_threadsOf_X1_bits rfl rfl rfl ks_X1_bits ⟨Nat.le_of_ble_eq_true rfl, Nat.le_of_ble_eq_true rfl⟩) (hP.sub [] rfl) (hK.sub [] rfl) rfl hl.1 rfl (Nat.le_of_ble_eq_true rfl) dX1_threadsOf_61 (Nat.zero_le _) (Nat.zero_le _) hS (fun H locs hsm hS => ?_)
        have hP := hsm.P hP
        exact m_retI hx hb hr hlocks hS hP (by rw [hi9]) dX1_threadsOf_64
      · have hi9 := nI_lt' hiN (by omega) c_27
        refine lv_aload_n hx hb dX1_threadsOf_30 rfl (lv_at hl 2 rfl) ?_
        refine va_get (D := D) (ci := 1) (v := .ref (ad 2)) (C := RX1) (T := TX1) (N := 7) hx hb hts hin hown hK hP 0 rfl rfl 5 (by decide) (hts (.fieldLink RX1 17 "SplicedTalkModel" "speaker" "[I") (by decide +kernel)) (fun _ h9 => h9) rfl dX1_threadsOf_31 ?_
        refine lv_aload_n hx hb dX1_threadsOf_34 rfl (lv_at hl 2 rfl) ?_
        refine lv_iload_n hx hb dX1_threadsOf_35 rfl (lv_at hl 1 rfl) ?_
        refine q_callV (As := [.int (nI i)]) (rest := [.ref (ad 2)]) ⟨hx, hb, hml, hown, hts⟩ (c_X1_place l D cI cZ ad 0 N pa pe g0 g1 g2 hN i (by omega)) (cwV 1 hts gX1_threadsOf_X1_place rfl rfl rfl kv_X1_place ⟨Nat.le_of_ble_eq_true rfl, Nat.le_of_ble_eq_true rfl⟩) (va_recv hK hP (ci := 1) (q0 := 0) rfl rfl) hP hK rfl hl.1 rfl (Nat.le_of_ble_eq_true rfl) dX1_threadsOf_36 (Nat.zero_le _) (Nat.zero_le _) hS (fun H locs hsm hS => ?_)
        have hP := hsm.P hP
        refine va_iald hx hb hK hP 2 0 rfl rfl (vp_in_nI (by have := hN; have := m_P_lt (g0 := g0) (N := N) (k := i) (by omega); omega) (by decide)) dX1_threadsOf_39 ?_
        rw [nI_clamp (by have := hN; have := m_P_lt (g0 := g0) (N := N) (k := i) (by omega); omega)]
        refine lv_iload_n hx hb dX1_threadsOf_40 rfl (lv_at hl 3 rfl) ?_
        refine lv_icmp_ne (tgt := 54) hx hb dX1_threadsOf_41 (by decide) (fun c_41 => ?_) (fun c_41 => ?_)
        · refine lv_iinc (v := ((nI i) + 1)) (lv' := [(3, .int ((nI i) + 1)), (2, .int (nI (m_ts g0 g1 g2 N x1 i))), (0, .ref (ad 0)), (1, .int x1)]) hx hb dX1_threadsOf_54 hl (k := 1) rfl (by rfl) (by decide) rfl (fun ls hl => ?_)
          refine lv_goto (tgt := 22) hx hb dX1_threadsOf_57 (by decide) ?_
          have e_2 : ((nI (m_ts g0 g1 g2 N x1 i)) : Int32) = (nI (m_ts g0 g1 g2 N x1 (i + 1))) := (by rw [m_ts_s, if_neg c_41])
          have e_3 : (((nI i) + 1) : Int32) = (nI (i + 1)) := nI_1 i
          exact ih (i + 1) (by omega) (by omega) H locs ls hP hS (lv_eq (lv_sub (l' := [(2, .int (nI (m_ts g0 g1 g2 N x1 i))), (3, .int ((nI i) + 1)), (0, .ref (ad 0)), (1, .int x1)]) hl [1, 0, 2, 3] rfl) (by rw [e_2, e_3]))
        · refine lv_iload_n hx hb dX1_threadsOf_44 rfl (lv_at hl 0 rfl) ?_
          refine lv_iconst (v := 1) hx hb dX1_threadsOf_45 (by decide) ?_
          refine lv_aload_n hx hb dX1_threadsOf_46 rfl (lv_at hl 2 rfl) ?_
          refine lv_iload_n hx hb dX1_threadsOf_47 rfl (lv_at hl 1 rfl) ?_
          refine q_callV (As := [.int (nI i)]) (rest := [.int 1, .int (nI (m_ts g0 g1 g2 N x1 i))]) ⟨hx, hb, hml, hown, hts⟩ (c_X1_thread l D cI cZ ad 0 N pa pe g0 g1 g2 hN i (by omega)) (cwV 1 hts gX1_threadsOf_X1_thread rfl rfl rfl kv_X1_thread ⟨Nat.le_of_ble_eq_true rfl, Nat.le_of_ble_eq_true rfl⟩) (va_recv hK hP (ci := 1) (q0 := 0) rfl rfl) hP hK rfl hl.1 rfl (Nat.le_of_ble_eq_true rfl) dX1_threadsOf_48 (Nat.zero_le _) (Nat.zero_le _) hS (fun H locs hsm hS => ?_)
          have hP := hsm.P hP
          refine lv_ishl hx hb dX1_threadsOf_51 ?_
          refine lv_ior hx hb dX1_threadsOf_52 ?_
          refine lv_istore_n (lv' := [(2, .int ((nI (m_ts g0 g1 g2 N x1 i)) ||| (1 <<< ((nI (m_th g0 g1 g2 N i)) &&& 31)))), (3, .int (nI i)), (0, .ref (ad 0)), (1, .int x1)]) hx hb dX1_threadsOf_53 rfl hl (by decide) rfl (fun ls hl => ?_)
          refine lv_iinc (v := ((nI i) + 1)) (lv' := [(3, .int ((nI i) + 1)), (2, .int ((nI (m_ts g0 g1 g2 N x1 i)) ||| (1 <<< ((nI (m_th g0 g1 g2 N i)) &&& 31)))), (0, .ref (ad 0)), (1, .int x1)]) hx hb dX1_threadsOf_54 hl (k := 1) rfl (by rfl) (by decide) rfl (fun ls hl => ?_)
          refine lv_goto (tgt := 22) hx hb dX1_threadsOf_57 (by decide) ?_
          have e_2 : (((nI (m_ts g0 g1 g2 N x1 i)) ||| (1 <<< ((nI (m_th g0 g1 g2 N i)) &&& 31))) : Int32) = (nI (m_ts g0 g1 g2 N x1 (i + 1))) := (by rw [m_ts_s, if_pos c_41, k_or1 (by have := m_th_le g0 g1 g2 N i; omega)])
          have e_3 : (((nI i) + 1) : Int32) = (nI (i + 1)) := nI_1 i
          exact ih (i + 1) (by omega) (by omega) H locs ls hP hS (lv_eq (lv_sub (l' := [(2, .int ((nI (m_ts g0 g1 g2 N x1 i)) ||| (1 <<< ((nI (m_th g0 g1 g2 N i)) &&& 31)))), (3, .int ((nI i) + 1)), (0, .ref (ad 0)), (1, .int x1)]) hl [1, 0, 2, 3] rfl) (by rw [e_2, e_3]))
  exact lo_22 ((m_n g0 N) + 1) 0 (by omega) (by omega) H locs ls hP hS (lv_sub hl [1, 0, 2, 3] rfl)

theorem kv_X1_topicsIn : yX1_topicsIn.cls = RX1 ∧ yX1_topicsIn.cls ≠ "java/lang/invoke/MethodHandle" ∧ yX1_topicsIn.cls ≠ "java/lang/invoke/VarHandle" ∧ (parseMethodDescriptor yX1_topicsIn.desc).map (fun d => d.parameters.length) = some 1 := by decide +kernel
theorem ks_X1_topicsIn : yX1_topicsIn.cls ≠ "java/lang/invoke/MethodHandle" ∧ yX1_topicsIn.cls ≠ "java/lang/invoke/VarHandle" ∧ (parseMethodDescriptor yX1_topicsIn.desc).map (fun d => d.parameters.length) = some 1 := kv_X1_topicsIn.2
set_option maxHeartbeats 4000000 in
set_option maxRecDepth 100000 in
theorem c_X1_topicsIn_1 (l : Launch) (D : va_G) (cI cZ : ClassId) (ad : Nat → Nat) (th : Int32) (N : Nat) (pa pe : Int32) (g0 g1 g2 : Nat → Int32) (hN : N ≤ 24) (x1 : Int32) (h1 : m_in x1 0 (nI (m_tn g0 g1 g2 N) - 1) = false) : m_I l yX1_topicsIn wsX1_topicsIn ({ frames := 8, cells := 0, slots := 0, locals := 170 } : Room) D ([(cI, .int), (cZ, .boolean)]) (mw cI cZ ad th (nI N) pa pe g0 g1 g2) [.ref (ad 0), .int x1] 0 (mw cI cZ ad 1 (nI N) pa pe g0 g1 g2) := by
  refine m_startI (cc := cX1_topicsIn) (maxL := 4) (rt := .int) (by decide) rfl (Nat.le_of_ble_eq_true rfl) ?_
  intro p e s m below meth c A hx hb hml hr hts hown hlocks hK hA H locs ls hP hD hS hl
  have hin : ∀ w ∈ wsX10, w ∈ wsX1_topicsIn := by decide +kernel
  have hl : lv_has ls 4 [(0, .ref (ad 0)), (1, .int x1)] := hl
  refine lv_aload_n hx hb dX1_topicsIn_0 rfl (lv_at hl 0 rfl) ?_
  refine lv_iconst (v := 0) hx hb dX1_topicsIn_1 (by decide) ?_
  refine va_put (D := D) (ci := 1) (v := .int 0) (ty := .int) (C := RX1) (T := TX1) (N := 7) hx hb hts hin tyX1 tyX1_ok nmX1 hown hK hP hD hS 0 rfl rfl 0 (by decide) (hts (.fieldLink RX1 24 "SplicedTalkModel" "thrown" "I") (by decide +kernel)) (fun _ h9 => h9) rfl (by decide +kernel) rfl rfl (Nat.le_of_ble_eq_true rfl) dX1_topicsIn_2 (fun H locs hP hD hS => ?_)
  have hP : va_P D vwCl (mw cI cZ ad 0 (nI N) pa pe g0 g1 g2) H := hP
  have hD : va_D A (mw cI cZ ad 0 (nI N) pa pe g0 g1 g2) := q_Dc (L := [ad 0, ad 1, ad 2, ad 3]) hD rfl rfl
  refine lv_aload_n hx hb dX1_topicsIn_5 rfl (lv_at hl 0 rfl) ?_
  refine lv_iload_n hx hb dX1_topicsIn_6 rfl (lv_at hl 1 rfl) ?_
  refine q_callV (As := [.int x1]) (rest := []) ⟨hx, hb, hml, hown, hts⟩ (c_X1_isThread l D cI cZ ad 0 N pa pe g0 g1 g2 hN x1) (cwV 1 hts gX1_topicsIn_X1_isThread rfl rfl rfl kv_X1_isThread ⟨Nat.le_of_ble_eq_true rfl, Nat.le_of_ble_eq_true rfl⟩) (va_recv hK hP (ci := 1) (q0 := 0) rfl rfl) hP hK rfl hl.1 rfl (Nat.le_of_ble_eq_true rfl) dX1_topicsIn_7 (Nat.zero_le _) (Nat.zero_le _) hS (fun H locs hsm hS => ?_)
  have hP := hsm.P hP
  refine lv_if_ne (tgt := 19) hx hb dX1_topicsIn_10 (by decide) (fun h9 => absurd (bI_0.mpr h1) h9) (fun c_10 => ?_)
  refine lv_aload_n hx hb dX1_topicsIn_13 rfl (lv_at hl 0 rfl) ?_
  refine lv_iconst (v := 1) hx hb dX1_topicsIn_14 (by decide) ?_
  refine m_callVI (As := [.int 1]) (rest := []) (Wr := []) (W2 := (mw cI cZ ad 1 (nI N) pa pe g0 g1 g2)) ⟨hx, hb, hml, hown, hts⟩ (c_X1_fail l D cI cZ ad 0 N pa pe g0 g1 g2 hN 1) (cwV 1 hts gX1_topicsIn_X1_fail rfl rfl rfl kv_X1_fail ⟨Nat.le_of_ble_eq_true rfl, Nat.le_of_ble_eq_true rfl⟩) (va_recv hK hP (ci := 1) (q0 := 0) rfl rfl) hP hD hK hA [0, 1, 2, 3] [] [0, 1, 2, 3] rfl rfl rfl rfl rfl (by decide) rfl rfl rfl hl.1 rfl (Nat.le_of_ble_eq_true rfl) dX1_topicsIn_15 (Nat.zero_le _) (Nat.zero_le _) hS (fun H locs hP hS => ?_)
  have hD : va_D A (mw cI cZ ad 1 (nI N) pa pe g0 g1 g2) := q_Dc (L := [ad 0, ad 1, ad 2, ad 3]) hD rfl rfl
  exact m_retI hx hb hr hlocks hS hP rfl dX1_topicsIn_18

set_option maxHeartbeats 4000000 in
set_option maxRecDepth 100000 in
theorem c_X1_topicsIn_ok (l : Launch) (D : va_G) (cI cZ : ClassId) (ad : Nat → Nat) (th : Int32) (N : Nat) (pa pe : Int32) (g0 g1 g2 : Nat → Int32) (hN : N ≤ 24) (x1 : Int32) (h1 : m_in x1 0 (nI (m_tn g0 g1 g2 N) - 1) = true) (hT : m_hT g0 N) : m_I l yX1_topicsIn wsX1_topicsIn ({ frames := 8, cells := 0, slots := 0, locals := 170 } : Room) D ([(cI, .int), (cZ, .boolean)]) (mw cI cZ ad th (nI N) pa pe g0 g1 g2) [.ref (ad 0), .int x1] (nI (pcn (m_tq g0 g1 g2 N x1 (m_n g0 N)))) (mw cI cZ ad 0 (nI N) pa pe g0 g1 g2) := by
  refine m_startI (cc := cX1_topicsIn) (maxL := 4) (rt := .int) (by decide) rfl (Nat.le_of_ble_eq_true rfl) ?_
  intro p e s m below meth c A hx hb hml hr hts hown hlocks hK hA H locs ls hP hD hS hl
  have hin : ∀ w ∈ wsX10, w ∈ wsX1_topicsIn := by decide +kernel
  have hl : lv_has ls 4 [(0, .ref (ad 0)), (1, .int x1)] := hl
  have hm := m_n_le g0 N
  refine lv_aload_n hx hb dX1_topicsIn_0 rfl (lv_at hl 0 rfl) ?_
  refine lv_iconst (v := 0) hx hb dX1_topicsIn_1 (by decide) ?_
  refine va_put (D := D) (ci := 1) (v := .int 0) (ty := .int) (C := RX1) (T := TX1) (N := 7) hx hb hts hin tyX1 tyX1_ok nmX1 hown hK hP hD hS 0 rfl rfl 0 (by decide) (hts (.fieldLink RX1 24 "SplicedTalkModel" "thrown" "I") (by decide +kernel)) (fun _ h9 => h9) rfl (by decide +kernel) rfl rfl (Nat.le_of_ble_eq_true rfl) dX1_topicsIn_2 (fun H locs hP hD hS => ?_)
  have hP : va_P D vwCl (mw cI cZ ad 0 (nI N) pa pe g0 g1 g2) H := hP
  have hD : va_D A (mw cI cZ ad 0 (nI N) pa pe g0 g1 g2) := q_Dc (L := [ad 0, ad 1, ad 2, ad 3]) hD rfl rfl
  refine lv_aload_n hx hb dX1_topicsIn_5 rfl (lv_at hl 0 rfl) ?_
  refine lv_iload_n hx hb dX1_topicsIn_6 rfl (lv_at hl 1 rfl) ?_
  refine q_callV (As := [.int x1]) (rest := []) ⟨hx, hb, hml, hown, hts⟩ (c_X1_isThread l D cI cZ ad 0 N pa pe g0 g1 g2 hN x1) (cwV 1 hts gX1_topicsIn_X1_isThread rfl rfl rfl kv_X1_isThread ⟨Nat.le_of_ble_eq_true rfl, Nat.le_of_ble_eq_true rfl⟩) (va_recv hK hP (ci := 1) (q0 := 0) rfl rfl) hP hK rfl hl.1 rfl (Nat.le_of_ble_eq_true rfl) dX1_topicsIn_7 (Nat.zero_le _) (Nat.zero_le _) hS (fun H locs hsm hS => ?_)
  have hP := hsm.P hP
  refine lv_if_ne (tgt := 19) hx hb dX1_topicsIn_10 (by decide) (fun c_10 => ?_) (fun h9 => absurd (h1.symm.trans (bI_0.mp h9)) (by decide))
  refine lv_iconst (v := 0) hx hb dX1_topicsIn_19 (by decide) ?_
  refine lv_istore_n (lv' := [(2, .int 0), (0, .ref (ad 0)), (1, .int x1)]) hx hb dX1_topicsIn_20 rfl hl (by decide) rfl (fun ls hl => ?_)
  refine lv_iconst (v := 0) hx hb dX1_topicsIn_21 (by decide) ?_
  refine lv_istore_n (lv' := [(3, .int 0), (2, .int 0), (0, .ref (ad 0)), (1, .int x1)]) hx hb dX1_topicsIn_22 rfl hl (by decide) rfl (fun ls hl => ?_)
  have lo_23 : ∀ (fu i : Nat), (m_n g0 N) - i < fu → i ≤ (m_n g0 N) → ∀ (H : Heap) (locs : List Loc) (ls : Array Slot), va_P D vwCl (mw cI cZ ad 0 (nI N) pa pe g0 g1 g2) H → va_S A s.heap H locs → lv_has ls 4 [(2, .int (nI (m_tq g0 g1 g2 N x1 i))), (3, .int (nI i)), (0, .ref (ad 0)), (1, .int x1)] → W p l e ({ frames := 8, cells := 0, slots := 0, locals := 170 } : Room) s m [.ref (ad 0), .int x1].toArray below meth c H locs 0 0 (m_EI D below [.ref (ad 0), .int x1].toArray s (nI (pcn (m_tq g0 g1 g2 N x1 (m_n g0 N)))) (mw cI cZ ad 0 (nI N) pa pe g0 g1 g2) A) (F0 m 23 ls []) := by
    intro fu
    induction fu with
    | zero => intro i hi; exact absurd hi (Nat.not_lt_zero _)
    | succ fu ih =>
      intro i hi hiN H locs ls hP hS hl
      have hD : va_D A (mw cI cZ ad 0 (nI N) pa pe g0 g1 g2) := q_Dc (L := [ad 0, ad 1, ad 2, ad 3]) hD rfl rfl
      refine lv_iload_n hx hb dX1_topicsIn_23 rfl (lv_at hl 1 rfl) ?_
      refine lv_aload_n hx hb dX1_topicsIn_24 rfl (lv_at hl 2 rfl) ?_
      refine q_callV (As := []) (rest := [.int (nI i)]) ⟨hx, hb, hml, hown, hts⟩ (c_X1_many l D cI cZ ad 0 N pa pe g0 g1 g2 hN) (cwV 0 hts gX1_topicsIn_X1_many rfl rfl rfl kv_X1_many ⟨Nat.le_of_ble_eq_true rfl, Nat.le_of_ble_eq_true rfl⟩) (va_recv hK hP (ci := 1) (q0 := 0) rfl rfl) hP hK rfl hl.1 rfl (Nat.le_of_ble_eq_true rfl) dX1_topicsIn_25 (Nat.zero_le _) (Nat.zero_le _) hS (fun H locs hsm hS => ?_)
      have hP := hsm.P hP
      refine lv_icmp_ge (tgt := 61) hx hb dX1_topicsIn_28 (by decide) (fun c_28 => ?_) (fun c_28 => ?_)
      · have hi9 := nI_ge' hiN (by omega) c_28
        refine lv_iload_n hx hb dX1_topicsIn_61 rfl (lv_at hl 0 rfl) ?_
        refine q_callS (As := [.int (nI (m_tq g0 g1 g2 N x1 i))]) (rest := []) ⟨hx, hb, hml, hown, hts⟩ (c_X1_bits l D (m_tq g0 g1 g2 N x1 i) (Nat.lt_trans (m_tq_lt g1 g2 x1 hT i (by omega)) (by decide))) (va_cwS 1 hts gX1_topicsIn_X1_bits rfl rfl rfl ks_X1_bits ⟨Nat.le_of_ble_eq_true rfl, Nat.le_of_ble_eq_true rfl⟩) (hP.sub [] rfl) (hK.sub [] rfl) rfl hl.1 rfl (Nat.le_of_ble_eq_true rfl) dX1_topicsIn_62 (Nat.zero_le _) (Nat.zero_le _) hS (fun H locs hsm hS => ?_)
        have hP := hsm.P hP
        exact m_retI hx hb hr hlocks hS hP (by rw [hi9]) dX1_topicsIn_65
      · have hi9 := nI_lt' hiN (by omega) c_28
        refine lv_aload_n hx hb dX1_topicsIn_31 rfl (lv_at hl 2 rfl) ?_
        refine lv_iload_n hx hb dX1_topicsIn_32 rfl (lv_at hl 1 rfl) ?_
        refine q_callV (As := [.int (nI i)]) (rest := []) ⟨hx, hb, hml, hown, hts⟩ (c_X1_thread l D cI cZ ad 0 N pa pe g0 g1 g2 hN i (by omega)) (cwV 1 hts gX1_topicsIn_X1_thread rfl rfl rfl kv_X1_thread ⟨Nat.le_of_ble_eq_true rfl, Nat.le_of_ble_eq_true rfl⟩) (va_recv hK hP (ci := 1) (q0 := 0) rfl rfl) hP hK rfl hl.1 rfl (Nat.le_of_ble_eq_true rfl) dX1_topicsIn_33 (Nat.zero_le _) (Nat.zero_le _) hS (fun H locs hsm hS => ?_)
        have hP := hsm.P hP
        refine lv_iload_n hx hb dX1_topicsIn_36 rfl (lv_at hl 3 rfl) ?_
        refine lv_icmp_ne (tgt := 55) hx hb dX1_topicsIn_37 (by decide) (fun c_37 => ?_) (fun c_37 => ?_)
        · refine lv_iinc (v := ((nI i) + 1)) (lv' := [(3, .int ((nI i) + 1)), (2, .int (nI (m_tq g0 g1 g2 N x1 i))), (0, .ref (ad 0)), (1, .int x1)]) hx hb dX1_topicsIn_55 hl (k := 1) rfl (by rfl) (by decide) rfl (fun ls hl => ?_)
          refine lv_goto (tgt := 23) hx hb dX1_topicsIn_58 (by decide) ?_
          have e_2 : ((nI (m_tq g0 g1 g2 N x1 i)) : Int32) = (nI (m_tq g0 g1 g2 N x1 (i + 1))) := (by rw [m_tq_s, if_neg c_37])
          have e_3 : (((nI i) + 1) : Int32) = (nI (i + 1)) := nI_1 i
          exact ih (i + 1) (by omega) (by omega) H locs ls hP hS (lv_eq (lv_sub (l' := [(2, .int (nI (m_tq g0 g1 g2 N x1 i))), (3, .int ((nI i) + 1)), (0, .ref (ad 0)), (1, .int x1)]) hl [1, 0, 2, 3] rfl) (by rw [e_2, e_3]))
        · refine lv_iload_n hx hb dX1_topicsIn_40 rfl (lv_at hl 0 rfl) ?_
          refine lv_iconst (v := 1) hx hb dX1_topicsIn_41 (by decide) ?_
          refine lv_aload_n hx hb dX1_topicsIn_42 rfl (lv_at hl 2 rfl) ?_
          refine va_get (D := D) (ci := 1) (v := .ref (ad 1)) (C := RX1) (T := TX1) (N := 7) hx hb hts hin hown hK hP 0 rfl rfl 4 (by decide) (hts (.fieldLink RX1 13 "SplicedTalkModel" "topic" "[I") (by decide +kernel)) (fun _ h9 => h9) rfl dX1_topicsIn_43 ?_
          refine lv_aload_n hx hb dX1_topicsIn_46 rfl (lv_at hl 2 rfl) ?_
          refine lv_iload_n hx hb dX1_topicsIn_47 rfl (lv_at hl 1 rfl) ?_
          refine q_callV (As := [.int (nI i)]) (rest := [.ref (ad 1), .int 1, .int (nI (m_tq g0 g1 g2 N x1 i))]) ⟨hx, hb, hml, hown, hts⟩ (c_X1_place l D cI cZ ad 0 N pa pe g0 g1 g2 hN i (by omega)) (cwV 1 hts gX1_topicsIn_X1_place rfl rfl rfl kv_X1_place ⟨Nat.le_of_ble_eq_true rfl, Nat.le_of_ble_eq_true rfl⟩) (va_recv hK hP (ci := 1) (q0 := 0) rfl rfl) hP hK rfl hl.1 rfl (Nat.le_of_ble_eq_true rfl) dX1_topicsIn_48 (Nat.zero_le _) (Nat.zero_le _) hS (fun H locs hsm hS => ?_)
          have hP := hsm.P hP
          refine va_iald hx hb hK hP 1 0 rfl rfl (vp_in_nI (by have := hN; have := m_P_lt (g0 := g0) (N := N) (k := i) (by omega); omega) (by decide)) dX1_topicsIn_51 ?_
          rw [nI_clamp (by have := hN; have := m_P_lt (g0 := g0) (N := N) (k := i) (by omega); omega)]
          refine lv_ishl hx hb dX1_topicsIn_52 ?_
          refine lv_ior hx hb dX1_topicsIn_53 ?_
          refine lv_istore_n (lv' := [(2, .int ((nI (m_tq g0 g1 g2 N x1 i)) ||| (1 <<< ((g0 (m_P g0 N i)) &&& 31)))), (3, .int (nI i)), (0, .ref (ad 0)), (1, .int x1)]) hx hb dX1_topicsIn_54 rfl hl (by decide) rfl (fun ls hl => ?_)
          refine lv_iinc (v := ((nI i) + 1)) (lv' := [(3, .int ((nI i) + 1)), (2, .int ((nI (m_tq g0 g1 g2 N x1 i)) ||| (1 <<< ((g0 (m_P g0 N i)) &&& 31)))), (0, .ref (ad 0)), (1, .int x1)]) hx hb dX1_topicsIn_55 hl (k := 1) rfl (by rfl) (by decide) rfl (fun ls hl => ?_)
          refine lv_goto (tgt := 23) hx hb dX1_topicsIn_58 (by decide) ?_
          have e_2 : (((nI (m_tq g0 g1 g2 N x1 i)) ||| (1 <<< ((g0 (m_P g0 N i)) &&& 31))) : Int32) = (nI (m_tq g0 g1 g2 N x1 (i + 1))) := (m_tq_1 g1 g2 x1 hT hi9 c_37)
          have e_3 : (((nI i) + 1) : Int32) = (nI (i + 1)) := nI_1 i
          exact ih (i + 1) (by omega) (by omega) H locs ls hP hS (lv_eq (lv_sub (l' := [(2, .int ((nI (m_tq g0 g1 g2 N x1 i)) ||| (1 <<< ((g0 (m_P g0 N i)) &&& 31)))), (3, .int ((nI i) + 1)), (0, .ref (ad 0)), (1, .int x1)]) hl [1, 0, 2, 3] rfl) (by rw [e_2, e_3]))
  exact lo_23 ((m_n g0 N) + 1) 0 (by omega) (by omega) H locs ls hP hS (lv_sub hl [1, 0, 2, 3] rfl)

theorem kv_X1_wouldBreak : yX1_wouldBreak.cls = RX1 ∧ yX1_wouldBreak.cls ≠ "java/lang/invoke/MethodHandle" ∧ yX1_wouldBreak.cls ≠ "java/lang/invoke/VarHandle" ∧ (parseMethodDescriptor yX1_wouldBreak.desc).map (fun d => d.parameters.length) = some 2 := by decide +kernel
theorem ks_X1_wouldBreak : yX1_wouldBreak.cls ≠ "java/lang/invoke/MethodHandle" ∧ yX1_wouldBreak.cls ≠ "java/lang/invoke/VarHandle" ∧ (parseMethodDescriptor yX1_wouldBreak.desc).map (fun d => d.parameters.length) = some 2 := kv_X1_wouldBreak.2
set_option maxHeartbeats 4000000 in
set_option maxRecDepth 100000 in
theorem c_X1_wouldBreak_1 (l : Launch) (D : va_G) (cI cZ : ClassId) (ad : Nat → Nat) (th : Int32) (N : Nat) (pa pe : Int32) (g0 g1 g2 : Nat → Int32) (hN : N ≤ 24) (x1 : Int32) (x2 : Int32) (h1 : m_in x1 0 5 = false) : m_I l yX1_wouldBreak wsX1_wouldBreak ({ frames := 2, cells := 0, slots := 0, locals := 42 } : Room) D ([(cI, .int), (cZ, .boolean)]) (mw cI cZ ad th (nI N) pa pe g0 g1 g2) [.ref (ad 0), .int x1, .int x2] 0 (mw cI cZ ad 1 (nI N) pa pe g0 g1 g2) := by
  refine m_startI (cc := cX1_wouldBreak) (maxL := 4) (rt := .boolean) (by decide) rfl (Nat.le_of_ble_eq_true rfl) ?_
  intro p e s m below meth c A hx hb hml hr hts hown hlocks hK hA H locs ls hP hD hS hl
  have hin : ∀ w ∈ wsX10, w ∈ wsX1_wouldBreak := by decide +kernel
  have hl : lv_has ls 4 [(0, .ref (ad 0)), (1, .int x1), (2, .int x2)] := hl
  refine lv_aload_n hx hb dX1_wouldBreak_0 rfl (lv_at hl 0 rfl) ?_
  refine lv_iload_n hx hb dX1_wouldBreak_1 rfl (lv_at hl 1 rfl) ?_
  refine q_callS (As := [.int x1]) (rest := [.ref (ad 0)]) ⟨hx, hb, hml, hown, hts⟩ (c_X1_isSpeaker l D x1) (va_cwS 1 hts gX1_wouldBreak_X1_isSpeaker rfl rfl rfl ks_X1_isSpeaker ⟨Nat.le_of_ble_eq_true rfl, Nat.le_of_ble_eq_true rfl⟩) (hP.sub [] rfl) (hK.sub [] rfl) rfl hl.1 rfl (Nat.le_of_ble_eq_true rfl) dX1_wouldBreak_2 (Nat.zero_le _) (Nat.zero_le _) hS (fun H locs hsm hS => ?_)
  have hP := hsm.P hP
  refine lv_if_ne (tgt := 12) hx hb dX1_wouldBreak_5 (by decide) (fun h9 => absurd (bI_0.mpr h1) h9) (fun c_5 => ?_)
  refine lv_iconst (v := 1) hx hb dX1_wouldBreak_8 (by decide) ?_
  refine lv_goto (tgt := 27) hx hb dX1_wouldBreak_9 (by decide) ?_
  refine va_put (D := D) (ci := 1) (v := .int 1) (ty := .int) (C := RX1) (T := TX1) (N := 7) hx hb hts hin tyX1 tyX1_ok nmX1 hown hK hP hD hS 0 rfl rfl 0 (by decide) (hts (.fieldLink RX1 24 "SplicedTalkModel" "thrown" "I") (by decide +kernel)) (fun _ h9 => h9) rfl (by decide +kernel) rfl rfl (Nat.le_of_ble_eq_true rfl) dX1_wouldBreak_27 (fun H locs hP hD hS => ?_)
  have hP : va_P D vwCl (mw cI cZ ad 1 (nI N) pa pe g0 g1 g2) H := hP
  have hD : va_D A (mw cI cZ ad 1 (nI N) pa pe g0 g1 g2) := q_Dc (L := [ad 0, ad 1, ad 2, ad 3]) hD rfl rfl
  refine lv_aload_n hx hb dX1_wouldBreak_30 rfl (lv_at hl 0 rfl) ?_
  refine va_get (D := D) (ci := 1) (v := .int 1) (C := RX1) (T := TX1) (N := 7) hx hb hts hin hown hK hP 0 rfl rfl 0 (by decide) (hts (.fieldLink RX1 24 "SplicedTalkModel" "thrown" "I") (by decide +kernel)) (fun _ h9 => h9) rfl dX1_wouldBreak_31 ?_
  refine lv_if_gt (tgt := 44) hx hb dX1_wouldBreak_34 (by decide) (fun _ => ?_) (fun h9 => absurd (by decide) h9)
  refine lv_iconst (v := 0) hx hb dX1_wouldBreak_44 (by decide) ?_
  exact m_retZ hx hb hr hlocks hS hP rfl (Or.inl rfl) dX1_wouldBreak_45

set_option maxHeartbeats 4000000 in
set_option maxRecDepth 100000 in
theorem c_X1_wouldBreak_2 (l : Launch) (D : va_G) (cI cZ : ClassId) (ad : Nat → Nat) (th : Int32) (N : Nat) (pa pe : Int32) (g0 g1 g2 : Nat → Int32) (hN : N ≤ 24) (x1 : Int32) (x2 : Int32) (h1 : m_in x1 0 5 = true) (h2 : m_in x2 0 9 = false) : m_I l yX1_wouldBreak wsX1_wouldBreak ({ frames := 2, cells := 0, slots := 0, locals := 42 } : Room) D ([(cI, .int), (cZ, .boolean)]) (mw cI cZ ad th (nI N) pa pe g0 g1 g2) [.ref (ad 0), .int x1, .int x2] 0 (mw cI cZ ad 2 (nI N) pa pe g0 g1 g2) := by
  refine m_startI (cc := cX1_wouldBreak) (maxL := 4) (rt := .boolean) (by decide) rfl (Nat.le_of_ble_eq_true rfl) ?_
  intro p e s m below meth c A hx hb hml hr hts hown hlocks hK hA H locs ls hP hD hS hl
  have hin : ∀ w ∈ wsX10, w ∈ wsX1_wouldBreak := by decide +kernel
  have hl : lv_has ls 4 [(0, .ref (ad 0)), (1, .int x1), (2, .int x2)] := hl
  refine lv_aload_n hx hb dX1_wouldBreak_0 rfl (lv_at hl 0 rfl) ?_
  refine lv_iload_n hx hb dX1_wouldBreak_1 rfl (lv_at hl 1 rfl) ?_
  refine q_callS (As := [.int x1]) (rest := [.ref (ad 0)]) ⟨hx, hb, hml, hown, hts⟩ (c_X1_isSpeaker l D x1) (va_cwS 1 hts gX1_wouldBreak_X1_isSpeaker rfl rfl rfl ks_X1_isSpeaker ⟨Nat.le_of_ble_eq_true rfl, Nat.le_of_ble_eq_true rfl⟩) (hP.sub [] rfl) (hK.sub [] rfl) rfl hl.1 rfl (Nat.le_of_ble_eq_true rfl) dX1_wouldBreak_2 (Nat.zero_le _) (Nat.zero_le _) hS (fun H locs hsm hS => ?_)
  have hP := hsm.P hP
  refine lv_if_ne (tgt := 12) hx hb dX1_wouldBreak_5 (by decide) (fun c_5 => ?_) (fun h9 => absurd (h1.symm.trans (bI_0.mp h9)) (by decide))
  refine lv_iload_n hx hb dX1_wouldBreak_12 rfl (lv_at hl 2 rfl) ?_
  refine lv_iconst (v := 0) hx hb dX1_wouldBreak_13 (by decide) ?_
  refine lv_bipush (v := 9) hx hb dX1_wouldBreak_14 (by decide) ?_
  refine q_callS (As := [.int x2, .int 0, .int 9]) (rest := [.ref (ad 0)]) ⟨hx, hb, hml, hown, hts⟩ (c_X1_isIn l D x2 0 9) (va_cwS 3 hts gX1_wouldBreak_X1_isIn rfl rfl rfl ks_X1_isIn ⟨Nat.le_of_ble_eq_true rfl, Nat.le_of_ble_eq_true rfl⟩) (hP.sub [] rfl) (hK.sub [] rfl) rfl hl.1 rfl (Nat.le_of_ble_eq_true rfl) dX1_wouldBreak_16 (Nat.zero_le _) (Nat.zero_le _) hS (fun H locs hsm hS => ?_)
  have hP := hsm.P hP
  refine lv_if_eq (tgt := 26) hx hb dX1_wouldBreak_19 (by decide) (fun c_19 => ?_) (fun h9 => absurd (bI_0.mpr h2) h9)
  refine lv_iconst (v := 2) hx hb dX1_wouldBreak_26 (by decide) ?_
  refine va_put (D := D) (ci := 1) (v := .int 2) (ty := .int) (C := RX1) (T := TX1) (N := 7) hx hb hts hin tyX1 tyX1_ok nmX1 hown hK hP hD hS 0 rfl rfl 0 (by decide) (hts (.fieldLink RX1 24 "SplicedTalkModel" "thrown" "I") (by decide +kernel)) (fun _ h9 => h9) rfl (by decide +kernel) rfl rfl (Nat.le_of_ble_eq_true rfl) dX1_wouldBreak_27 (fun H locs hP hD hS => ?_)
  have hP : va_P D vwCl (mw cI cZ ad 2 (nI N) pa pe g0 g1 g2) H := hP
  have hD : va_D A (mw cI cZ ad 2 (nI N) pa pe g0 g1 g2) := q_Dc (L := [ad 0, ad 1, ad 2, ad 3]) hD rfl rfl
  refine lv_aload_n hx hb dX1_wouldBreak_30 rfl (lv_at hl 0 rfl) ?_
  refine va_get (D := D) (ci := 1) (v := .int 2) (C := RX1) (T := TX1) (N := 7) hx hb hts hin hown hK hP 0 rfl rfl 0 (by decide) (hts (.fieldLink RX1 24 "SplicedTalkModel" "thrown" "I") (by decide +kernel)) (fun _ h9 => h9) rfl dX1_wouldBreak_31 ?_
  refine lv_if_gt (tgt := 44) hx hb dX1_wouldBreak_34 (by decide) (fun _ => ?_) (fun h9 => absurd (by decide) h9)
  refine lv_iconst (v := 0) hx hb dX1_wouldBreak_44 (by decide) ?_
  exact m_retZ hx hb hr hlocks hS hP rfl (Or.inl rfl) dX1_wouldBreak_45

set_option maxHeartbeats 4000000 in
set_option maxRecDepth 100000 in
theorem c_X1_wouldBreak_ok (l : Launch) (D : va_G) (cI cZ : ClassId) (ad : Nat → Nat) (th : Int32) (N : Nat) (pa pe : Int32) (g0 g1 g2 : Nat → Int32) (hN : N ≤ 24) (x1 : Int32) (x2 : Int32) (h1 : m_in x1 0 5 = true) (h2 : m_in x2 0 9 = true) : m_I l yX1_wouldBreak wsX1_wouldBreak ({ frames := 2, cells := 0, slots := 0, locals := 43 } : Room) D ([(cI, .int), (cZ, .boolean)]) (mw cI cZ ad th (nI N) pa pe g0 g1 g2) [.ref (ad 0), .int x1, .int x2] (bI (m_wb g0 g1 N x1 x2)) (mw cI cZ ad 0 (nI N) pa pe g0 g1 g2) := by
  refine m_startI (cc := cX1_wouldBreak) (maxL := 4) (rt := .boolean) (by decide) rfl (Nat.le_of_ble_eq_true rfl) ?_
  intro p e s m below meth c A hx hb hml hr hts hown hlocks hK hA H locs ls hP hD hS hl
  have hin : ∀ w ∈ wsX10, w ∈ wsX1_wouldBreak := by decide +kernel
  have hl : lv_has ls 4 [(0, .ref (ad 0)), (1, .int x1), (2, .int x2)] := hl
  have hm := m_n_le g0 N
  refine lv_aload_n hx hb dX1_wouldBreak_0 rfl (lv_at hl 0 rfl) ?_
  refine lv_iload_n hx hb dX1_wouldBreak_1 rfl (lv_at hl 1 rfl) ?_
  refine q_callS (As := [.int x1]) (rest := [.ref (ad 0)]) ⟨hx, hb, hml, hown, hts⟩ (c_X1_isSpeaker l D x1) (va_cwS 1 hts gX1_wouldBreak_X1_isSpeaker rfl rfl rfl ks_X1_isSpeaker ⟨Nat.le_of_ble_eq_true rfl, Nat.le_of_ble_eq_true rfl⟩) (hP.sub [] rfl) (hK.sub [] rfl) rfl hl.1 rfl (Nat.le_of_ble_eq_true rfl) dX1_wouldBreak_2 (Nat.zero_le _) (Nat.zero_le _) hS (fun H locs hsm hS => ?_)
  have hP := hsm.P hP
  refine lv_if_ne (tgt := 12) hx hb dX1_wouldBreak_5 (by decide) (fun c_5 => ?_) (fun h9 => absurd (h1.symm.trans (bI_0.mp h9)) (by decide))
  refine lv_iload_n hx hb dX1_wouldBreak_12 rfl (lv_at hl 2 rfl) ?_
  refine lv_iconst (v := 0) hx hb dX1_wouldBreak_13 (by decide) ?_
  refine lv_bipush (v := 9) hx hb dX1_wouldBreak_14 (by decide) ?_
  refine q_callS (As := [.int x2, .int 0, .int 9]) (rest := [.ref (ad 0)]) ⟨hx, hb, hml, hown, hts⟩ (c_X1_isIn l D x2 0 9) (va_cwS 3 hts gX1_wouldBreak_X1_isIn rfl rfl rfl ks_X1_isIn ⟨Nat.le_of_ble_eq_true rfl, Nat.le_of_ble_eq_true rfl⟩) (hP.sub [] rfl) (hK.sub [] rfl) rfl hl.1 rfl (Nat.le_of_ble_eq_true rfl) dX1_wouldBreak_16 (Nat.zero_le _) (Nat.zero_le _) hS (fun H locs hsm hS => ?_)
  have hP := hsm.P hP
  refine lv_if_eq (tgt := 26) hx hb dX1_wouldBreak_19 (by decide) (fun h9 => absurd (h2.symm.trans (bI_0.mp h9)) (by decide)) (fun c_19 => ?_)
  refine lv_iconst (v := 0) hx hb dX1_wouldBreak_22 (by decide) ?_
  refine lv_goto (tgt := 27) hx hb dX1_wouldBreak_23 (by decide) ?_
  refine va_put (D := D) (ci := 1) (v := .int 0) (ty := .int) (C := RX1) (T := TX1) (N := 7) hx hb hts hin tyX1 tyX1_ok nmX1 hown hK hP hD hS 0 rfl rfl 0 (by decide) (hts (.fieldLink RX1 24 "SplicedTalkModel" "thrown" "I") (by decide +kernel)) (fun _ h9 => h9) rfl (by decide +kernel) rfl rfl (Nat.le_of_ble_eq_true rfl) dX1_wouldBreak_27 (fun H locs hP hD hS => ?_)
  have hP : va_P D vwCl (mw cI cZ ad 0 (nI N) pa pe g0 g1 g2) H := hP
  have hD : va_D A (mw cI cZ ad 0 (nI N) pa pe g0 g1 g2) := q_Dc (L := [ad 0, ad 1, ad 2, ad 3]) hD rfl rfl
  refine lv_aload_n hx hb dX1_wouldBreak_30 rfl (lv_at hl 0 rfl) ?_
  refine va_get (D := D) (ci := 1) (v := .int 0) (C := RX1) (T := TX1) (N := 7) hx hb hts hin hown hK hP 0 rfl rfl 0 (by decide) (hts (.fieldLink RX1 24 "SplicedTalkModel" "thrown" "I") (by decide +kernel)) (fun _ h9 => h9) rfl dX1_wouldBreak_31 ?_
  refine lv_if_gt (tgt := 44) hx hb dX1_wouldBreak_34 (by decide) (fun h9 => absurd h9 (by decide)) (fun _ => ?_)
  refine lv_aload_n hx hb dX1_wouldBreak_37 rfl (lv_at hl 0 rfl) ?_
  refine q_callV (As := []) (rest := []) ⟨hx, hb, hml, hown, hts⟩ (c_X1_many l D cI cZ ad 0 N pa pe g0 g1 g2 hN) (cwV 0 hts gX1_wouldBreak_X1_many rfl rfl rfl kv_X1_many ⟨Nat.le_of_ble_eq_true rfl, Nat.le_of_ble_eq_true rfl⟩) (va_recv hK hP (ci := 1) (q0 := 0) rfl rfl) hP hK rfl hl.1 rfl (Nat.le_of_ble_eq_true rfl) dX1_wouldBreak_38 (Nat.zero_le _) (Nat.zero_le _) hS (fun H locs hsm hS => ?_)
  have hP := hsm.P hP
  refine lv_if_ne (tgt := 46) hx hb dX1_wouldBreak_41 (by decide) (fun c_41 => ?_) (fun c_41 => ?_)
  · have hpos : 0 < m_n g0 N := Nat.pos_of_ne_zero (fun h => c_41 (by rw [h]; rfl))
    refine lv_aload_n hx hb dX1_wouldBreak_46 rfl (lv_at hl 0 rfl) ?_
    refine lv_aload_n hx hb dX1_wouldBreak_47 rfl (lv_at hl 0 rfl) ?_
    refine q_callV (As := []) (rest := [.ref (ad 0)]) ⟨hx, hb, hml, hown, hts⟩ (c_X1_many l D cI cZ ad 0 N pa pe g0 g1 g2 hN) (cwV 0 hts gX1_wouldBreak_X1_many rfl rfl rfl kv_X1_many ⟨Nat.le_of_ble_eq_true rfl, Nat.le_of_ble_eq_true rfl⟩) (va_recv hK hP (ci := 1) (q0 := 0) rfl rfl) hP hK rfl hl.1 rfl (Nat.le_of_ble_eq_true rfl) dX1_wouldBreak_48 (Nat.zero_le _) (Nat.zero_le _) hS (fun H locs hsm hS => ?_)
    have hP := hsm.P hP
    refine lv_iconst (v := 1) hx hb dX1_wouldBreak_51 (by decide) ?_
    refine lv_isub hx hb dX1_wouldBreak_52 ?_
    rw [m_n_1 g0 N hpos]
    refine q_callV (As := [.int (nI (m_n g0 N - 1))]) (rest := []) ⟨hx, hb, hml, hown, hts⟩ (c_X1_place l D cI cZ ad 0 N pa pe g0 g1 g2 hN (m_n g0 N - 1) (by omega)) (cwV 1 hts gX1_wouldBreak_X1_place rfl rfl rfl kv_X1_place ⟨Nat.le_of_ble_eq_true rfl, Nat.le_of_ble_eq_true rfl⟩) (va_recv hK hP (ci := 1) (q0 := 0) rfl rfl) hP hK rfl hl.1 rfl (Nat.le_of_ble_eq_true rfl) dX1_wouldBreak_53 (Nat.zero_le _) (Nat.zero_le _) hS (fun H locs hsm hS => ?_)
    have hP := hsm.P hP
    refine lv_istore_n (lv' := [(3, .int (nI (m_P g0 N (m_n g0 N - 1)))), (0, .ref (ad 0)), (1, .int x1), (2, .int x2)]) hx hb dX1_wouldBreak_56 rfl hl (by decide) rfl (fun ls hl => ?_)
    refine lv_aload_n hx hb dX1_wouldBreak_57 rfl (lv_at hl 1 rfl) ?_
    refine va_get (D := D) (ci := 1) (v := .ref (ad 1)) (C := RX1) (T := TX1) (N := 7) hx hb hts hin hown hK hP 0 rfl rfl 4 (by decide) (hts (.fieldLink RX1 13 "SplicedTalkModel" "topic" "[I") (by decide +kernel)) (fun _ h9 => h9) rfl dX1_wouldBreak_58 ?_
    refine lv_iload_n hx hb dX1_wouldBreak_61 rfl (lv_at hl 0 rfl) ?_
    refine va_iald hx hb hK hP 1 0 rfl rfl (vp_in_nI (by have := hN; have := m_P_lt (g0 := g0) (N := N) (k := (m_n g0 N - 1)) (by omega); omega) (by decide)) dX1_wouldBreak_62 ?_
    rw [nI_clamp (by have := hN; have := m_P_lt (g0 := g0) (N := N) (k := (m_n g0 N - 1)) (by omega); omega)]
    refine lv_iload_n hx hb dX1_wouldBreak_63 rfl (lv_at hl 3 rfl) ?_
    refine q_callS (As := [.int (g0 (m_P g0 N (m_n g0 N - 1))), .int x2]) (rest := []) ⟨hx, hb, hml, hown, hts⟩ (c_X1_apart l D (g0 (m_P g0 N (m_n g0 N - 1))) x2) (va_cwS 2 hts gX1_wouldBreak_X1_apart rfl rfl rfl ks_X1_apart ⟨Nat.le_of_ble_eq_true rfl, Nat.le_of_ble_eq_true rfl⟩) (hP.sub [] rfl) (hK.sub [] rfl) rfl hl.1 rfl (Nat.le_of_ble_eq_true rfl) dX1_wouldBreak_64 (Nat.zero_le _) (Nat.zero_le _) hS (fun H locs hsm hS => ?_)
    have hP := hsm.P hP
    refine lv_aload_n hx hb dX1_wouldBreak_67 rfl (lv_at hl 1 rfl) ?_
    refine va_get (D := D) (ci := 1) (v := .int (nI N)) (C := RX1) (T := TX1) (N := 7) hx hb hts hin hown hK hP 0 rfl rfl 1 (by decide) (hts (.fieldLink RX1 31 "SplicedTalkModel" "remarks" "I") (by decide +kernel)) (fun _ h9 => h9) rfl dX1_wouldBreak_68 ?_
    refine lv_iadd hx hb dX1_wouldBreak_71 ?_
    refine lv_iconst (v := 1) hx hb dX1_wouldBreak_72 (by decide) ?_
    refine lv_isub hx hb dX1_wouldBreak_73 ?_
    refine lv_iload_n hx hb dX1_wouldBreak_74 rfl (lv_at hl 0 rfl) ?_
    refine lv_isub hx hb dX1_wouldBreak_75 ?_
    refine lv_aload_n hx hb dX1_wouldBreak_76 rfl (lv_at hl 1 rfl) ?_
    refine va_get (D := D) (ci := 1) (v := .ref (ad 2)) (C := RX1) (T := TX1) (N := 7) hx hb hts hin hown hK hP 0 rfl rfl 5 (by decide) (hts (.fieldLink RX1 17 "SplicedTalkModel" "speaker" "[I") (by decide +kernel)) (fun _ h9 => h9) rfl dX1_wouldBreak_77 ?_
    refine lv_iload_n hx hb dX1_wouldBreak_80 rfl (lv_at hl 0 rfl) ?_
    refine va_iald hx hb hK hP 2 0 rfl rfl (vp_in_nI (by have := hN; have := m_P_lt (g0 := g0) (N := N) (k := (m_n g0 N - 1)) (by omega); omega) (by decide)) dX1_wouldBreak_81 ?_
    rw [nI_clamp (by have := hN; have := m_P_lt (g0 := g0) (N := N) (k := (m_n g0 N - 1)) (by omega); omega)]
    refine lv_iload_n hx hb dX1_wouldBreak_82 rfl (lv_at hl 2 rfl) ?_
    suffices K_83 : ∀ v9 : Int32, v9 = (bI (decide ((g1 (m_P g0 N (m_n g0 N - 1))) = x1))) → W p l e ({ frames := 2, cells := 0, slots := 0, locals := 43 } : Room) s m [.ref (ad 0), .int x1, .int x2].toArray below meth c H locs 0 0 (m_EI D below [.ref (ad 0), .int x1, .int x2].toArray s (bI (m_wb g0 g1 N x1 x2)) (mw cI cZ ad 0 (nI N) pa pe g0 g1 g2) A) (F0 m 91 ls [.int v9, .int ((((x_ds (g0 (m_P g0 N (m_n g0 N - 1))) x2) + (nI N)) - 1) - (nI (m_P g0 N (m_n g0 N - 1))))]) from by
      refine lv_icmp_ne (tgt := 90) hx hb dX1_wouldBreak_83 (by decide) (fun c_83 => ?_) (fun c_83 => ?_)
      · refine lv_iconst (v := 0) hx hb dX1_wouldBreak_90 (by decide) ?_
        exact K_83 _ (bI_df c_83)
      · refine lv_iconst (v := 1) hx hb dX1_wouldBreak_86 (by decide) ?_
        refine lv_goto (tgt := 91) hx hb dX1_wouldBreak_87 (by decide) ?_
        exact K_83 _ (bI_dt c_83)
    intro v9 hv9
    rw [hv9]; clear hv9
    refine q_callS (As := [.int ((((x_ds (g0 (m_P g0 N (m_n g0 N - 1))) x2) + (nI N)) - 1) - (nI (m_P g0 N (m_n g0 N - 1)))), .int (bI (decide ((g1 (m_P g0 N (m_n g0 N - 1))) = x1)))]) (rest := []) ⟨hx, hb, hml, hown, hts⟩ (c_X1_isPoliteOr l D ((((x_ds (g0 (m_P g0 N (m_n g0 N - 1))) x2) + (nI N)) - 1) - (nI (m_P g0 N (m_n g0 N - 1)))) (decide ((g1 (m_P g0 N (m_n g0 N - 1))) = x1))) (va_cwS 2 hts gX1_wouldBreak_X1_isPoliteOr rfl rfl rfl ks_X1_isPoliteOr ⟨Nat.le_of_ble_eq_true rfl, Nat.le_of_ble_eq_true rfl⟩) (hP.sub [] rfl) (hK.sub [] rfl) rfl hl.1 rfl (Nat.le_of_ble_eq_true rfl) dX1_wouldBreak_91 (Nat.zero_le _) (Nat.zero_le _) hS (fun H locs hsm hS => ?_)
    have hP := hsm.P hP
    suffices K_94 : ∀ v9 : Int32, v9 = (bI (!(m_po ((((x_ds (g0 (m_P g0 N (m_n g0 N - 1))) x2) + (nI N)) - 1) - (nI (m_P g0 N (m_n g0 N - 1)))) (decide ((g1 (m_P g0 N (m_n g0 N - 1))) = x1))))) → W p l e ({ frames := 2, cells := 0, slots := 0, locals := 43 } : Room) s m [.ref (ad 0), .int x1, .int x2].toArray below meth c H locs 0 0 (m_EI D below [.ref (ad 0), .int x1, .int x2].toArray s (bI (m_wb g0 g1 N x1 x2)) (mw cI cZ ad 0 (nI N) pa pe g0 g1 g2) A) (F0 m 102 ls [.int v9]) from by
      refine lv_if_ne (tgt := 101) hx hb dX1_wouldBreak_94 (by decide) (fun c_94 => ?_) (fun c_94 => ?_)
      · refine lv_iconst (v := 0) hx hb dX1_wouldBreak_101 (by decide) ?_
        exact K_94 _ (by rw [bI_n0.mp c_94]; rfl)
      · refine lv_iconst (v := 1) hx hb dX1_wouldBreak_97 (by decide) ?_
        refine lv_goto (tgt := 102) hx hb dX1_wouldBreak_98 (by decide) ?_
        exact K_94 _ (by rw [bI_0.mp c_94]; rfl)
    intro v9 hv9
    rw [hv9]; clear hv9
    exact m_retZ hx hb hr hlocks hS hP (by unfold m_wb; rw [if_neg (by omega)]) (bI_01 _) dX1_wouldBreak_102
  · have hz0 := nI_z (by omega) c_41
    refine lv_iconst (v := 0) hx hb dX1_wouldBreak_44 (by decide) ?_
    exact m_retZ hx hb hr hlocks hS hP (by unfold m_wb; rw [if_pos hz0]; rfl) (bI_01 _) dX1_wouldBreak_45

theorem kv_X1_meanStrain : yX1_meanStrain.cls = RX1 ∧ yX1_meanStrain.cls ≠ "java/lang/invoke/MethodHandle" ∧ yX1_meanStrain.cls ≠ "java/lang/invoke/VarHandle" ∧ (parseMethodDescriptor yX1_meanStrain.desc).map (fun d => d.parameters.length) = some 0 := by decide +kernel
theorem ks_X1_meanStrain : yX1_meanStrain.cls ≠ "java/lang/invoke/MethodHandle" ∧ yX1_meanStrain.cls ≠ "java/lang/invoke/VarHandle" ∧ (parseMethodDescriptor yX1_meanStrain.desc).map (fun d => d.parameters.length) = some 0 := kv_X1_meanStrain.2
set_option maxHeartbeats 4000000 in
set_option maxRecDepth 100000 in
theorem c_X1_meanStrain_ok (l : Launch) (D : va_G) (cI cZ : ClassId) (ad : Nat → Nat) (th : Int32) (N : Nat) (pa pe : Int32) (g0 g1 g2 : Nat → Int32) (hN : N ≤ 24) (hnn : ¬ m_n g0 N - 1 = 0 → vf_n64 (FP.ddiv (FP.i2d (m_ss g0 N (m_n g0 N - 1))) (FP.i2d (nI (m_n g0 N - 1))))) : m_F l yX1_meanStrain wsX1_meanStrain ({ frames := 4, cells := 0, slots := 0, locals := 86 } : Room) D ([(cI, .int), (cZ, .boolean)]) (mw cI cZ ad th (nI N) pa pe g0 g1 g2) [.ref (ad 0)] (m_ms g0 N) (mw cI cZ ad 0 (nI N) pa pe g0 g1 g2) := by
  refine m_startF (cc := cX1_meanStrain) (maxL := 4) (rt := .double) (by decide) rfl (Nat.le_of_ble_eq_true rfl) ?_
  intro p e s m below meth c A hx hb hml hr hts hown hlocks hK hA H locs ls hP hD hS hl
  have hin : ∀ w ∈ wsX10, w ∈ wsX1_meanStrain := by decide +kernel
  have hl : lv_has ls 4 [(0, .ref (ad 0))] := hl
  have hm := m_n_le g0 N
  refine lv_aload_n hx hb dX1_meanStrain_0 rfl (lv_at hl 0 rfl) ?_
  refine lv_iconst (v := 0) hx hb dX1_meanStrain_1 (by decide) ?_
  refine va_put (D := D) (ci := 1) (v := .int 0) (ty := .int) (C := RX1) (T := TX1) (N := 7) hx hb hts hin tyX1 tyX1_ok nmX1 hown hK hP hD hS 0 rfl rfl 0 (by decide) (hts (.fieldLink RX1 24 "SplicedTalkModel" "thrown" "I") (by decide +kernel)) (fun _ h9 => h9) rfl (by decide +kernel) rfl rfl (Nat.le_of_ble_eq_true rfl) dX1_meanStrain_2 (fun H locs hP hD hS => ?_)
  have hP : va_P D vwCl (mw cI cZ ad 0 (nI N) pa pe g0 g1 g2) H := hP
  have hD : va_D A (mw cI cZ ad 0 (nI N) pa pe g0 g1 g2) := q_Dc (L := [ad 0, ad 1, ad 2, ad 3]) hD rfl rfl
  refine lv_aload_n hx hb dX1_meanStrain_5 rfl (lv_at hl 0 rfl) ?_
  refine q_callV (As := []) (rest := []) ⟨hx, hb, hml, hown, hts⟩ (c_X1_many l D cI cZ ad 0 N pa pe g0 g1 g2 hN) (cwV 0 hts gX1_meanStrain_X1_many rfl rfl rfl kv_X1_many ⟨Nat.le_of_ble_eq_true rfl, Nat.le_of_ble_eq_true rfl⟩) (va_recv hK hP (ci := 1) (q0 := 0) rfl rfl) hP hK rfl hl.1 rfl (Nat.le_of_ble_eq_true rfl) dX1_meanStrain_6 (Nat.zero_le _) (Nat.zero_le _) hS (fun H locs hsm hS => ?_)
  have hP := hsm.P hP
  refine lv_iconst (v := 1) hx hb dX1_meanStrain_9 (by decide) ?_
  refine lv_isub hx hb dX1_meanStrain_10 ?_
  refine lv_istore_n (lv' := [(1, .int ((nI (m_n g0 N)) - 1)), (0, .ref (ad 0))]) hx hb dX1_meanStrain_11 rfl hl (by decide) rfl (fun ls hl => ?_)
  refine lv_iconst (v := 0) hx hb dX1_meanStrain_12 (by decide) ?_
  refine lv_istore_n (lv' := [(2, .int 0), (1, .int ((nI (m_n g0 N)) - 1)), (0, .ref (ad 0))]) hx hb dX1_meanStrain_13 rfl hl (by decide) rfl (fun ls hl => ?_)
  refine lv_iconst (v := 0) hx hb dX1_meanStrain_14 (by decide) ?_
  refine lv_istore_n (lv' := [(3, .int 0), (2, .int 0), (1, .int ((nI (m_n g0 N)) - 1)), (0, .ref (ad 0))]) hx hb dX1_meanStrain_15 rfl hl (by decide) rfl (fun ls hl => ?_)
  have lo_16 : ∀ (fu i : Nat), (m_n g0 N - 1) - i < fu → i ≤ (m_n g0 N - 1) → ∀ (H : Heap) (locs : List Loc) (ls : Array Slot), va_P D vwCl (mw cI cZ ad 0 (nI N) pa pe g0 g1 g2) H → va_S A s.heap H locs → lv_has ls 4 [(2, .int (m_ss g0 N i)), (3, .int (nI i)), (0, .ref (ad 0)), (1, .int ((nI (m_n g0 N)) - 1))] → W p l e ({ frames := 4, cells := 0, slots := 0, locals := 86 } : Room) s m [.ref (ad 0)].toArray below meth c H locs 0 0 (m_EF D below [.ref (ad 0)].toArray s (m_ms g0 N) (mw cI cZ ad 0 (nI N) pa pe g0 g1 g2) A) (F0 m 16 ls []) := by
    intro fu
    induction fu with
    | zero => intro i hi; exact absurd hi (Nat.not_lt_zero _)
    | succ fu ih =>
      intro i hi hiN H locs ls hP hS hl
      have hD : va_D A (mw cI cZ ad 0 (nI N) pa pe g0 g1 g2) := q_Dc (L := [ad 0, ad 1, ad 2, ad 3]) hD rfl rfl
      refine lv_iload_n hx hb dX1_meanStrain_16 rfl (lv_at hl 1 rfl) ?_
      refine lv_iload_n hx hb dX1_meanStrain_17 rfl (lv_at hl 3 rfl) ?_
      refine lv_icmp_ge (tgt := 35) hx hb dX1_meanStrain_18 (by decide) (fun c_18 => ?_) (fun c_18 => ?_)
      · have hi9 := m_gt (by omega) hiN c_18
        refine lv_iload_n hx hb dX1_meanStrain_35 rfl (lv_at hl 3 rfl) ?_
        refine lv_iconst (v := 1) hx hb dX1_meanStrain_36 (by decide) ?_
        refine lv_icmp_ge (tgt := 44) hx hb dX1_meanStrain_37 (by decide) (fun c_37 => ?_) (fun c_37 => ?_)
        · have h1n := m_ms_1 (by omega) c_37
          have hpos : 0 < m_n g0 N := by omega
          refine lv_iload_n hx hb dX1_meanStrain_44 rfl (lv_at hl 0 rfl) ?_
          refine lv_i2d hx hb dX1_meanStrain_45 ?_
          refine lv_iload_n hx hb dX1_meanStrain_46 rfl (lv_at hl 3 rfl) ?_
          rw [m_n_1 g0 N hpos]
          refine lv_i2d hx hb dX1_meanStrain_47 ?_
          refine lv_ddiv hx hb dX1_meanStrain_48 (by rw [hi9]; exact hnn h1n) ?_
          exact m_retF hx hb hr hlocks hS hP (by unfold m_ms; rw [if_neg h1n, hi9]) dX1_meanStrain_49
        · have h0n := m_ms_0 (by omega) c_37
          refine lv_dconst0 hx hb dX1_meanStrain_40 ?_
          refine lv_goto (tgt := 49) hx hb dX1_meanStrain_41 (by decide) ?_
          exact m_retF hx hb hr hlocks hS hP (by unfold m_ms; rw [if_pos h0n]) dX1_meanStrain_49
      · have hi9 := m_gf (by omega) hiN c_18
        refine lv_iload_n hx hb dX1_meanStrain_21 rfl (lv_at hl 0 rfl) ?_
        refine lv_aload_n hx hb dX1_meanStrain_22 rfl (lv_at hl 2 rfl) ?_
        refine lv_iload_n hx hb dX1_meanStrain_23 rfl (lv_at hl 1 rfl) ?_
        refine q_callV (As := [.int (nI i)]) (rest := [.int (m_ss g0 N i)]) ⟨hx, hb, hml, hown, hts⟩ (c_X1_strain l D cI cZ ad 0 N pa pe g0 g1 g2 hN i (by omega)) (cwV 1 hts gX1_meanStrain_X1_strain rfl rfl rfl kv_X1_strain ⟨Nat.le_of_ble_eq_true rfl, Nat.le_of_ble_eq_true rfl⟩) (va_recv hK hP (ci := 1) (q0 := 0) rfl rfl) hP hK rfl hl.1 rfl (Nat.le_of_ble_eq_true rfl) dX1_meanStrain_24 (Nat.zero_le _) (Nat.zero_le _) hS (fun H locs hsm hS => ?_)
        have hP := hsm.P hP
        refine lv_iadd hx hb dX1_meanStrain_27 ?_
        refine lv_istore_n (lv' := [(2, .int ((m_ss g0 N i) + (m_st g0 N i))), (3, .int (nI i)), (0, .ref (ad 0)), (1, .int ((nI (m_n g0 N)) - 1))]) hx hb dX1_meanStrain_28 rfl hl (by decide) rfl (fun ls hl => ?_)
        refine lv_iinc (v := ((nI i) + 1)) (lv' := [(3, .int ((nI i) + 1)), (2, .int ((m_ss g0 N i) + (m_st g0 N i))), (0, .ref (ad 0)), (1, .int ((nI (m_n g0 N)) - 1))]) hx hb dX1_meanStrain_29 hl (k := 1) rfl (by rfl) (by decide) rfl (fun ls hl => ?_)
        refine lv_goto (tgt := 16) hx hb dX1_meanStrain_32 (by decide) ?_
        have e_3 : (((nI i) + 1) : Int32) = (nI (i + 1)) := nI_1 i
        exact ih (i + 1) (by omega) (by omega) H locs ls hP hS (lv_eq (lv_sub (l' := [(2, .int (m_ss g0 N (i + 1))), (3, .int ((nI i) + 1)), (0, .ref (ad 0)), (1, .int ((nI (m_n g0 N)) - 1))]) hl [1, 0, 2, 3] rfl) (by rw [e_3]))
  exact lo_16 ((m_n g0 N - 1) + 1) 0 (by omega) (by omega) H locs ls hP hS (lv_sub hl [1, 0, 3, 2] rfl)
