/-! own rows: the simulation's methods that only read -/
def pH (Z : Heap → Prop) : State → Prop := fun U => Z U.heap
theorem pH.mv {Z : Heap → Prop} : p_mv (pH Z) := p_mvH
theorem p_at {Z : Heap → Prop} {H : Heap} {s : State} (h : Z H) : ∀ U : State, U.heap = H → s.WarmedH U.vm → pH Z U := fun U hU _ => by show Z U.heap; rw [hU]; exact h
def zTr : Heap → Prop := fun _ => True
abbrev zt (cI cA : ClassId) : List (ClassId × FieldType) := [(cI, .int), (cA, .array .int)]
/-- an array of n rows of k ints, row i at r i, holding ρ i -/
def gG (cI cA : ClassId) (n k : Nat) (r : Nat → Nat) (ρ : Nat → Nat → Int32) (a : Nat) (H : Heap) : Prop := aR cA n (fun i => some (r i)) a H ∧ ∀ i, i < n → ∃ f, aI cI k f (r i) H ∧ ∀ j, j < k → f j = ρ i j
theorem gG.kept {cI cA : ClassId} {n k : Nat} {r : Nat → Nat} {ρ : Nat → Nat → Int32} {a : Nat} {H H1 : Heap} (h : gG cI cA n k r ρ a H) (hq : q_same H H1) : gG cI cA n k r ρ a H1 :=
  ⟨z_kp h.1 hq, fun i hi => by obtain ⟨f, h1, h2⟩ := h.2 i hi; exact ⟨f, z_kp h1 hq, h2⟩⟩
section ZG
variable {p : Program} {l : Launch} {e : Env} {R : Room} {s : State} {m : MethodId} {args : Array Value} {below : List Frame} {meth : Method} {c : Code} {H : Heap} {locs : List Loc} {cells slots : Nat} {Q : State → Prop}
variable {cc : ByteArray} {pc : Nat} {ls : Array Slot} {rest : List Value} {D : va_G} {A : Nat → Prop} {H0 : Heap} {tys : List (ClassId × FieldType)} {cI cA : ClassId} {n k : Nat} {r : Nat → Nat} {ρ : Nat → Nat → Int32} {a : Nat}
theorem z_gal (hexec : p.tables.exec = Jvm.exec) (hb : c.code = cc) (hK : va_K D vwCl tys s) (t0 : Nat) (ht : tys[t0]? = some (cA, .array .int)) (hG : gG cI cA n k r ρ a H) (i : Nat) (hi : i < n) (hn : n < 2 ^ 31) {ix : Int32} (hix : ix = nI i) (hdg : decode cc pc = .ok (.aaload, 1))
    (kk : W p l e R s m args below meth c H locs cells slots Q (F0 m (pc + 1) ls (.ref (r i) :: rest))) : W p l e R s m args below meth c H locs cells slots Q (F0 m pc ls (.int ix :: .ref a :: rest)) :=
  z_aald hexec hb hK t0 ht hG.1 i hix hi hn rfl hdg kk
theorem z_gil (hexec : p.tables.exec = Jvm.exec) (hb : c.code = cc) (hK : va_K D vwCl tys s) (t0 : Nat) (ht : tys[t0]? = some (cI, .int)) (hG : gG cI cA n k r ρ a H) (i : Nat) (hi : i < n) (j : Nat) (hj : j < k) (hk : k < 2 ^ 31) {ix v : Int32} (hix : ix = nI j) (hv : ρ i j = v) (hdg : decode cc pc = .ok (.iaload, 1))
    (kk : W p l e R s m args below meth c H locs cells slots Q (F0 m (pc + 1) ls (.int v :: rest))) : W p l e R s m args below meth c H locs cells slots Q (F0 m pc ls (.int ix :: .ref (r i) :: rest)) := by
  obtain ⟨f, hf, ef⟩ := hG.2 i hi
  refine z_iald hexec hb hK t0 ht hf j hix hj hk hdg ?_
  rw [ef j hj, hv]
  exact kk
theorem z_gln (hexec : p.tables.exec = Jvm.exec) (hb : c.code = cc) (hK : va_K D vwCl tys s) (t0 : Nat) (ht : tys[t0]? = some (cA, .array .int)) (hG : gG cI cA n k r ρ a H) (hdg : decode cc pc = .ok (.arraylength, 1))
    (kk : W p l e R s m args below meth c H locs cells slots Q (F0 m (pc + 1) ls (.int (nI n) :: rest))) : W p l e R s m args below meth c H locs cells slots Q (F0 m pc ls (.ref a :: rest)) :=
  z_alen hexec hb hK t0 ht hG.1 hdg kk
end ZG
theorem ap_fin : ∀ a, a < 10 → ∀ b, b < 10 → x_ds (nI a) (nI b) = nI (x_ds (nI a) (nI b)).toNatClampNeg ∧ (x_ds (nI a) (nI b)).toNatClampNeg < 6 ∧ (∀ k, k < (x_ds (nI a) (nI b)).toNatClampNeg → ¬ nI a + nI k - (nI a + nI k) / 10 * 10 = nI b ∧ ¬ nI b + nI k - (nI b + nI k) / 10 * 10 = nI a) ∧
    (nI a + nI (x_ds (nI a) (nI b)).toNatClampNeg - (nI a + nI (x_ds (nI a) (nI b)).toNatClampNeg) / 10 * 10 = nI b ∨ nI b + nI (x_ds (nI a) (nI b)).toNatClampNeg - (nI b + nI (x_ds (nI a) (nI b)).toNatClampNeg) / 10 * 10 = nI a) := by decide +kernel
theorem i_leT {x y : Int32} : x ≤ y ↔ x.toInt ≤ y.toInt := Int32.le_iff_toInt_le
theorem i_eqT {x y : Int32} : x = y ↔ x.toInt = y.toInt := Int32.toInt_inj.symm
theorem iT1 : (1 : Int32).toInt = 1 := by decide
theorem iT2 : (2 : Int32).toInt = 2 := by decide
theorem iT4 : (4 : Int32).toInt = 4 := by decide
theorem iT5 : (5 : Int32).toInt = 5 := by decide
theorem k_so (b1 b2 : Bool) (x : Int32) : x_kind b2 x b1 = if b2 = true then 0 else if ¬ 2 ≤ x then 0 else if x = 2 then 1 else if b1 = true ∧ ¬ 5 ≤ x then 1 else 2 := by
  have a1 : x ≤ 1 ↔ x.toInt ≤ 1 := by rw [i_leT, iT1]
  have a2 : x ≤ 2 ↔ x.toInt ≤ 2 := by rw [i_leT, iT2]
  have a4 : x ≤ 4 ↔ x.toInt ≤ 4 := by rw [i_leT, iT4]
  have a5 : 5 ≤ x ↔ 5 ≤ x.toInt := by rw [i_leT, iT5]
  have a3 : 2 ≤ x ↔ 2 ≤ x.toInt := by rw [i_leT, iT2]
  have a6 : x = 2 ↔ x.toInt = 2 := by rw [i_eqT, iT2]
  unfold x_kind x_most
  rcases (show x.toInt ≤ 1 ∨ x.toInt = 2 ∨ (2 < x.toInt ∧ x.toInt ≤ 4) ∨ 4 < x.toInt by omega) with h | h | h | h
  · have h1 : x ≤ 1 := a1.mpr h
    have h3 : ¬ 2 ≤ x := fun q => by have := a3.mp q; omega
    cases b2 <;> simp [h1, h3]
  · have h1 : ¬ x ≤ 1 := fun q => by have := a1.mp q; omega
    have h2 : x ≤ 2 := a2.mpr (by omega)
    have h4 : x ≤ 4 := a4.mpr (by omega)
    have h3 : 2 ≤ x := a3.mpr (by omega)
    have h6 : x = 2 := a6.mpr h
    cases b2 <;> cases b1 <;> simp [h6]
  · have h1 : ¬ x ≤ 1 := fun q => by have := a1.mp q; omega
    have h2 : ¬ x ≤ 2 := fun q => by have := a2.mp q; omega
    have h4 : x ≤ 4 := a4.mpr (by omega)
    have h3 : 2 ≤ x := a3.mpr (by omega)
    have h5 : ¬ 5 ≤ x := fun q => by have := a5.mp q; omega
    have h6 : ¬ x = 2 := fun q => by have := a6.mp q; omega
    cases b2 <;> cases b1 <;> simp [h1, h2, h3, h4, h5, h6]
  · have h1 : ¬ x ≤ 1 := fun q => by have := a1.mp q; omega
    have h2 : ¬ x ≤ 2 := fun q => by have := a2.mp q; omega
    have h4 : ¬ x ≤ 4 := fun q => by have := a4.mp q; omega
    have h3 : 2 ≤ x := a3.mpr (by omega)
    have h5 : 5 ≤ x := a5.mpr (by omega)
    have h6 : ¬ x = 2 := fun q => by have := a6.mp q; omega
    cases b2 <;> cases b1 <;> simp [h1, h2, h3, h4, h5, h6]
/-- the coughs behind word k among the first i remarks -/
def w_c (g0 : Nat → Int32) (N i k : Nat) : Nat := if k + 1 < ct (m_wd g0) i then m_cN g0 N k else i - 1 - m_P g0 N k
/-- a word as the simulation writes it down: speaker, topic, coughs behind it, tied, place -/
def w_row (g0 g1 g2 : Nat → Int32) (N i k j : Nat) : Int32 := match j with
  | 0 => g1 (m_P g0 N k)
  | 1 => g0 (m_P g0 N k)
  | 2 => nI (w_c g0 N i k)
  | 3 => g2 (m_P g0 N k)
  | _ => nI (m_P g0 N k)
def w_ok (g0 g2 : Nat → Int32) (N : Nat) : Prop := N ≤ 24 ∧ m_hT g0 N ∧ ∀ k, k < N → g2 k = 0 ∨ g2 k = 1
def gW (cI cA : ClassId) (g0 g1 g2 : Nat → Int32) (N : Nat) (r : Nat → Nat) (a : Nat) : Heap → Prop := gG cI cA (m_n g0 N) 5 r (w_row g0 g1 g2 N N) a
theorem w_cg {g0 : Nat → Int32} {N g : Nat} (h : g + 1 < m_n g0 N) : nI (w_c g0 N N g) = m_cg g0 N g := by
  rw [m_cg_N h]
  unfold w_c
  rw [if_pos (show g + 1 < ct (m_wd g0) N from h)]
/-- the sort of a gap -/
def m_kd (g0 g1 g2 : Nat → Int32) (N g : Nat) : Int32 := x_kind (m_ti g0 g2 N g) (m_st g0 N g) (m_sm g0 g1 N g)
theorem m_kd2 (g0 g1 g2 : Nat → Int32) (N g : Nat) : decide (m_kd g0 g1 g2 N g = 2) = m_br g0 g1 g2 N g := k_2 _ _ _
theorem k_012 (b : Bool) (x : Int32) (o : Bool) : x_kind b x o = 0 ∨ x_kind b x o = 1 ∨ x_kind b x o = 2 := by
  rw [k_so]
  split
  · exact Or.inl rfl
  · split
    · exact Or.inl rfl
    · split
      · exact Or.inr (Or.inl rfl)
      · split
        · exact Or.inr (Or.inl rfl)
        · exact Or.inr (Or.inr rfl)
theorem k_ge2 {b : Bool} {x : Int32} {o : Bool} : 2 ≤ x_kind b x o ↔ x_kind b x o = 2 := by
  rcases k_012 b x o with h | h | h <;> rw [h] <;> decide
theorem m_tiB {g0 g2 : Nat → Int32} {N g : Nat} (h : g2 (m_P g0 N g) = 0 ∨ g2 (m_P g0 N g) = 1) : decide (g2 (m_P g0 N g) = 1) = m_ti g0 g2 N g := by
  unfold m_ti
  rcases h with e | e <;> rw [e] <;> decide
def z_md (s : Int32) (b : Bool) (c : Nat) : Int32 := if nI c < 1 then 3 else if ¬ 2 ≤ x_kind false (s - 1) b then 1 else if nI c < 2 then 3 else if ¬ 2 ≤ x_kind false (s - 2) b then 2 else 3
theorem md_fin : ∀ d, d < 6 → ∀ c, c < 23 → ∀ b : Bool, z_md (nI d + nI c) b c = m_mc (nI d + nI c) b c := by decide +kernel
theorem md_0 {g0 g1 g2 : Nat → Int32} {N g : Nat} (h : ¬ 2 ≤ m_kd g0 g1 g2 N g) : m_md g0 g1 g2 N g = 0 := by
  unfold m_md
  rw [if_neg]
  rw [← m_kd2]
  intro e
  exact h (k_ge2.mpr (of_decide_eq_true e))
theorem m_stN {g0 g2 : Nat → Int32} {N g : Nat} (h : w_ok g0 g2 N) (hg : g + 1 < m_n g0 N) : m_cN g0 N g < 23 ∧ ∃ d, d < 6 ∧ m_st g0 N g = nI d + nI (m_cN g0 N g) := by
  obtain ⟨a, ha, ea⟩ := h.2.1 g (by omega)
  obtain ⟨b, hb, eb⟩ := h.2.1 (g + 1) hg
  obtain ⟨d, hd, ed⟩ := ds_10 a ha b hb
  have hP := m_P_lt hg
  have hn := h.1
  refine ⟨by unfold m_cN; omega, d, hd, ?_⟩
  unfold m_st
  rw [ea, eb, ed, m_cg_N hg]
theorem md_b {g0 g1 g2 : Nat → Int32} {N g : Nat} (hw : w_ok g0 g2 N) (hg : g + 1 < m_n g0 N) (h : 2 ≤ m_kd g0 g1 g2 N g) : z_md (m_st g0 N g) (m_sm g0 g1 N g) (m_cN g0 N g) = m_md g0 g1 g2 N g := by
  obtain ⟨hc, d, hd, e⟩ := m_stN hw hg
  unfold m_md
  rw [if_pos (by rw [← m_kd2]; exact decide_eq_true (k_ge2.mp h)), e]
  exact md_fin d hd _ hc _
def z_it (s a : Int32) : Nat → Int32
  | 0 => a
  | k + 1 => z_it s a k + s - (z_it s a k + s) / 10 * 10
theorem bt_fin : ∀ a, a < 10 → ∀ b, b < 10 → z_it (if nI a + x_ds (nI a) (nI b) - (nI a + x_ds (nI a) (nI b)) / 10 * 10 = nI b then 1 else 9) (nI a) ((x_ds (nI a) (nI b)).toNatClampNeg / 2) = m_half (nI a) (nI b) := by decide +kernel
theorem bI_dec {P : Prop} [Decidable P] : (if P then (1 : Int32) else 0) = bI (decide P) := by
  by_cases h : P
  · rw [if_pos h, decide_eq_true h]; rfl
  · rw [if_neg h, decide_eq_false h]; rfl

theorem kv_X1_apart : yX1_apart.cls = RX1 ∧ yX1_apart.cls ≠ "java/lang/invoke/MethodHandle" ∧ yX1_apart.cls ≠ "java/lang/invoke/VarHandle" ∧ (parseMethodDescriptor yX1_apart.desc).map (fun d => d.parameters.length) = some 2 := by decide +kernel
theorem ks_X1_apart : yX1_apart.cls ≠ "java/lang/invoke/MethodHandle" ∧ yX1_apart.cls ≠ "java/lang/invoke/VarHandle" ∧ (parseMethodDescriptor yX1_apart.desc).map (fun d => d.parameters.length) = some 2 := kv_X1_apart.2
set_option maxHeartbeats 4000000 in
set_option maxRecDepth 100000 in
theorem c_X1_apart (l : Launch) (D : va_G) (a b : Nat) (ha : a < 10) (hb9 : b < 10) : p_I l yX1_apart wsX1_apart ({ frames := 0, cells := 0, slots := 0, locals := 0 } : Room) D ([]) (pH zTr) [.int (nI a), .int (nI b)] (x_ds (nI a) (nI b)) := by
  refine p_startI (cc := cX1_apart) (maxL := 3) (rt := .int) (by decide) rfl (Nat.le_of_ble_eq_true rfl) ?_
  intro p e s m below meth c hx hb hml hr hts hown hlocks hK hPr locs ls hS hl
  have hl : lv_has ls 3 [(0, .int (nI a)), (1, .int (nI b))] := hl
  obtain ⟨e0, hd6, hno, hyes⟩ := ap_fin a ha b hb9
  refine lv_iconst (v := 0) hx hb dX1_apart_0 (by decide) ?_
  refine lv_istore_n (lv' := [(2, .int 0), (0, .int (nI a)), (1, .int (nI b))]) hx hb dX1_apart_1 rfl hl (by decide) rfl (fun ls hl => ?_)
  have lo_2 : ∀ (fu k : Nat), ((x_ds (nI a) (nI b)).toNatClampNeg) - k < fu → k ≤ ((x_ds (nI a) (nI b)).toNatClampNeg) → ∀ (H : Heap) (locs : List Loc) (ls : Array Slot), va_S q_no s.heap H locs → lv_has ls 3 [(2, .int (nI k)), (0, .int (nI a)), (1, .int (nI b))] → W p l e ({ frames := 0, cells := 0, slots := 0, locals := 0 } : Room) s m [.int (nI a), .int (nI b)].toArray below meth c H locs 0 0 (q_EI below [.int (nI a), .int (nI b)].toArray s (x_ds (nI a) (nI b))) (F0 m 2 ls []) := by
    intro fu
    induction fu with
    | zero => intro k hi; exact absurd hi (Nat.not_lt_zero _)
    | succ fu ih =>
      intro k hi hiN H locs ls  hS hl
      refine lv_iload_n hx hb dX1_apart_2 rfl (lv_at hl 1 rfl) ?_
      refine lv_iload_n hx hb dX1_apart_3 rfl (lv_at hl 0 rfl) ?_
      refine lv_iadd hx hb dX1_apart_4 ?_
      refine lv_bipush (v := 10) hx hb dX1_apart_5 (by decide) ?_
      refine lv_irem hx hb dX1_apart_7 (by decide) ?_
      refine lv_iload_n hx hb dX1_apart_8 rfl (lv_at hl 2 rfl) ?_
      refine lv_icmp_eq (tgt := 28) hx hb dX1_apart_9 (by decide) (fun c_9 => ?_) (fun c_9 => ?_)
      · have hk9 : k = (x_ds (nI a) (nI b)).toNatClampNeg := by
          rcases Nat.lt_or_ge k (x_ds (nI a) (nI b)).toNatClampNeg with q | q
          · exact absurd c_9 (hno k q).1
          · omega
        refine lv_iload_n hx hb dX1_apart_28 rfl (lv_at hl 0 rfl) ?_
        exact q_retI hx hb hr hlocks hS (by rw [hk9, ← e0]) dX1_apart_29
      · refine lv_iload_n hx hb dX1_apart_12 rfl (lv_at hl 2 rfl) ?_
        refine lv_iload_n hx hb dX1_apart_13 rfl (lv_at hl 0 rfl) ?_
        refine lv_iadd hx hb dX1_apart_14 ?_
        refine lv_bipush (v := 10) hx hb dX1_apart_15 (by decide) ?_
        refine lv_irem hx hb dX1_apart_17 (by decide) ?_
        refine lv_iload_n hx hb dX1_apart_18 rfl (lv_at hl 1 rfl) ?_
        refine lv_icmp_eq (tgt := 28) hx hb dX1_apart_19 (by decide) (fun c_19 => ?_) (fun c_19 => ?_)
        · have hk9 : k = (x_ds (nI a) (nI b)).toNatClampNeg := by
            rcases Nat.lt_or_ge k (x_ds (nI a) (nI b)).toNatClampNeg with q | q
            · exact absurd c_19 (hno k q).2
            · omega
          refine lv_iload_n hx hb dX1_apart_28 rfl (lv_at hl 0 rfl) ?_
          exact q_retI hx hb hr hlocks hS (by rw [hk9, ← e0]) dX1_apart_29
        · have hk8 : k < (x_ds (nI a) (nI b)).toNatClampNeg := by
            rcases Nat.lt_or_ge k (x_ds (nI a) (nI b)).toNatClampNeg with q | q
            · exact q
            · exfalso
              have e9 : k = (x_ds (nI a) (nI b)).toNatClampNeg := by omega
              rw [e9] at c_9 c_19
              exact hyes.elim c_9 c_19
          refine lv_iinc (v := (nI k + 1)) (lv' := [(2, .int (nI k + 1)), (0, .int (nI a)), (1, .int (nI b))]) hx hb dX1_apart_22 hl (k := 0) rfl (by rfl) (by decide) rfl (fun ls hl => ?_)
          refine lv_goto (tgt := 2) hx hb dX1_apart_25 (by decide) ?_
          have e_2 : ((nI k + 1) : Int32) = nI (k + 1) := nI_1 k
          exact ih (k + 1) (by omega) (by omega) H locs ls  hS (lv_eq (lv_sub (l' := [(2, .int (nI k + 1)), (0, .int (nI a)), (1, .int (nI b))]) hl [0, 1, 2] rfl) (by rw [e_2]))
  exact lo_2 (((x_ds (nI a) (nI b)).toNatClampNeg) + 1) 0 (by omega) (by omega) _ locs ls  hS (lv_sub hl [0, 1, 2] rfl)

theorem kv_X1_sort : yX1_sort.cls = RX1 ∧ yX1_sort.cls ≠ "java/lang/invoke/MethodHandle" ∧ yX1_sort.cls ≠ "java/lang/invoke/VarHandle" ∧ (parseMethodDescriptor yX1_sort.desc).map (fun d => d.parameters.length) = some 3 := by decide +kernel
theorem ks_X1_sort : yX1_sort.cls ≠ "java/lang/invoke/MethodHandle" ∧ yX1_sort.cls ≠ "java/lang/invoke/VarHandle" ∧ (parseMethodDescriptor yX1_sort.desc).map (fun d => d.parameters.length) = some 3 := kv_X1_sort.2
set_option maxHeartbeats 4000000 in
set_option maxRecDepth 100000 in
theorem c_X1_sort (l : Launch) (D : va_G) (x : Int32) (b1 b2 : Bool) : p_I l yX1_sort wsX1_sort ({ frames := 0, cells := 0, slots := 0, locals := 0 } : Room) D ([]) (pH zTr) [.int x, .int (bI b1), .int (bI b2)] (x_kind b2 x b1) := by
  refine p_startI (cc := cX1_sort) (maxL := 3) (rt := .int) (by decide) rfl (Nat.le_of_ble_eq_true rfl) ?_
  intro p e s m below meth c hx hb hml hr hts hown hlocks hK hPr locs ls hS hl
  have hl : lv_has ls 3 [(0, .int x), (1, .int (bI b1)), (2, .int (bI b2))] := hl
  refine lv_iload_n hx hb dX1_sort_0 rfl (lv_at hl 2 rfl) ?_
  refine lv_if_ne (tgt := 9) hx hb dX1_sort_1 (by decide) (fun c_1 => ?_) (fun c_1 => ?_)
  · refine lv_iconst (v := 0) hx hb dX1_sort_9 (by decide) ?_
    exact q_retI hx hb hr hlocks hS (by rw [k_so, if_pos (bI_n0.mp c_1)]) dX1_sort_10
  · refine lv_iload_n hx hb dX1_sort_4 rfl (lv_at hl 0 rfl) ?_
    refine lv_iconst (v := 2) hx hb dX1_sort_5 (by decide) ?_
    refine lv_icmp_ge (tgt := 11) hx hb dX1_sort_6 (by decide) (fun c_6 => ?_) (fun c_6 => ?_)
    · refine lv_iload_n hx hb dX1_sort_11 rfl (lv_at hl 0 rfl) ?_
      refine lv_iconst (v := 2) hx hb dX1_sort_12 (by decide) ?_
      refine lv_icmp_eq (tgt := 25) hx hb dX1_sort_13 (by decide) (fun c_13 => ?_) (fun c_13 => ?_)
      · refine lv_iconst (v := 1) hx hb dX1_sort_25 (by decide) ?_
        refine lv_goto (tgt := 30) hx hb dX1_sort_26 (by decide) ?_
        exact q_retI hx hb hr hlocks hS (by rw [k_so, if_neg (by rw [bI_0.mp c_1]; exact Bool.false_ne_true), if_neg (fun h => h c_6), if_pos c_13]) dX1_sort_30
      · refine lv_iload_n hx hb dX1_sort_16 rfl (lv_at hl 1 rfl) ?_
        refine lv_if_eq (tgt := 29) hx hb dX1_sort_17 (by decide) (fun c_17 => ?_) (fun c_17 => ?_)
        · refine lv_iconst (v := 2) hx hb dX1_sort_29 (by decide) ?_
          exact q_retI hx hb hr hlocks hS (by rw [k_so, if_neg (by rw [bI_0.mp c_1]; exact Bool.false_ne_true), if_neg (fun h => h c_6), if_neg c_13, if_neg (fun h => by rw [bI_0.mp c_17] at h; exact Bool.false_ne_true h.1)]) dX1_sort_30
        · refine lv_iload_n hx hb dX1_sort_20 rfl (lv_at hl 0 rfl) ?_
          refine lv_iconst (v := 5) hx hb dX1_sort_21 (by decide) ?_
          refine lv_icmp_ge (tgt := 29) hx hb dX1_sort_22 (by decide) (fun c_22 => ?_) (fun c_22 => ?_)
          · refine lv_iconst (v := 2) hx hb dX1_sort_29 (by decide) ?_
            exact q_retI hx hb hr hlocks hS (by rw [k_so, if_neg (by rw [bI_0.mp c_1]; exact Bool.false_ne_true), if_neg (fun h => h c_6), if_neg c_13, if_neg (fun h => h.2 c_22)]) dX1_sort_30
          · refine lv_iconst (v := 1) hx hb dX1_sort_25 (by decide) ?_
            refine lv_goto (tgt := 30) hx hb dX1_sort_26 (by decide) ?_
            exact q_retI hx hb hr hlocks hS (by rw [k_so, if_neg (by rw [bI_0.mp c_1]; exact Bool.false_ne_true), if_neg (fun h => h c_6), if_neg c_13, if_pos ⟨bI_n0.mp c_17, c_22⟩]) dX1_sort_30
    · refine lv_iconst (v := 0) hx hb dX1_sort_9 (by decide) ?_
      exact q_retI hx hb hr hlocks hS (by rw [k_so, if_neg (by rw [bI_0.mp c_1]; exact Bool.false_ne_true), if_pos c_6]) dX1_sort_10

theorem kv_X1_strain : yX1_strain.cls = RX1 ∧ yX1_strain.cls ≠ "java/lang/invoke/MethodHandle" ∧ yX1_strain.cls ≠ "java/lang/invoke/VarHandle" ∧ (parseMethodDescriptor yX1_strain.desc).map (fun d => d.parameters.length) = some 2 := by decide +kernel
theorem ks_X1_strain : yX1_strain.cls ≠ "java/lang/invoke/MethodHandle" ∧ yX1_strain.cls ≠ "java/lang/invoke/VarHandle" ∧ (parseMethodDescriptor yX1_strain.desc).map (fun d => d.parameters.length) = some 2 := kv_X1_strain.2
set_option maxHeartbeats 4000000 in
set_option maxRecDepth 100000 in
theorem c_X1_strain (l : Launch) (D : va_G) (cI cA : ClassId) (g0 g1 g2 : Nat → Int32) (N : Nat) (r : Nat → Nat) (O : Nat) (g : Nat) (hw : w_ok g0 g2 N) (hg : g + 1 < m_n g0 N) : p_I l yX1_strain wsX1_strain ({ frames := 1, cells := 0, slots := 0, locals := 22 } : Room) D (zt cI cA) (pH (gW cI cA g0 g1 g2 N r O)) [.ref O, .int (nI g)] (m_st g0 N g) := by
  refine p_startI (cc := cX1_strain) (maxL := 2) (rt := .int) (by decide) rfl (Nat.le_of_ble_eq_true rfl) ?_
  intro p e s m below meth c hx hb hml hr hts hown hlocks hK hPr locs ls hS hl
  have hl : lv_has ls 2 [(0, .ref O), (1, .int (nI g))] := hl
  have HG : gG cI cA (m_n g0 N) 5 r (w_row g0 g1 g2 N N) O s.heap := hPr
  have hm9 := m_n_le g0 N
  have hw1 := hw.1
  obtain ⟨a, ha, ea⟩ := hw.2.1 g (by omega)
  obtain ⟨b, hb9, eb⟩ := hw.2.1 (g + 1) hg
  refine lv_aload_n hx hb dX1_strain_0 rfl (lv_at hl 0 rfl) ?_
  refine lv_iload_n hx hb dX1_strain_1 rfl (lv_at hl 1 rfl) ?_
  refine z_gal hx hb hK 1 rfl HG g (by omega) (by omega) rfl dX1_strain_2 ?_
  refine lv_iconst (v := 1) hx hb dX1_strain_3 (by decide) ?_
  refine z_gil hx hb hK 0 rfl HG g (by omega) 1 (by decide) (by decide) (v := nI a) rfl ea dX1_strain_4 ?_
  refine lv_aload_n hx hb dX1_strain_5 rfl (lv_at hl 0 rfl) ?_
  refine lv_iload_n hx hb dX1_strain_6 rfl (lv_at hl 1 rfl) ?_
  refine lv_iconst (v := 1) hx hb dX1_strain_7 (by decide) ?_
  refine lv_iadd hx hb dX1_strain_8 ?_
  refine z_gal hx hb hK 1 rfl HG (g + 1) hg (by omega) (nI_1 g) dX1_strain_9 ?_
  refine lv_iconst (v := 1) hx hb dX1_strain_10 (by decide) ?_
  refine z_gil hx hb hK 0 rfl HG (g + 1) hg 1 (by decide) (by decide) (v := nI b) rfl eb dX1_strain_11 ?_
  refine p_callS (As := [.int (nI a), .int (nI b)]) (rest := []) ⟨hx, hb, hml, hown, hts⟩ (c_X1_apart l D a b ha hb9) (va_cwS 2 hts gX1_strain_X1_apart rfl rfl rfl ks_X1_apart ⟨Nat.le_of_ble_eq_true rfl, Nat.le_of_ble_eq_true rfl⟩) pH.mv (p_at (Z := zTr) trivial) (hK.sub [] rfl) rfl hl.1 rfl (Nat.le_of_ble_eq_true rfl) dX1_strain_12 (Nat.zero_le _) (Nat.zero_le _) hS (fun H locs hsm hS => ?_)
  have HG := HG.kept hsm
  refine lv_aload_n hx hb dX1_strain_15 rfl (lv_at hl 0 rfl) ?_
  refine lv_iload_n hx hb dX1_strain_16 rfl (lv_at hl 1 rfl) ?_
  refine z_gal hx hb hK 1 rfl HG g (by omega) (by omega) rfl dX1_strain_17 ?_
  refine lv_iconst (v := 2) hx hb dX1_strain_18 (by decide) ?_
  refine z_gil hx hb hK 0 rfl HG g (by omega) 2 (by decide) (by decide) (v := m_cg g0 N g) rfl (w_cg hg) dX1_strain_19 ?_
  refine lv_iadd hx hb dX1_strain_20 ?_
  exact q_retI hx hb hr hlocks hS (by unfold m_st; rw [ea, eb]) dX1_strain_21

theorem kv_X1_sort_ : yX1_sort_.cls = RX1 ∧ yX1_sort_.cls ≠ "java/lang/invoke/MethodHandle" ∧ yX1_sort_.cls ≠ "java/lang/invoke/VarHandle" ∧ (parseMethodDescriptor yX1_sort_.desc).map (fun d => d.parameters.length) = some 2 := by decide +kernel
theorem ks_X1_sort_ : yX1_sort_.cls ≠ "java/lang/invoke/MethodHandle" ∧ yX1_sort_.cls ≠ "java/lang/invoke/VarHandle" ∧ (parseMethodDescriptor yX1_sort_.desc).map (fun d => d.parameters.length) = some 2 := kv_X1_sort_.2
set_option maxHeartbeats 4000000 in
set_option maxRecDepth 100000 in
theorem c_X1_sort_ (l : Launch) (D : va_G) (cI cA : ClassId) (g0 g1 g2 : Nat → Int32) (N : Nat) (r : Nat → Nat) (O : Nat) (g : Nat) (hw : w_ok g0 g2 N) (hg : g + 1 < m_n g0 N) : p_I l yX1_sort_ wsX1_sort_ ({ frames := 2, cells := 0, slots := 0, locals := 52 } : Room) D (zt cI cA) (pH (gW cI cA g0 g1 g2 N r O)) [.ref O, .int (nI g)] (m_kd g0 g1 g2 N g) := by
  refine p_startI (cc := cX1_sort_) (maxL := 2) (rt := .int) (by decide) rfl (Nat.le_of_ble_eq_true rfl) ?_
  intro p e s m below meth c hx hb hml hr hts hown hlocks hK hPr locs ls hS hl
  have hl : lv_has ls 2 [(0, .ref O), (1, .int (nI g))] := hl
  have HG : gG cI cA (m_n g0 N) 5 r (w_row g0 g1 g2 N N) O s.heap := hPr
  have hm9 := m_n_le g0 N
  have hw1 := hw.1
  have hti := m_tiB (hw.2.2 _ (m_P_lt (show g < m_n g0 N by omega)))
  refine lv_aload_n hx hb dX1_sort__0 rfl (lv_at hl 0 rfl) ?_
  refine lv_iload_n hx hb dX1_sort__1 rfl (lv_at hl 1 rfl) ?_
  refine p_callS (As := [.ref O, .int (nI g)]) (rest := []) ⟨hx, hb, hml, hown, hts⟩ (c_X1_strain l D cI cA g0 g1 g2 N r O g hw hg) (va_cwS 2 hts gX1_sort__X1_strain rfl rfl rfl ks_X1_strain ⟨Nat.le_of_ble_eq_true rfl, Nat.le_of_ble_eq_true rfl⟩) pH.mv (p_at (Z := (gW cI cA g0 g1 g2 N r O)) HG) hK rfl hl.1 rfl (Nat.le_of_ble_eq_true rfl) dX1_sort__2 (Nat.zero_le _) (Nat.zero_le _) hS (fun H locs hsm hS => ?_)
  have HG := HG.kept hsm
  refine lv_aload_n hx hb dX1_sort__5 rfl (lv_at hl 0 rfl) ?_
  refine lv_iload_n hx hb dX1_sort__6 rfl (lv_at hl 1 rfl) ?_
  refine z_gal hx hb hK 1 rfl HG g (by omega) (by omega) rfl dX1_sort__7 ?_
  refine lv_iconst (v := 0) hx hb dX1_sort__8 (by decide) ?_
  refine z_gil hx hb hK 0 rfl HG g (by omega) 0 (by decide) (by decide) (v := g1 (m_P g0 N g)) rfl rfl dX1_sort__9 ?_
  refine lv_aload_n hx hb dX1_sort__10 rfl (lv_at hl 0 rfl) ?_
  refine lv_iload_n hx hb dX1_sort__11 rfl (lv_at hl 1 rfl) ?_
  refine lv_iconst (v := 1) hx hb dX1_sort__12 (by decide) ?_
  refine lv_iadd hx hb dX1_sort__13 ?_
  refine z_gal hx hb hK 1 rfl HG (g + 1) hg (by omega) (nI_1 g) dX1_sort__14 ?_
  refine lv_iconst (v := 0) hx hb dX1_sort__15 (by decide) ?_
  refine z_gil hx hb hK 0 rfl HG (g + 1) hg 0 (by decide) (by decide) (v := g1 (m_P g0 N (g + 1))) rfl rfl dX1_sort__16 ?_
  suffices K_17 : ∀ v9 : Int32, v9 = bI (m_sm g0 g1 N g) → W p l e ({ frames := 2, cells := 0, slots := 0, locals := 52 } : Room) s m [.ref O, .int (nI g)].toArray below meth c H locs 0 0 (q_EI below [.ref O, .int (nI g)].toArray s (m_kd g0 g1 g2 N g)) (F0 m 25 ls [.int v9, .int (m_st g0 N g)]) from by
    refine lv_icmp_ne (tgt := 24) hx hb dX1_sort__17 (by decide) (fun c_17 => ?_) (fun c_17 => ?_)
    · refine lv_iconst (v := 0) hx hb dX1_sort__24 (by decide) ?_
      exact K_17 _ (by unfold m_sm; exact bI_df c_17)
    · refine lv_iconst (v := 1) hx hb dX1_sort__20 (by decide) ?_
      refine lv_goto (tgt := 25) hx hb dX1_sort__21 (by decide) ?_
      exact K_17 _ (by unfold m_sm; exact bI_dt c_17)
  intro v9 hv9
  rw [hv9]; clear hv9
  refine lv_aload_n hx hb dX1_sort__25 rfl (lv_at hl 0 rfl) ?_
  refine lv_iload_n hx hb dX1_sort__26 rfl (lv_at hl 1 rfl) ?_
  refine z_gal hx hb hK 1 rfl HG g (by omega) (by omega) rfl dX1_sort__27 ?_
  refine lv_iconst (v := 3) hx hb dX1_sort__28 (by decide) ?_
  refine z_gil hx hb hK 0 rfl HG g (by omega) 3 (by decide) (by decide) (v := g2 (m_P g0 N g)) rfl rfl dX1_sort__29 ?_
  refine lv_iconst (v := 1) hx hb dX1_sort__30 (by decide) ?_
  suffices K_31 : ∀ v9 : Int32, v9 = bI (m_ti g0 g2 N g) → W p l e ({ frames := 2, cells := 0, slots := 0, locals := 52 } : Room) s m [.ref O, .int (nI g)].toArray below meth c H locs 0 0 (q_EI below [.ref O, .int (nI g)].toArray s (m_kd g0 g1 g2 N g)) (F0 m 39 ls [.int v9, .int (bI (m_sm g0 g1 N g)), .int (m_st g0 N g)]) from by
    refine lv_icmp_ne (tgt := 38) hx hb dX1_sort__31 (by decide) (fun c_31 => ?_) (fun c_31 => ?_)
    · refine lv_iconst (v := 0) hx hb dX1_sort__38 (by decide) ?_
      exact K_31 _ (by rw [← hti]; exact bI_df c_31)
    · refine lv_iconst (v := 1) hx hb dX1_sort__34 (by decide) ?_
      refine lv_goto (tgt := 39) hx hb dX1_sort__35 (by decide) ?_
      exact K_31 _ (by rw [← hti]; exact bI_dt c_31)
  intro v9 hv9
  rw [hv9]; clear hv9
  refine p_callS (As := [.int (m_st g0 N g), .int (bI (m_sm g0 g1 N g)), .int (bI (m_ti g0 g2 N g))]) (rest := []) ⟨hx, hb, hml, hown, hts⟩ (c_X1_sort l D (m_st g0 N g) (m_sm g0 g1 N g) (m_ti g0 g2 N g)) (va_cwS 3 hts gX1_sort__X1_sort rfl rfl rfl ks_X1_sort ⟨Nat.le_of_ble_eq_true rfl, Nat.le_of_ble_eq_true rfl⟩) pH.mv (p_at (Z := zTr) trivial) (hK.sub [] rfl) rfl hl.1 rfl (Nat.le_of_ble_eq_true rfl) dX1_sort__39 (Nat.zero_le _) (Nat.zero_le _) hS (fun H locs hsm hS => ?_)
  exact q_retI hx hb hr hlocks hS rfl dX1_sort__42

theorem kv_X1_broken : yX1_broken.cls = RX1 ∧ yX1_broken.cls ≠ "java/lang/invoke/MethodHandle" ∧ yX1_broken.cls ≠ "java/lang/invoke/VarHandle" ∧ (parseMethodDescriptor yX1_broken.desc).map (fun d => d.parameters.length) = some 1 := by decide +kernel
theorem ks_X1_broken : yX1_broken.cls ≠ "java/lang/invoke/MethodHandle" ∧ yX1_broken.cls ≠ "java/lang/invoke/VarHandle" ∧ (parseMethodDescriptor yX1_broken.desc).map (fun d => d.parameters.length) = some 1 := kv_X1_broken.2
set_option maxHeartbeats 4000000 in
set_option maxRecDepth 100000 in
theorem c_X1_broken (l : Launch) (D : va_G) (cI cA : ClassId) (g0 g1 g2 : Nat → Int32) (N : Nat) (r : Nat → Nat) (O : Nat) (hw : w_ok g0 g2 N) : p_I l yX1_broken wsX1_broken ({ frames := 3, cells := 0, slots := 0, locals := 74 } : Room) D (zt cI cA) (pH (gW cI cA g0 g1 g2 N r O)) [.ref O] (nI (m_ab g0 g1 g2 N)) := by
  refine p_startI (cc := cX1_broken) (maxL := 3) (rt := .int) (by decide) rfl (Nat.le_of_ble_eq_true rfl) ?_
  intro p e s m below meth c hx hb hml hr hts hown hlocks hK hPr locs ls hS hl
  have hl : lv_has ls 3 [(0, .ref O)] := hl
  have HG : gG cI cA (m_n g0 N) 5 r (w_row g0 g1 g2 N N) O s.heap := hPr
  have hm9 := m_n_le g0 N
  have hw1 := hw.1
  refine lv_iconst (v := 0) hx hb dX1_broken_0 (by decide) ?_
  refine lv_istore_n (lv' := [(1, .int 0), (0, .ref O)]) hx hb dX1_broken_1 rfl hl (by decide) rfl (fun ls hl => ?_)
  refine lv_iconst (v := 0) hx hb dX1_broken_2 (by decide) ?_
  refine lv_istore_n (lv' := [(2, .int 0), (1, .int 0), (0, .ref O)]) hx hb dX1_broken_3 rfl hl (by decide) rfl (fun ls hl => ?_)
  have lo_4 : ∀ (fu g : Nat), (m_n g0 N - 1) - g < fu → g ≤ (m_n g0 N - 1) → ∀ (H : Heap) (locs : List Loc) (ls : Array Slot), gG cI cA (m_n g0 N) 5 r (w_row g0 g1 g2 N N) O H → va_S q_no s.heap H locs → lv_has ls 3 [(1, .int (nI (ct (m_br g0 g1 g2 N) g))), (2, .int (nI g)), (0, .ref O)] → W p l e ({ frames := 3, cells := 0, slots := 0, locals := 74 } : Room) s m [.ref O].toArray below meth c H locs 0 0 (q_EI below [.ref O].toArray s (nI (m_ab g0 g1 g2 N))) (F0 m 4 ls []) := by
    intro fu
    induction fu with
    | zero => intro g hi; exact absurd hi (Nat.not_lt_zero _)
    | succ fu ih =>
      intro g hi hiN H locs ls HG hS hl
      refine lv_iload_n hx hb dX1_broken_4 rfl (lv_at hl 1 rfl) ?_
      refine lv_iconst (v := 1) hx hb dX1_broken_5 (by decide) ?_
      refine lv_iadd hx hb dX1_broken_6 ?_
      refine lv_aload_n hx hb dX1_broken_7 rfl (lv_at hl 2 rfl) ?_
      refine z_gln hx hb hK 1 rfl HG dX1_broken_8 ?_
      refine lv_icmp_ge (tgt := 35) hx hb dX1_broken_9 (by decide) (fun c_9 => ?_) (fun c_9 => ?_)
      · have hi9 : g = m_n g0 N - 1 := by
          rw [nI_1, nI_leI (by omega) (by omega)] at c_9
          omega
        refine lv_iload_n hx hb dX1_broken_35 rfl (lv_at hl 0 rfl) ?_
        exact q_retI hx hb hr hlocks hS (by unfold m_ab; rw [hi9]) dX1_broken_36
      · have hg : g + 1 < m_n g0 N := by
          rw [nI_1, nI_leI (by omega) (by omega)] at c_9
          omega
        refine lv_iload_n hx hb dX1_broken_12 rfl (lv_at hl 0 rfl) ?_
        refine lv_aload_n hx hb dX1_broken_13 rfl (lv_at hl 2 rfl) ?_
        refine lv_iload_n hx hb dX1_broken_14 rfl (lv_at hl 1 rfl) ?_
        refine p_callS (As := [.ref O, .int (nI g)]) (rest := [.int (nI (ct (m_br g0 g1 g2 N) g))]) ⟨hx, hb, hml, hown, hts⟩ (c_X1_sort_ l D cI cA g0 g1 g2 N r O g hw hg) (va_cwS 2 hts gX1_broken_X1_sort_ rfl rfl rfl ks_X1_sort_ ⟨Nat.le_of_ble_eq_true rfl, Nat.le_of_ble_eq_true rfl⟩) pH.mv (p_at (Z := (gW cI cA g0 g1 g2 N r O)) HG) hK rfl hl.1 rfl (Nat.le_of_ble_eq_true rfl) dX1_broken_15 (Nat.zero_le _) (Nat.zero_le _) hS (fun H locs hsm hS => ?_)
        have HG := HG.kept hsm
        refine lv_iconst (v := 2) hx hb dX1_broken_18 (by decide) ?_
        suffices K_19 : ∀ v9 : Int32, v9 = bI (m_br g0 g1 g2 N g) → W p l e ({ frames := 3, cells := 0, slots := 0, locals := 74 } : Room) s m [.ref O].toArray below meth c H locs 0 0 (q_EI below [.ref O].toArray s (nI (m_ab g0 g1 g2 N))) (F0 m 27 ls [.int v9, .int (nI (ct (m_br g0 g1 g2 N) g))]) from by
          refine lv_icmp_ne (tgt := 26) hx hb dX1_broken_19 (by decide) (fun c_19 => ?_) (fun c_19 => ?_)
          · refine lv_iconst (v := 0) hx hb dX1_broken_26 (by decide) ?_
            exact K_19 _ (by rw [← m_kd2]; exact bI_df c_19)
          · refine lv_iconst (v := 1) hx hb dX1_broken_22 (by decide) ?_
            refine lv_goto (tgt := 27) hx hb dX1_broken_23 (by decide) ?_
            exact K_19 _ (by rw [← m_kd2]; exact bI_dt c_19)
        intro v9 hv9
        rw [hv9]; clear hv9
        refine lv_iadd hx hb dX1_broken_27 ?_
        refine lv_istore_n (lv' := [(1, .int (nI (ct (m_br g0 g1 g2 N) g) + bI (m_br g0 g1 g2 N g))), (2, .int (nI g)), (0, .ref O)]) hx hb dX1_broken_28 rfl hl (by decide) rfl (fun ls hl => ?_)
        refine lv_iinc (v := (nI g + 1)) (lv' := [(2, .int (nI g + 1)), (1, .int (nI (ct (m_br g0 g1 g2 N) g) + bI (m_br g0 g1 g2 N g))), (0, .ref O)]) hx hb dX1_broken_29 hl (k := 1) rfl (by rfl) (by decide) rfl (fun ls hl => ?_)
        refine lv_goto (tgt := 4) hx hb dX1_broken_32 (by decide) ?_
        have e_1 : ((nI (ct (m_br g0 g1 g2 N) g) + bI (m_br g0 g1 g2 N g)) : Int32) = nI (ct (m_br g0 g1 g2 N) (g + 1)) := bI_ct _ g
        have e_2 : ((nI g + 1) : Int32) = nI (g + 1) := nI_1 g
        exact ih (g + 1) (by omega) (by omega) H locs ls HG hS (lv_eq (lv_sub (l' := [(1, .int (nI (ct (m_br g0 g1 g2 N) g) + bI (m_br g0 g1 g2 N g))), (2, .int (nI g + 1)), (0, .ref O)]) hl [1, 0, 2] rfl) (by rw [e_1, e_2]))
  exact lo_4 ((m_n g0 N - 1) + 1) 0 (by omega) (by omega) _ locs ls HG hS (lv_sub hl [1, 0, 2] rfl)

theorem kv_X1_between : yX1_between.cls = RX1 ∧ yX1_between.cls ≠ "java/lang/invoke/MethodHandle" ∧ yX1_between.cls ≠ "java/lang/invoke/VarHandle" ∧ (parseMethodDescriptor yX1_between.desc).map (fun d => d.parameters.length) = some 2 := by decide +kernel
theorem ks_X1_between : yX1_between.cls ≠ "java/lang/invoke/MethodHandle" ∧ yX1_between.cls ≠ "java/lang/invoke/VarHandle" ∧ (parseMethodDescriptor yX1_between.desc).map (fun d => d.parameters.length) = some 2 := kv_X1_between.2
set_option maxHeartbeats 4000000 in
set_option maxRecDepth 100000 in
theorem c_X1_between (l : Launch) (D : va_G) (a b : Nat) (ha : a < 10) (hb9 : b < 10) : p_I l yX1_between wsX1_between ({ frames := 1, cells := 0, slots := 0, locals := 22 } : Room) D ([]) (pH zTr) [.int (nI a), .int (nI b)] (m_half (nI a) (nI b)) := by
  refine p_startI (cc := cX1_between) (maxL := 6) (rt := .int) (by decide) rfl (Nat.le_of_ble_eq_true rfl) ?_
  intro p e s m below meth c hx hb hml hr hts hown hlocks hK hPr locs ls hS hl
  have hl : lv_has ls 6 [(0, .int (nI a)), (1, .int (nI b))] := hl
  obtain ⟨e0, hd6, -, -⟩ := ap_fin a ha b hb9
  have eh9 : x_ds (nI a) (nI b) / 2 = nI ((x_ds (nI a) (nI b)).toNatClampNeg / 2) := by
    rw [e0, nI_clamp (by omega)]
    exact pk_div (d := 2) (by omega) (by decide) (by decide)
  refine lv_iload_n hx hb dX1_between_0 rfl (lv_at hl 0 rfl) ?_
  refine lv_iload_n hx hb dX1_between_1 rfl (lv_at hl 1 rfl) ?_
  refine p_callS (As := [.int (nI a), .int (nI b)]) (rest := []) ⟨hx, hb, hml, hown, hts⟩ (c_X1_apart l D a b ha hb9) (va_cwS 2 hts gX1_between_X1_apart rfl rfl rfl ks_X1_apart ⟨Nat.le_of_ble_eq_true rfl, Nat.le_of_ble_eq_true rfl⟩) pH.mv (p_at (Z := zTr) trivial) hK rfl hl.1 rfl (Nat.le_of_ble_eq_true rfl) dX1_between_2 (Nat.zero_le _) (Nat.zero_le _) hS (fun H locs hsm hS => ?_)
  refine lv_istore_n (lv' := [(2, .int (x_ds (nI a) (nI b))), (0, .int (nI a)), (1, .int (nI b))]) hx hb dX1_between_5 rfl hl (by decide) rfl (fun ls hl => ?_)
  refine lv_iload_n hx hb dX1_between_6 rfl (lv_at hl 1 rfl) ?_
  refine lv_iload_n hx hb dX1_between_7 rfl (lv_at hl 0 rfl) ?_
  refine lv_iadd hx hb dX1_between_8 ?_
  refine lv_bipush (v := 10) hx hb dX1_between_9 (by decide) ?_
  refine lv_irem hx hb dX1_between_11 (by decide) ?_
  refine lv_iload_n hx hb dX1_between_12 rfl (lv_at hl 2 rfl) ?_
  suffices K_13 : ∀ v9 : Int32, v9 = (if nI a + x_ds (nI a) (nI b) - (nI a + x_ds (nI a) (nI b)) / 10 * 10 = nI b then 1 else 9) → W p l e ({ frames := 1, cells := 0, slots := 0, locals := 22 } : Room) s m [.int (nI a), .int (nI b)].toArray below meth c H locs 0 0 (q_EI below [.int (nI a), .int (nI b)].toArray s (m_half (nI a) (nI b))) (F0 m 22 ls [.int v9]) from by
    refine lv_icmp_ne (tgt := 20) hx hb dX1_between_13 (by decide) (fun c_13 => ?_) (fun c_13 => ?_)
    · refine lv_bipush (v := 9) hx hb dX1_between_20 (by decide) ?_
      exact K_13 _ (if_neg c_13).symm
    · refine lv_iconst (v := 1) hx hb dX1_between_16 (by decide) ?_
      refine lv_goto (tgt := 22) hx hb dX1_between_17 (by decide) ?_
      exact K_13 _ (if_pos c_13).symm
  intro v9 hv9
  rw [hv9]; clear hv9
  refine lv_istore_n (lv' := [(3, .int (if nI a + x_ds (nI a) (nI b) - (nI a + x_ds (nI a) (nI b)) / 10 * 10 = nI b then 1 else 9)), (2, .int (x_ds (nI a) (nI b))), (0, .int (nI a)), (1, .int (nI b))]) hx hb dX1_between_22 rfl hl (by decide) rfl (fun ls hl => ?_)
  refine lv_iload_n hx hb dX1_between_23 rfl (lv_at hl 2 rfl) ?_
  refine lv_istore (lv' := [(4, .int (nI a)), (3, .int (if nI a + x_ds (nI a) (nI b) - (nI a + x_ds (nI a) (nI b)) / 10 * 10 = nI b then 1 else 9)), (2, .int (x_ds (nI a) (nI b))), (0, .int (nI a)), (1, .int (nI b))]) hx hb dX1_between_24 hl (by decide) rfl (fun ls hl => ?_)
  refine lv_iconst (v := 0) hx hb dX1_between_26 (by decide) ?_
  refine lv_istore (lv' := [(5, .int 0), (4, .int (nI a)), (3, .int (if nI a + x_ds (nI a) (nI b) - (nI a + x_ds (nI a) (nI b)) / 10 * 10 = nI b then 1 else 9)), (2, .int (x_ds (nI a) (nI b))), (0, .int (nI a)), (1, .int (nI b))]) hx hb dX1_between_27 hl (by decide) rfl (fun ls hl => ?_)
  have lo_29 : ∀ (fu k : Nat), ((x_ds (nI a) (nI b)).toNatClampNeg / 2) - k < fu → k ≤ ((x_ds (nI a) (nI b)).toNatClampNeg / 2) → ∀ (H : Heap) (locs : List Loc) (ls : Array Slot), va_S q_no s.heap H locs → lv_has ls 6 [(5, .int (nI k)), (4, .int (z_it (if nI a + x_ds (nI a) (nI b) - (nI a + x_ds (nI a) (nI b)) / 10 * 10 = nI b then 1 else 9) (nI a) k)), (3, .int (if nI a + x_ds (nI a) (nI b) - (nI a + x_ds (nI a) (nI b)) / 10 * 10 = nI b then 1 else 9)), (2, .int (x_ds (nI a) (nI b))), (0, .int (nI a)), (1, .int (nI b))] → W p l e ({ frames := 1, cells := 0, slots := 0, locals := 22 } : Room) s m [.int (nI a), .int (nI b)].toArray below meth c H locs 0 0 (q_EI below [.int (nI a), .int (nI b)].toArray s (m_half (nI a) (nI b))) (F0 m 29 ls []) := by
    intro fu
    induction fu with
    | zero => intro k hi; exact absurd hi (Nat.not_lt_zero _)
    | succ fu ih =>
      intro k hi hiN H locs ls  hS hl
      refine lv_iload hx hb dX1_between_29 (lv_at hl 0 rfl) ?_
      refine lv_iload_n hx hb dX1_between_31 rfl (lv_at hl 3 rfl) ?_
      refine lv_iconst (v := 2) hx hb dX1_between_32 (by decide) ?_
      refine lv_idiv hx hb dX1_between_33 (by decide) ?_
      rw [eh9]
      refine lv_icmp_ge (tgt := 52) hx hb dX1_between_34 (by decide) (fun c_34 => ?_) (fun c_34 => ?_)
      · have hi9 : k = (x_ds (nI a) (nI b)).toNatClampNeg / 2 := nI_ge' hiN (by omega) c_34
        refine lv_iload hx hb dX1_between_52 (lv_at hl 1 rfl) ?_
        exact q_retI hx hb hr hlocks hS (by rw [hi9]; exact bt_fin a ha b hb9) dX1_between_54
      · have hi9 : k < (x_ds (nI a) (nI b)).toNatClampNeg / 2 := nI_lt' hiN (by omega) c_34
        refine lv_iload hx hb dX1_between_37 (lv_at hl 1 rfl) ?_
        refine lv_iload_n hx hb dX1_between_39 rfl (lv_at hl 2 rfl) ?_
        refine lv_iadd hx hb dX1_between_40 ?_
        refine lv_bipush (v := 10) hx hb dX1_between_41 (by decide) ?_
        refine lv_irem hx hb dX1_between_43 (by decide) ?_
        refine lv_istore (lv' := [(4, .int ((z_it (if nI a + x_ds (nI a) (nI b) - (nI a + x_ds (nI a) (nI b)) / 10 * 10 = nI b then 1 else 9) (nI a) k + (if nI a + x_ds (nI a) (nI b) - (nI a + x_ds (nI a) (nI b)) / 10 * 10 = nI b then 1 else 9)) - (z_it (if nI a + x_ds (nI a) (nI b) - (nI a + x_ds (nI a) (nI b)) / 10 * 10 = nI b then 1 else 9) (nI a) k + (if nI a + x_ds (nI a) (nI b) - (nI a + x_ds (nI a) (nI b)) / 10 * 10 = nI b then 1 else 9)) / 10 * 10)), (5, .int (nI k)), (3, .int (if nI a + x_ds (nI a) (nI b) - (nI a + x_ds (nI a) (nI b)) / 10 * 10 = nI b then 1 else 9)), (2, .int (x_ds (nI a) (nI b))), (0, .int (nI a)), (1, .int (nI b))]) hx hb dX1_between_44 hl (by decide) rfl (fun ls hl => ?_)
        refine lv_iinc (v := (nI k + 1)) (lv' := [(5, .int (nI k + 1)), (4, .int ((z_it (if nI a + x_ds (nI a) (nI b) - (nI a + x_ds (nI a) (nI b)) / 10 * 10 = nI b then 1 else 9) (nI a) k + (if nI a + x_ds (nI a) (nI b) - (nI a + x_ds (nI a) (nI b)) / 10 * 10 = nI b then 1 else 9)) - (z_it (if nI a + x_ds (nI a) (nI b) - (nI a + x_ds (nI a) (nI b)) / 10 * 10 = nI b then 1 else 9) (nI a) k + (if nI a + x_ds (nI a) (nI b) - (nI a + x_ds (nI a) (nI b)) / 10 * 10 = nI b then 1 else 9)) / 10 * 10)), (3, .int (if nI a + x_ds (nI a) (nI b) - (nI a + x_ds (nI a) (nI b)) / 10 * 10 = nI b then 1 else 9)), (2, .int (x_ds (nI a) (nI b))), (0, .int (nI a)), (1, .int (nI b))]) hx hb dX1_between_46 hl (k := 1) rfl (by rfl) (by decide) rfl (fun ls hl => ?_)
        refine lv_goto (tgt := 29) hx hb dX1_between_49 (by decide) ?_
        have e_5 : ((nI k + 1) : Int32) = nI (k + 1) := nI_1 k
        have e_4 : (((z_it (if nI a + x_ds (nI a) (nI b) - (nI a + x_ds (nI a) (nI b)) / 10 * 10 = nI b then 1 else 9) (nI a) k + (if nI a + x_ds (nI a) (nI b) - (nI a + x_ds (nI a) (nI b)) / 10 * 10 = nI b then 1 else 9)) - (z_it (if nI a + x_ds (nI a) (nI b) - (nI a + x_ds (nI a) (nI b)) / 10 * 10 = nI b then 1 else 9) (nI a) k + (if nI a + x_ds (nI a) (nI b) - (nI a + x_ds (nI a) (nI b)) / 10 * 10 = nI b then 1 else 9)) / 10 * 10) : Int32) = z_it (if nI a + x_ds (nI a) (nI b) - (nI a + x_ds (nI a) (nI b)) / 10 * 10 = nI b then 1 else 9) (nI a) (k + 1) := rfl
        exact ih (k + 1) (by omega) (by omega) H locs ls  hS (lv_eq (lv_sub (l' := [(5, .int (nI k + 1)), (4, .int ((z_it (if nI a + x_ds (nI a) (nI b) - (nI a + x_ds (nI a) (nI b)) / 10 * 10 = nI b then 1 else 9) (nI a) k + (if nI a + x_ds (nI a) (nI b) - (nI a + x_ds (nI a) (nI b)) / 10 * 10 = nI b then 1 else 9)) - (z_it (if nI a + x_ds (nI a) (nI b) - (nI a + x_ds (nI a) (nI b)) / 10 * 10 = nI b then 1 else 9) (nI a) k + (if nI a + x_ds (nI a) (nI b) - (nI a + x_ds (nI a) (nI b)) / 10 * 10 = nI b then 1 else 9)) / 10 * 10)), (3, .int (if nI a + x_ds (nI a) (nI b) - (nI a + x_ds (nI a) (nI b)) / 10 * 10 = nI b then 1 else 9)), (2, .int (x_ds (nI a) (nI b))), (0, .int (nI a)), (1, .int (nI b))]) hl [0, 1, 2, 3, 4, 5] rfl) (by rw [e_4, e_5]))
  exact lo_29 (((x_ds (nI a) (nI b)).toNatClampNeg / 2) + 1) 0 (by omega) (by omega) _ locs ls  hS (lv_sub hl [0, 1, 2, 3, 4, 5] rfl)

theorem kv_X1_mends : yX1_mends.cls = RX1 ∧ yX1_mends.cls ≠ "java/lang/invoke/MethodHandle" ∧ yX1_mends.cls ≠ "java/lang/invoke/VarHandle" ∧ (parseMethodDescriptor yX1_mends.desc).map (fun d => d.parameters.length) = some 2 := by decide +kernel
theorem ks_X1_mends : yX1_mends.cls ≠ "java/lang/invoke/MethodHandle" ∧ yX1_mends.cls ≠ "java/lang/invoke/VarHandle" ∧ (parseMethodDescriptor yX1_mends.desc).map (fun d => d.parameters.length) = some 2 := kv_X1_mends.2
set_option maxHeartbeats 4000000 in
set_option maxRecDepth 100000 in
theorem c_X1_mends (l : Launch) (D : va_G) (S : Nat) (cI cA : ClassId) (g0 g1 g2 : Nat → Int32) (N : Nat) (r : Nat → Nat) (O : Nat) (g : Nat) (hw : w_ok g0 g2 N) (hg : g + 1 < m_n g0 N) : p_I l yX1_mends wsX1_mends ({ frames := 3, cells := 0, slots := 0, locals := 82 } : Room) D (zt cI cA) (pH (gW cI cA g0 g1 g2 N r O)) [.ref S, .ref O, .int (nI g)] (m_md g0 g1 g2 N g) := by
  refine p_startI (cc := cX1_mends) (maxL := 4) (rt := .int) (by decide) rfl (Nat.le_of_ble_eq_true rfl) ?_
  intro p e s m below meth c hx hb hml hr hts hown hlocks hK hPr locs ls hS hl
  have hl : lv_has ls 4 [(0, .ref S), (1, .ref O), (2, .int (nI g))] := hl
  have HG : gG cI cA (m_n g0 N) 5 r (w_row g0 g1 g2 N N) O s.heap := hPr
  have hm9 := m_n_le g0 N
  have hw1 := hw.1
  refine lv_aload_n hx hb dX1_mends_0 rfl (lv_at hl 1 rfl) ?_
  refine lv_iload_n hx hb dX1_mends_1 rfl (lv_at hl 2 rfl) ?_
  refine p_callS (As := [.ref O, .int (nI g)]) (rest := []) ⟨hx, hb, hml, hown, hts⟩ (c_X1_sort_ l D cI cA g0 g1 g2 N r O g hw hg) (va_cwS 2 hts gX1_mends_X1_sort_ rfl rfl rfl ks_X1_sort_ ⟨Nat.le_of_ble_eq_true rfl, Nat.le_of_ble_eq_true rfl⟩) pH.mv (p_at (Z := (gW cI cA g0 g1 g2 N r O)) HG) hK rfl hl.1 rfl (Nat.le_of_ble_eq_true rfl) dX1_mends_2 (Nat.zero_le _) (Nat.zero_le _) hS (fun H locs hsm hS => ?_)
  have HG := HG.kept hsm
  refine lv_iconst (v := 2) hx hb dX1_mends_5 (by decide) ?_
  refine lv_icmp_ge (tgt := 11) hx hb dX1_mends_6 (by decide) (fun c_6 => ?_) (fun c_6 => ?_)
  · refine lv_iconst (v := 1) hx hb dX1_mends_11 (by decide) ?_
    refine lv_istore_n (lv' := [(3, .int 1), (0, .ref S), (1, .ref O), (2, .int (nI g))]) hx hb dX1_mends_12 rfl hl (by decide) rfl (fun ls hl => ?_)
    refine lv_iload_n hx hb dX1_mends_13 rfl (lv_at hl 0 rfl) ?_
    refine lv_iconst (v := 3) hx hb dX1_mends_14 (by decide) ?_
    refine lv_icmp_ge (tgt := 70) hx hb dX1_mends_15 (by decide) (fun h9 => absurd h9 (by decide)) (fun _ => ?_)
    refine lv_iload_n hx hb dX1_mends_18 rfl (lv_at hl 0 rfl) ?_
    refine lv_aload_n hx hb dX1_mends_19 rfl (lv_at hl 2 rfl) ?_
    refine lv_iload_n hx hb dX1_mends_20 rfl (lv_at hl 3 rfl) ?_
    refine z_gal hx hb hK 1 rfl HG g (by omega) (by omega) rfl dX1_mends_21 ?_
    refine lv_iconst (v := 2) hx hb dX1_mends_22 (by decide) ?_
    refine z_gil hx hb hK 0 rfl HG g (by omega) 2 (by decide) (by decide) (v := nI (m_cN g0 N g)) rfl ((w_cg hg).trans (m_cg_N hg)) dX1_mends_23 ?_
    refine lv_icmp_gt (tgt := 70) hx hb dX1_mends_24 (by decide) (fun t1 => ?_) (fun t1 => ?_)
    · refine lv_iconst (v := 3) hx hb dX1_mends_70 (by decide) ?_
      exact q_retI hx hb hr hlocks hS (by rw [← md_b hw hg c_6]; unfold z_md; rw [if_pos t1]) dX1_mends_71
    · refine lv_aload_n hx hb dX1_mends_27 rfl (lv_at hl 2 rfl) ?_
      refine lv_iload_n hx hb dX1_mends_28 rfl (lv_at hl 3 rfl) ?_
      refine p_callS (As := [.ref O, .int (nI g)]) (rest := []) ⟨hx, hb, hml, hown, hts⟩ (c_X1_strain l D cI cA g0 g1 g2 N r O g hw hg) (va_cwS 2 hts gX1_mends_X1_strain rfl rfl rfl ks_X1_strain ⟨Nat.le_of_ble_eq_true rfl, Nat.le_of_ble_eq_true rfl⟩) pH.mv (p_at (Z := (gW cI cA g0 g1 g2 N r O)) HG) hK rfl hl.1 rfl (Nat.le_of_ble_eq_true rfl) dX1_mends_29 (Nat.zero_le _) (Nat.zero_le _) hS (fun H locs hsm hS => ?_)
      have HG := HG.kept hsm
      refine lv_iload_n hx hb dX1_mends_32 rfl (lv_at hl 0 rfl) ?_
      refine lv_isub hx hb dX1_mends_33 ?_
      refine lv_aload_n hx hb dX1_mends_34 rfl (lv_at hl 2 rfl) ?_
      refine lv_iload_n hx hb dX1_mends_35 rfl (lv_at hl 3 rfl) ?_
      refine z_gal hx hb hK 1 rfl HG g (by omega) (by omega) rfl dX1_mends_36 ?_
      refine lv_iconst (v := 0) hx hb dX1_mends_37 (by decide) ?_
      refine z_gil hx hb hK 0 rfl HG g (by omega) 0 (by decide) (by decide) (v := g1 (m_P g0 N g)) rfl rfl dX1_mends_38 ?_
      refine lv_aload_n hx hb dX1_mends_39 rfl (lv_at hl 2 rfl) ?_
      refine lv_iload_n hx hb dX1_mends_40 rfl (lv_at hl 3 rfl) ?_
      refine lv_iconst (v := 1) hx hb dX1_mends_41 (by decide) ?_
      refine lv_iadd hx hb dX1_mends_42 ?_
      refine z_gal hx hb hK 1 rfl HG (g + 1) hg (by omega) (nI_1 g) dX1_mends_43 ?_
      refine lv_iconst (v := 0) hx hb dX1_mends_44 (by decide) ?_
      refine z_gil hx hb hK 0 rfl HG (g + 1) hg 0 (by decide) (by decide) (v := g1 (m_P g0 N (g + 1))) rfl rfl dX1_mends_45 ?_
      suffices K_46 : ∀ v9 : Int32, v9 = bI (m_sm g0 g1 N g) → W p l e ({ frames := 3, cells := 0, slots := 0, locals := 82 } : Room) s m [.ref S, .ref O, .int (nI g)].toArray below meth c H locs 0 0 (q_EI below [.ref S, .ref O, .int (nI g)].toArray s (m_md g0 g1 g2 N g)) (F0 m 54 ls [.int v9, .int (m_st g0 N g - 1)]) from by
        refine lv_icmp_ne (tgt := 53) hx hb dX1_mends_46 (by decide) (fun c_46 => ?_) (fun c_46 => ?_)
        · refine lv_iconst (v := 0) hx hb dX1_mends_53 (by decide) ?_
          exact K_46 _ (by unfold m_sm; exact bI_df c_46)
        · refine lv_iconst (v := 1) hx hb dX1_mends_49 (by decide) ?_
          refine lv_goto (tgt := 54) hx hb dX1_mends_50 (by decide) ?_
          exact K_46 _ (by unfold m_sm; exact bI_dt c_46)
      intro v9 hv9
      rw [hv9]; clear hv9
      refine lv_iconst (v := 0) hx hb dX1_mends_54 (by decide) ?_
      refine p_callS (As := [.int (m_st g0 N g - 1), .int (bI (m_sm g0 g1 N g)), .int (bI false)]) (rest := []) ⟨hx, hb, hml, hown, hts⟩ (c_X1_sort l D (m_st g0 N g - 1) (m_sm g0 g1 N g) false) (va_cwS 3 hts gX1_mends_X1_sort rfl rfl rfl ks_X1_sort ⟨Nat.le_of_ble_eq_true rfl, Nat.le_of_ble_eq_true rfl⟩) pH.mv (p_at (Z := zTr) trivial) (hK.sub [] rfl) rfl hl.1 rfl (Nat.le_of_ble_eq_true rfl) dX1_mends_55 (Nat.zero_le _) (Nat.zero_le _) hS (fun H locs hsm hS => ?_)
      have HG := HG.kept hsm
      refine lv_iconst (v := 2) hx hb dX1_mends_58 (by decide) ?_
      refine lv_icmp_ge (tgt := 64) hx hb dX1_mends_59 (by decide) (fun u1 => ?_) (fun u1 => ?_)
      · refine lv_iinc (v := 2) (lv' := [(3, .int 2), (0, .ref S), (1, .ref O), (2, .int (nI g))]) hx hb dX1_mends_64 hl (k := 0) rfl (by rfl) (by decide) rfl (fun ls hl => ?_)
        refine lv_goto (tgt := 13) hx hb dX1_mends_67 (by decide) ?_
        refine lv_iload_n hx hb dX1_mends_13 rfl (lv_at hl 0 rfl) ?_
        refine lv_iconst (v := 3) hx hb dX1_mends_14 (by decide) ?_
        refine lv_icmp_ge (tgt := 70) hx hb dX1_mends_15 (by decide) (fun h9 => absurd h9 (by decide)) (fun _ => ?_)
        refine lv_iload_n hx hb dX1_mends_18 rfl (lv_at hl 0 rfl) ?_
        refine lv_aload_n hx hb dX1_mends_19 rfl (lv_at hl 2 rfl) ?_
        refine lv_iload_n hx hb dX1_mends_20 rfl (lv_at hl 3 rfl) ?_
        refine z_gal hx hb hK 1 rfl HG g (by omega) (by omega) rfl dX1_mends_21 ?_
        refine lv_iconst (v := 2) hx hb dX1_mends_22 (by decide) ?_
        refine z_gil hx hb hK 0 rfl HG g (by omega) 2 (by decide) (by decide) (v := nI (m_cN g0 N g)) rfl ((w_cg hg).trans (m_cg_N hg)) dX1_mends_23 ?_
        refine lv_icmp_gt (tgt := 70) hx hb dX1_mends_24 (by decide) (fun t2 => ?_) (fun t2 => ?_)
        · refine lv_iconst (v := 3) hx hb dX1_mends_70 (by decide) ?_
          exact q_retI hx hb hr hlocks hS (by rw [← md_b hw hg c_6]; unfold z_md; rw [if_neg t1, if_neg (fun h => h u1), if_pos t2]) dX1_mends_71
        · refine lv_aload_n hx hb dX1_mends_27 rfl (lv_at hl 2 rfl) ?_
          refine lv_iload_n hx hb dX1_mends_28 rfl (lv_at hl 3 rfl) ?_
          refine p_callS (As := [.ref O, .int (nI g)]) (rest := []) ⟨hx, hb, hml, hown, hts⟩ (c_X1_strain l D cI cA g0 g1 g2 N r O g hw hg) (va_cwS 2 hts gX1_mends_X1_strain rfl rfl rfl ks_X1_strain ⟨Nat.le_of_ble_eq_true rfl, Nat.le_of_ble_eq_true rfl⟩) pH.mv (p_at (Z := (gW cI cA g0 g1 g2 N r O)) HG) hK rfl hl.1 rfl (Nat.le_of_ble_eq_true rfl) dX1_mends_29 (Nat.zero_le _) (Nat.zero_le _) hS (fun H locs hsm hS => ?_)
          have HG := HG.kept hsm
          refine lv_iload_n hx hb dX1_mends_32 rfl (lv_at hl 0 rfl) ?_
          refine lv_isub hx hb dX1_mends_33 ?_
          refine lv_aload_n hx hb dX1_mends_34 rfl (lv_at hl 2 rfl) ?_
          refine lv_iload_n hx hb dX1_mends_35 rfl (lv_at hl 3 rfl) ?_
          refine z_gal hx hb hK 1 rfl HG g (by omega) (by omega) rfl dX1_mends_36 ?_
          refine lv_iconst (v := 0) hx hb dX1_mends_37 (by decide) ?_
          refine z_gil hx hb hK 0 rfl HG g (by omega) 0 (by decide) (by decide) (v := g1 (m_P g0 N g)) rfl rfl dX1_mends_38 ?_
          refine lv_aload_n hx hb dX1_mends_39 rfl (lv_at hl 2 rfl) ?_
          refine lv_iload_n hx hb dX1_mends_40 rfl (lv_at hl 3 rfl) ?_
          refine lv_iconst (v := 1) hx hb dX1_mends_41 (by decide) ?_
          refine lv_iadd hx hb dX1_mends_42 ?_
          refine z_gal hx hb hK 1 rfl HG (g + 1) hg (by omega) (nI_1 g) dX1_mends_43 ?_
          refine lv_iconst (v := 0) hx hb dX1_mends_44 (by decide) ?_
          refine z_gil hx hb hK 0 rfl HG (g + 1) hg 0 (by decide) (by decide) (v := g1 (m_P g0 N (g + 1))) rfl rfl dX1_mends_45 ?_
          suffices K_46 : ∀ v9 : Int32, v9 = bI (m_sm g0 g1 N g) → W p l e ({ frames := 3, cells := 0, slots := 0, locals := 82 } : Room) s m [.ref S, .ref O, .int (nI g)].toArray below meth c H locs 0 0 (q_EI below [.ref S, .ref O, .int (nI g)].toArray s (m_md g0 g1 g2 N g)) (F0 m 54 ls [.int v9, .int (m_st g0 N g - 2)]) from by
            refine lv_icmp_ne (tgt := 53) hx hb dX1_mends_46 (by decide) (fun c_46 => ?_) (fun c_46 => ?_)
            · refine lv_iconst (v := 0) hx hb dX1_mends_53 (by decide) ?_
              exact K_46 _ (by unfold m_sm; exact bI_df c_46)
            · refine lv_iconst (v := 1) hx hb dX1_mends_49 (by decide) ?_
              refine lv_goto (tgt := 54) hx hb dX1_mends_50 (by decide) ?_
              exact K_46 _ (by unfold m_sm; exact bI_dt c_46)
          intro v9 hv9
          rw [hv9]; clear hv9
          refine lv_iconst (v := 0) hx hb dX1_mends_54 (by decide) ?_
          refine p_callS (As := [.int (m_st g0 N g - 2), .int (bI (m_sm g0 g1 N g)), .int (bI false)]) (rest := []) ⟨hx, hb, hml, hown, hts⟩ (c_X1_sort l D (m_st g0 N g - 2) (m_sm g0 g1 N g) false) (va_cwS 3 hts gX1_mends_X1_sort rfl rfl rfl ks_X1_sort ⟨Nat.le_of_ble_eq_true rfl, Nat.le_of_ble_eq_true rfl⟩) pH.mv (p_at (Z := zTr) trivial) (hK.sub [] rfl) rfl hl.1 rfl (Nat.le_of_ble_eq_true rfl) dX1_mends_55 (Nat.zero_le _) (Nat.zero_le _) hS (fun H locs hsm hS => ?_)
          have HG := HG.kept hsm
          refine lv_iconst (v := 2) hx hb dX1_mends_58 (by decide) ?_
          refine lv_icmp_ge (tgt := 64) hx hb dX1_mends_59 (by decide) (fun u2 => ?_) (fun u2 => ?_)
          · refine lv_iinc (v := 3) (lv' := [(3, .int 3), (0, .ref S), (1, .ref O), (2, .int (nI g))]) hx hb dX1_mends_64 hl (k := 0) rfl (by rfl) (by decide) rfl (fun ls hl => ?_)
            refine lv_goto (tgt := 13) hx hb dX1_mends_67 (by decide) ?_
            refine lv_iload_n hx hb dX1_mends_13 rfl (lv_at hl 0 rfl) ?_
            refine lv_iconst (v := 3) hx hb dX1_mends_14 (by decide) ?_
            refine lv_icmp_ge (tgt := 70) hx hb dX1_mends_15 (by decide) (fun _ => ?_) (fun h9 => absurd (by decide) h9)
            refine lv_iconst (v := 3) hx hb dX1_mends_70 (by decide) ?_
            exact q_retI hx hb hr hlocks hS (by rw [← md_b hw hg c_6]; unfold z_md; rw [if_neg t1, if_neg (fun h => h u1), if_neg t2, if_neg (fun h => h u2)]) dX1_mends_71
          · refine lv_iload_n hx hb dX1_mends_62 rfl (lv_at hl 0 rfl) ?_
            exact q_retI hx hb hr hlocks hS (by rw [← md_b hw hg c_6]; unfold z_md; rw [if_neg t1, if_neg (fun h => h u1), if_neg t2, if_pos u2]) dX1_mends_63
      · refine lv_iload_n hx hb dX1_mends_62 rfl (lv_at hl 0 rfl) ?_
        exact q_retI hx hb hr hlocks hS (by rw [← md_b hw hg c_6]; unfold z_md; rw [if_neg t1, if_pos u1]) dX1_mends_63
  · refine lv_iconst (v := 0) hx hb dX1_mends_9 (by decide) ?_
    exact q_retI hx hb hr hlocks hS ((md_0 c_6).symm) dX1_mends_10
