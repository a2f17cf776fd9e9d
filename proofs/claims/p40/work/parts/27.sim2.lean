/-! own rows: the simulation's rows, made and changed -/
theorem z_pos (x : Int32) : ¬ x &&& 2147483647 < 0 := by
  have h : (x &&& 2147483647).toBitVec.msb = false := by
    rw [Int32.toBitVec_and, BitVec.msb_and, show (2147483647 : Int32).toBitVec.msb = false from by decide, Bool.and_false]
  have e : (x &&& 2147483647).toInt = ((x &&& 2147483647).toBitVec.toNat : Int) := by
    show BitVec.toInt _ = _
    rw [BitVec.toInt_eq_msb_cond, h]
    rfl
  rw [Int32.lt_iff_toInt_lt, e, show (0 : Int32).toInt = 0 from by decide]
  omega
/-- v & 0x7fffffff as a natural number -/
def z_lo (x : Int32) : Nat := (x &&& 2147483647).toNatClampNeg
theorem z_loE (x : Int32) : x &&& 2147483647 = nI (z_lo x) ∧ z_lo x < 2 ^ 31 := by
  obtain ⟨j, hj, e⟩ := nI_of (z_pos x)
  unfold z_lo
  rw [e, nI_clamp hj]
  exact ⟨rfl, hj⟩
def pX (b L : Nat) (xs : Nat → Int32) : State → Prop := fun U => va_X b L xs U U.heap
theorem pX.mv {b L : Nat} {xs : Nat → Int32} : p_mv (pX b L xs) := fun u U h hvm hz => by
  show va_X b L xs U U.heap
  rw [h]
  exact va_X.moved (by rw [hvm]; exact Vm.Alike.refl _) hz
def z_cl (L : Nat) (xs : Nat → Int32) (k : Nat) : Int32 := if k < L then xs k else 790386105 * (nI k + 3)
def s_row (g0 g1 g2 : Nat → Int32) (i j : Nat) : Int32 := match j with
  | 0 => g1 i
  | 1 => g0 i
  | _ => g2 i
/-- the simulation S: its numbers, its N rows -/
def sG (D : va_G) (cI cA : ClassId) (S O N : Nat) (r : Nat → Nat) (g0 g1 g2 : Nat → Int32) (pa pe : Int32) (H : Heap) : Prop := sS D pa pe (.ref O) S H ∧ gG cI cA N 3 r (s_row g0 g1 g2) O H
theorem sG.kept {D : va_G} {cI cA : ClassId} {S O N : Nat} {r : Nat → Nat} {g0 g1 g2 : Nat → Int32} {pa pe : Int32} {H H1 : Heap} (h : sG D cI cA S O N r g0 g1 g2 pa pe H) (hq : q_same H H1) : sG D cI cA S O N r g0 g1 g2 pa pe H1 :=
  ⟨h.1.kept (hq.2 S h.1.lt), h.2.kept hq⟩
theorem sG.cell {D : va_G} {cI cA : ClassId} {S O N : Nat} {r : Nat → Nat} {g0 g1 g2 : Nat → Int32} {pa pe : Int32} {H : Heap} (h : sG D cI cA S O N r g0 g1 g2 pa pe H) : va_at D vwCl (S, .inr (1, [.int pa, .int pe, .ref O])) H := h.1
theorem m_P_b {g0 : Nat → Int32} {N i k : Nat} (hi : i ≤ N) (hk : k < ct (m_wd g0) i) : m_P g0 N k < i := by
  have hm := ct_mono (m_wd g0) hi
  have h : k < m_n g0 N := by unfold m_n; omega
  rcases Nat.lt_or_ge (m_P g0 N k) i with q | q
  · exact q
  · have h2 := ct_mono (m_wd g0) q
    rw [m_P_ct h] at h2
    omega
theorem m_P_i {g0 : Nat → Int32} {N i : Nat} (hi : i < N) (hw : m_wd g0 i = true) : m_P g0 N (ct (m_wd g0) i) = i := by
  unfold m_P
  exact plr_ct _ _ _ hi hw
theorem ct_lt_n {g0 : Nat → Int32} {N i : Nat} (hi : i < N) (hw : m_wd g0 i = true) : ct (m_wd g0) i < m_n g0 N := by
  have h := ct_mono (m_wd g0) (show i + 1 ≤ N by omega)
  rw [ct_t hw] at h
  unfold m_n
  omega
theorem w_c_w {g0 : Nat → Int32} {N i k : Nat} (hi : i < N) (hw : m_wd g0 i = true) (hk : k < ct (m_wd g0) i) : w_c g0 N (i + 1) k = w_c g0 N i k := by
  unfold w_c
  rw [ct_t hw]
  by_cases h : k + 1 < ct (m_wd g0) i
  · rw [if_pos h, if_pos (by omega)]
  · rw [if_neg h, if_pos (by omega)]
    unfold m_cN
    rw [show k + 1 = ct (m_wd g0) i by omega, m_P_i hi hw]
    omega
theorem w_c_n {g0 : Nat → Int32} {N i : Nat} (hi : i < N) (hw : m_wd g0 i = true) : w_c g0 N (i + 1) (ct (m_wd g0) i) = 0 := by
  unfold w_c
  rw [ct_t hw, if_neg (by omega), m_P_i hi hw]
  omega
theorem w_c_o {g0 : Nat → Int32} {N i k : Nat} (hw : ¬ m_wd g0 i = true) (hk : k + 1 < ct (m_wd g0) i) : w_c g0 N (i + 1) k = w_c g0 N i k := by
  unfold w_c
  rw [ct_f hw, if_pos hk, if_pos hk]
theorem w_c_l {g0 : Nat → Int32} {N i k : Nat} (hi : i ≤ N) (hw : ¬ m_wd g0 i = true) (hk : k + 1 = ct (m_wd g0) i) : w_c g0 N (i + 1) k = w_c g0 N i k + 1 := by
  have h := m_P_b hi (show k < ct (m_wd g0) i by omega)
  unfold w_c
  rw [ct_f hw, if_neg (by omega), if_neg (by omega)]
  omega
theorem w_row_c {g0 g1 g2 : Nat → Int32} {N i i' k j : Nat} (h : w_c g0 N i k = w_c g0 N i' k) : w_row g0 g1 g2 N i k j = w_row g0 g1 g2 N i' k j := by
  unfold w_row
  rw [h]
/-- the words' rows, made as far as remark i -/
def wP (cI cA : ClassId) (g0 g1 g2 : Nat → Int32) (N i q sz : Nat) (H : Heap) : Prop :=
  ∃ r : Nat → Nat, aR cA (m_n g0 N) (fun k => if k < ct (m_wd g0) i then some (r k) else none) q H ∧
    (∀ k, k < ct (m_wd g0) i → sz ≤ r k ∧ r k ≠ q ∧ ∃ f, aI cI 5 f (r k) H ∧ ∀ j, j < 5 → f j = w_row g0 g1 g2 N i k j) ∧
    ∀ k k', k < ct (m_wd g0) i → k' < ct (m_wd g0) i → r k = r k' → k = k'
theorem wP_word {cI cA : ClassId} {g0 g1 g2 : Nat → Int32} {N i q sz y : Nat} {r : Nat → Nat} {H H1 H2 : Heap} {f : Nat → Int32} (hi : i < N) (hw : m_wd g0 i = true)
    (hrows : ∀ k, k < ct (m_wd g0) i → sz ≤ r k ∧ r k ≠ q ∧ ∃ f, aI cI 5 f (r k) H ∧ ∀ j, j < 5 → f j = w_row g0 g1 g2 N i k j) (hinj : ∀ k k', k < ct (m_wd g0) i → k' < ct (m_wd g0) i → r k = r k' → k = k')
    (hy : y = H.size) (hsz : sz ≤ y) (hq : q < H.size) (hqs : q_same H H1) (hf : aI cI 5 f y H1) (ef : ∀ j, j < 5 → f j = w_row g0 g1 g2 N (i + 1) (ct (m_wd g0) i) j)
    (ha : aR cA (m_n g0 N) (va_up (fun k => if k < ct (m_wd g0) i then some (r k) else none) (ct (m_wd g0) i) (some y)) q H2) (o : ∀ x : Nat, x ≠ q → H2[x]? = H1[x]?) : wP cI cA g0 g1 g2 N (i + 1) q sz H2 := by
  have hlt : ∀ k, k < ct (m_wd g0) i → r k < H.size := fun k hk => by
    obtain ⟨-, -, f9, h9, -⟩ := hrows k hk
    exact z_lt h9
  refine ⟨fun k => if k < ct (m_wd g0) i then r k else y, ha.cg fun k _ => ?_, fun k hk => ?_, fun k k' hk hk' e => ?_⟩
  · rw [ct_t hw]
    by_cases h : k = ct (m_wd g0) i
    · subst h
      simp [va_up]
    · by_cases h2 : k < ct (m_wd g0) i
      · simp [va_up, h, h2, Nat.lt_succ_of_lt h2]
      · simp [va_up, h, h2]
        omega
  · rw [ct_t hw] at hk
    by_cases h : k < ct (m_wd g0) i
    · obtain ⟨h1, h2, f9, h9, e9⟩ := hrows k h
      simp only [h, if_true]
      exact ⟨h1, h2, f9, (o _ h2).trans (z_kp h9 hqs), fun j hj => (e9 j hj).trans (w_row_c (w_c_w hi hw h)).symm⟩
    · have e9 : k = ct (m_wd g0) i := by omega
      subst e9
      simp only [Nat.lt_irrefl, if_false]
      have hne : y ≠ q := by omega
      exact ⟨hsz, hne, f, (o _ hne).trans hf, ef⟩
  · rw [ct_t hw] at hk hk'
    by_cases h : k < ct (m_wd g0) i <;> by_cases h' : k' < ct (m_wd g0) i
    · simp only [h, h', if_true] at e
      exact hinj k k' h h' e
    · simp only [h, h', if_true, if_false] at e
      have := hlt k h
      omega
    · simp only [h, h', if_true, if_false] at e
      have := hlt k' h'
      omega
    · omega
theorem wP_c0 {cI cA : ClassId} {g0 g1 g2 : Nat → Int32} {N i q sz : Nat} {H : Heap} (hw : ¬ m_wd g0 i = true) (h0 : ct (m_wd g0) i = 0) (h : wP cI cA g0 g1 g2 N i q sz H) : wP cI cA g0 g1 g2 N (i + 1) q sz H := by
  obtain ⟨r, h1, h2, h3⟩ := h
  refine ⟨r, h1.cg fun k _ => by rw [ct_f hw], fun k hk => ?_, fun k k' hk => ?_⟩
  · rw [ct_f hw] at hk; omega
  · rw [ct_f hw] at hk; omega
theorem wP_c1 {cI cA : ClassId} {g0 g1 g2 : Nat → Int32} {N i q sz K : Nat} {r : Nat → Nat} {H H1 : Heap} {f : Nat → Int32} (hi : i ≤ N) (hw : ¬ m_wd g0 i = true) (hK : K + 1 = ct (m_wd g0) i)
    (hr : aR cA (m_n g0 N) (fun k => if k < ct (m_wd g0) i then some (r k) else none) q H)
    (hrows : ∀ k, k < ct (m_wd g0) i → sz ≤ r k ∧ r k ≠ q ∧ ∃ f, aI cI 5 f (r k) H ∧ ∀ j, j < 5 → f j = w_row g0 g1 g2 N i k j) (hinj : ∀ k k', k < ct (m_wd g0) i → k' < ct (m_wd g0) i → r k = r k' → k = k')
    (ef : ∀ j, j < 5 → f j = w_row g0 g1 g2 N i K j) (hf : aI cI 5 (upd f 2 (f 2 + 1)) (r K) H1) (o : ∀ x : Nat, x ≠ r K → H1[x]? = H[x]?) : wP cI cA g0 g1 g2 N (i + 1) q sz H1 := by
  have hKl : K < ct (m_wd g0) i := by omega
  refine ⟨r, ?_, fun k hk => ?_, fun k k' hk hk' e => ?_⟩
  · refine aR.cg (f := fun k => if k < ct (m_wd g0) i then some (r k) else none) ((o q (fun e => (hrows K hKl).2.1 e.symm)).trans hr) fun k _ => by rw [ct_f hw]
  · rw [ct_f hw] at hk
    obtain ⟨h1, h2, f9, h9, e9⟩ := hrows k hk
    refine ⟨h1, h2, ?_⟩
    by_cases h : k = K
    · subst h
      refine ⟨_, hf, fun j hj => ?_⟩
      by_cases hj2 : j = 2
      · subst hj2
        rw [upd_e, ef 2 (by decide)]
        show nI (w_c g0 N i k) + 1 = nI (w_c g0 N (i + 1) k)
        rw [w_c_l hi hw hK, nI_1]
      · rw [upd_n hj2, ef j hj]
        rcases (show j = 0 ∨ j = 1 ∨ j = 3 ∨ j = 4 by omega) with rfl | rfl | rfl | rfl <;> rfl
    · exact ⟨f9, (o _ (fun e => h (hinj k K hk hKl e))).trans h9, fun j hj => (e9 j hj).trans (w_row_c (w_c_o hw (by omega))).symm⟩
  · rw [ct_f hw] at hk hk'
    exact hinj k k' hk hk' e
theorem wP_end {cI cA : ClassId} {g0 g1 g2 : Nat → Int32} {N q sz : Nat} {H : Heap} (h : wP cI cA g0 g1 g2 N N q sz H) : ∃ r, gW cI cA g0 g1 g2 N r q H := by
  obtain ⟨r, h1, h2, -⟩ := h
  exact ⟨r, h1.cg fun k hk => if_pos hk, fun k hk => (h2 k hk).2.2⟩
/-- where the rows lie behind an insertion, behind a removal -/
def r_ins (r : Nat → Nat) (P y i : Nat) : Nat := if i < P then r i else if i = P then y else r (i - 1)
def r_rem (r : Nat → Nat) (P i : Nat) : Nat := if i < P then r i else r (i + 1)
theorem aR_put {cA : ClassId} {n i q y : Nat} {ri : Nat → Nat} {H : Heap} (h : aR cA n (va_up (fun k => if k < i then some (ri k) else none) i (some y)) q H) (e : y = ri i) : aR cA n (fun k => if k < i + 1 then some (ri k) else none) q H := by
  subst e
  refine h.cg fun k _ => ?_
  by_cases h : k = i
  · subst h
    simp [va_up]
  · by_cases h2 : k < i
    · simp [va_up, h, h2, Nat.lt_succ_of_lt h2]
    · simp [va_up, h, h2]
      omega
theorem nI_cm1 {a : Nat} (ha : a < 1000) : (nI a - 1 < 0 ↔ a = 0) ∧ (0 < a → nI a - 1 = nI (a - 1)) := by
  refine ⟨?_, fun h => nI_m1 h⟩
  rw [Int32.lt_iff_toInt_lt, nI_m1T (by omega), show (0 : Int32).toInt = 0 from by decide]
  omega
theorem wP_0 {cI cA : ClassId} {g0 g1 g2 : Nat → Int32} {N q sz : Nat} {H : Heap} (h : aR cA (m_n g0 N) (fun _ => none) q H) : wP cI cA g0 g1 g2 N 0 q sz H :=
  ⟨fun _ => 0, h.cg fun k _ => (if_neg (Nat.not_lt_zero k)).symm, fun k hk => absurd hk (Nat.not_lt_zero k), fun k _ hk => absurd hk (Nat.not_lt_zero k)⟩
theorem w_new {g0 g1 g2 : Nat → Int32} {N i : Nat} (hi : i < N) (hw : m_wd g0 i = true) : ∀ j, j < 5 → (upd (upd (upd (upd (upd (fun _ => 0) 0 (g1 i)) 1 (g0 i)) 2 0) 3 (g2 i)) 4 (nI i)) j = w_row g0 g1 g2 N (i + 1) (ct (m_wd g0) i) j := by
  intro j hj
  have e := m_P_i hi hw
  rcases (show j = 0 ∨ j = 1 ∨ j = 2 ∨ j = 3 ∨ j = 4 by omega) with rfl | rfl | rfl | rfl | rfl
  · show g1 i = g1 (m_P g0 N _); rw [e]
  · show g0 i = g0 (m_P g0 N _); rw [e]
  · show (0 : Int32) = nI (w_c g0 N (i + 1) _); rw [w_c_n hi hw]; rfl
  · show g2 i = g2 (m_P g0 N _); rw [e]
  · show nI i = nI (m_P g0 N _); rw [e]
section ZL
variable {p : Program} {l : Launch} {e : Env} {R : Room} {s : State} {m : MethodId} {args : Array Value} {below : List Frame} {meth : Method} {c : Code} {H : Heap} {locs : List Loc} {cells slots : Nat} {Q : State → Prop}
variable {cc : ByteArray} {pc : Nat} {ls : Array Slot} {rest : List Value} {D : va_G} {tys : List (ClassId × FieldType)} {cI cA : ClassId} {n : Nat} {f : Nat → Int32} {g : Nat → Option Nat} {a : Nat}
theorem z_rln (hexec : p.tables.exec = Jvm.exec) (hb : c.code = cc) (hK : va_K D vwCl tys s) (t0 : Nat) (ht : tys[t0]? = some (cA, .array .int)) (ha : aR cA n g a H) (hdg : decode cc pc = .ok (.arraylength, 1))
    (kk : W p l e R s m args below meth c H locs cells slots Q (F0 m (pc + 1) ls (.int (nI n) :: rest))) : W p l e R s m args below meth c H locs cells slots Q (F0 m pc ls (.ref a :: rest)) :=
  z_alen hexec hb hK t0 ht ha hdg kk
theorem z_iln (hexec : p.tables.exec = Jvm.exec) (hb : c.code = cc) (hK : va_K D vwCl tys s) (t0 : Nat) (ht : tys[t0]? = some (cI, .int)) (ha : aI cI n f a H) (hdg : decode cc pc = .ok (.arraylength, 1))
    (kk : W p l e R s m args below meth c H locs cells slots Q (F0 m (pc + 1) ls (.int (nI n) :: rest))) : W p l e R s m args below meth c H locs cells slots Q (F0 m pc ls (.ref a :: rest)) :=
  z_alen hexec hb hK t0 ht ha hdg kk
end ZL

theorem kv_L_below : yL_below.cls = RL ∧ yL_below.cls ≠ "java/lang/invoke/MethodHandle" ∧ yL_below.cls ≠ "java/lang/invoke/VarHandle" ∧ (parseMethodDescriptor yL_below.desc).map (fun d => d.parameters.length) = some 2 := by decide +kernel
theorem ks_L_below : yL_below.cls ≠ "java/lang/invoke/MethodHandle" ∧ yL_below.cls ≠ "java/lang/invoke/VarHandle" ∧ (parseMethodDescriptor yL_below.desc).map (fun d => d.parameters.length) = some 2 := kv_L_below.2
set_option maxHeartbeats 4000000 in
set_option maxRecDepth 100000 in
theorem c_L_below (l : Launch) (D : va_G) (x : Int32) (k : Nat) (h0 : 0 < k) (hk : k < 2 ^ 31) : p_I l yL_below wsL_below ({ frames := 0, cells := 0, slots := 0, locals := 0 } : Room) D ([]) (pH zTr) [.int x, .int (nI k)] (nI (z_lo x % k)) := by
  refine p_startI (cc := cL_below) (maxL := 2) (rt := .int) (by decide) rfl (Nat.le_of_ble_eq_true rfl) ?_
  intro p e s m below meth c hx hb hml hr hts hown hlocks hK hPr locs ls hS hl
  have hl : lv_has ls 2 [(0, .int x), (1, .int (nI k))] := hl
  refine lv_iload_n hx hb dL_below_0 rfl (lv_at hl 0 rfl) ?_
  refine lv_ldc hx hb hown (hts (.constant RL 7 (2147483647)) (by decide +kernel)) dL_below_1 ?_
  refine lv_iand hx hb dL_below_3 ?_
  refine lv_iload_n hx hb dL_below_4 rfl (lv_at hl 1 rfl) ?_
  refine lv_irem hx hb dL_below_5 (nI_ne0 h0 hk) ?_
  exact q_retI hx hb hr hlocks hS (by rw [(z_loE x).1]; exact pk_rem (z_loE x).2 h0 hk) dL_below_6

theorem kv_L_cell : yL_cell.cls = RL ∧ yL_cell.cls ≠ "java/lang/invoke/MethodHandle" ∧ yL_cell.cls ≠ "java/lang/invoke/VarHandle" ∧ (parseMethodDescriptor yL_cell.desc).map (fun d => d.parameters.length) = some 2 := by decide +kernel
theorem ks_L_cell : yL_cell.cls ≠ "java/lang/invoke/MethodHandle" ∧ yL_cell.cls ≠ "java/lang/invoke/VarHandle" ∧ (parseMethodDescriptor yL_cell.desc).map (fun d => d.parameters.length) = some 2 := kv_L_cell.2
set_option maxHeartbeats 4000000 in
set_option maxRecDepth 100000 in
theorem c_L_cell (l : Launch) (D : va_G) (b L : Nat) (xs : Nat → Int32) (k : Nat) (hL : L < 2 ^ 30) (hk : k < 2 ^ 30) : p_I l yL_cell wsL_cell ({ frames := 0, cells := 0, slots := 0, locals := 0 } : Room) D ([]) (pX b L xs) [.ref b, .int (nI k)] (z_cl L xs k) := by
  refine p_startI (cc := cL_cell) (maxL := 2) (rt := .int) (by decide) rfl (Nat.le_of_ble_eq_true rfl) ?_
  intro p e s m below meth c hx hb hml hr hts hown hlocks hK hPr locs ls hS hl
  have hl : lv_has ls 2 [(0, .ref b), (1, .int (nI k))] := hl
  have hPr : va_X b L xs s s.heap := hPr
  have hbl : b < s.heap.size := by obtain ⟨_, h, _⟩ := hPr; exact z_lt h
  refine lv_iload_n hx hb dL_cell_0 rfl (lv_at hl 1 rfl) ?_
  refine lv_aload_n hx hb dL_cell_1 rfl (lv_at hl 0 rfl) ?_
  refine va_slen hx hb hPr hbl (fun h => h) hS dL_cell_2 ?_
  refine lv_icmp_ge (tgt := 12) hx hb dL_cell_3 (by decide) (fun c_3 => ?_) (fun c_3 => ?_)
  · have h9 : L ≤ k := by
      have h8 : nI L ≤ nI k := c_3
      rwa [nI_leI (by omega) (by omega)] at h8
    refine lv_ldc hx hb hown (hts (.constant RL 8 (790386105)) (by decide +kernel)) dL_cell_12 ?_
    refine lv_iload_n hx hb dL_cell_14 rfl (lv_at hl 1 rfl) ?_
    refine lv_iconst (v := 3) hx hb dL_cell_15 (by decide) ?_
    refine lv_iadd hx hb dL_cell_16 ?_
    refine lv_imul hx hb dL_cell_17 ?_
    exact q_retI hx hb hr hlocks hS (by unfold z_cl; rw [if_neg (by omega)]) dL_cell_18
  · have h9 : k < L := by
      have h8 : ¬ nI L ≤ nI k := c_3
      rw [nI_leI (by omega) (by omega)] at h8
      omega
    refine lv_aload_n hx hb dL_cell_6 rfl (lv_at hl 0 rfl) ?_
    refine lv_iload_n hx hb dL_cell_7 rfl (lv_at hl 1 rfl) ?_
    refine va_sld hx hb hPr hbl (fun h => h) hS (vp_in_nI h9 (by omega)) dL_cell_8 ?_
    rw [nI_clamp (by omega)]
    refine lv_goto (tgt := 18) hx hb dL_cell_9 (by decide) ?_
    exact q_retI hx hb hr hlocks hS (by unfold z_cl; rw [if_pos h9]) dL_cell_18

theorem kv_X1_words : yX1_words.cls = RX1 ∧ yX1_words.cls ≠ "java/lang/invoke/MethodHandle" ∧ yX1_words.cls ≠ "java/lang/invoke/VarHandle" ∧ (parseMethodDescriptor yX1_words.desc).map (fun d => d.parameters.length) = some 0 := by decide +kernel
theorem ks_X1_words : yX1_words.cls ≠ "java/lang/invoke/MethodHandle" ∧ yX1_words.cls ≠ "java/lang/invoke/VarHandle" ∧ (parseMethodDescriptor yX1_words.desc).map (fun d => d.parameters.length) = some 0 := kv_X1_words.2
set_option maxHeartbeats 4000000 in
set_option maxRecDepth 100000 in
theorem c_X1_words (l : Launch) (D : va_G) (cI cA : ClassId) (S O N : Nat) (r : Nat → Nat) (g0 g1 g2 : Nat → Int32) (pa pe : Int32) (hN : N ≤ 24) : e_R l yX1_words wsX1_words ({ frames := 0, cells := 25, slots := 144, locals := 0 } : Room) D (zt cI cA) (pH (sG D cI cA S O N r g0 g1 g2 pa pe)) [.ref S] q_no 25 144 (fun _ (u : Nat → Nat) a h => gW cI cA g0 g1 g2 N u a h) := by
  refine e_startR (cc := cX1_words) (maxL := 6) (rt := (.array (.array .int))) (by decide) rfl (Nat.le_of_ble_eq_true rfl) ?_
  intro p e s m below meth c hx hb hml hr hts hown hlocks hK hO hPr locs ls hS hl
  have hin : ∀ w ∈ wsX10, w ∈ wsX1_words := by decide +kernel
  have hl : lv_has ls 6 [(0, .ref S)] := hl
  have HP0 : sG D cI cA S O N r g0 g1 g2 pa pe s.heap := hPr
  have HP := HP0
  have HQ : q_same s.heap s.heap := q_same.rf
  have hm9 := m_n_le g0 N
  refine lv_iconst (v := 0) hx hb dX1_words_0 (by decide) ?_
  refine lv_istore_n (lv' := [(1, .int 0), (0, .ref S)]) hx hb dX1_words_1 rfl hl (by decide) rfl (fun ls hl => ?_)
  refine lv_aload_n hx hb dX1_words_2 rfl (lv_at hl 1 rfl) ?_
  refine z_get hx hb hts hin hown hK HP.cell 2 (by decide) (hts (.fieldLink RX1 15 "SplicedTalkLaw$Sim" "rows" "[[I") (by decide +kernel)) (v := .ref O) rfl dX1_words_3 ?_
  refine lv_astore_n (lv' := [(2, .ref O), (1, .int 0), (0, .ref S)]) hx hb dX1_words_6 rfl hl (by decide) rfl (fun ls hl => ?_)
  refine lv_aload_n hx hb dX1_words_7 rfl (lv_at hl 0 rfl) ?_
  refine z_gln hx hb hK 1 rfl HP.2 dX1_words_8 ?_
  refine lv_istore_n (lv' := [(3, .int (nI N)), (2, .ref O), (1, .int 0), (0, .ref S)]) hx hb dX1_words_9 rfl hl (by decide) rfl (fun ls hl => ?_)
  refine lv_iconst (v := 0) hx hb dX1_words_10 (by decide) ?_
  refine lv_istore (lv' := [(4, .int 0), (3, .int (nI N)), (2, .ref O), (1, .int 0), (0, .ref S)]) hx hb dX1_words_11 hl (by decide) rfl (fun ls hl => ?_)
  have lo_13 : ∀ (fu i : Nat), N - i < fu → i ≤ N → ∀ (H : Heap) (locs : List Loc) (ls : Array Slot), sG D cI cA S O N r g0 g1 g2 pa pe H → q_same s.heap H → va_S (e_F q_no s.heap.size) s.heap H locs → lv_has ls 6 [(4, .int (nI i)), (1, .int (nI (ct (m_wd g0) i))), (3, .int (nI N)), (2, .ref O), (0, .ref S)] → W p l e ({ frames := 0, cells := 25, slots := 144, locals := 0 } : Room) s m [.ref S].toArray below meth c H locs 0 0 (e_ER below [.ref S].toArray s q_no 25 144 (fun _ (u : Nat → Nat) a h => gW cI cA g0 g1 g2 N u a h)) (F0 m 13 ls []) := by
    intro fu
    induction fu with
    | zero => intro i hi; exact absurd hi (Nat.not_lt_zero _)
    | succ fu ih =>
      intro i hi hiN H locs ls HP HQ hS hl
      refine lv_iload hx hb dX1_words_13 (lv_at hl 0 rfl) ?_
      refine lv_iload_n hx hb dX1_words_15 rfl (lv_at hl 2 rfl) ?_
      refine lv_icmp_ge (tgt := 46) hx hb dX1_words_16 (by decide) (fun c_16 => ?_) (fun c_16 => ?_)
      · have hi9 : i = N := nI_ge' hiN (by omega) c_16
        refine lv_iload_n hx hb dX1_words_46 rfl (lv_at hl 1 rfl) ?_
        refine z_newr hx hb hown (hts (.classLink RX1 13 "[I") (by decide +kernel)) hO hK 1 rfl hS (n := m_n g0 N) (by rw [hi9]; rfl) (by omega) (by show 0 + 1 ≤ 25; omega) (by show 0 + (m_n g0 N) ≤ 144; omega) dX1_words_47 (fun q H hqE hqa hsm hS => ?_)
        have hqs : s.heap.size ≤ q := by rw [hqE]; exact HQ.1
        have HQ := HQ.tr hsm
        have HP := HP0.kept HQ
        have HW : wP cI cA g0 g1 g2 N 0 q s.heap.size H := wP_0 hqa
        refine lv_astore_n (lv' := [(2, .ref q), (4, .int (nI i)), (1, .int (nI (ct (m_wd g0) i))), (3, .int (nI N)), (0, .ref S)]) hx hb dX1_words_50 rfl hl (by decide) rfl (fun ls hl => ?_)
        refine lv_iconst (v := -1) hx hb dX1_words_51 (by decide) ?_
        refine lv_istore_n (lv' := [(3, .int (-1)), (2, .ref q), (4, .int (nI i)), (1, .int (nI (ct (m_wd g0) i))), (0, .ref S)]) hx hb dX1_words_52 rfl hl (by decide) rfl (fun ls hl => ?_)
        refine lv_iconst (v := 0) hx hb dX1_words_53 (by decide) ?_
        refine lv_istore (lv' := [(4, .int 0), (3, .int (-1)), (2, .ref q), (1, .int (nI (ct (m_wd g0) i))), (0, .ref S)]) hx hb dX1_words_54 hl (by decide) rfl (fun ls hl => ?_)
        have lo_56 : ∀ (fu i : Nat), N - i < fu → i ≤ N → ∀ (H : Heap) (locs : List Loc) (ls : Array Slot), sG D cI cA S O N r g0 g1 g2 pa pe H → q_same s.heap H → wP cI cA g0 g1 g2 N i q s.heap.size H → va_S (e_F q_no s.heap.size) s.heap H locs → lv_has ls 6 [(4, .int (nI i)), (3, .int (nI (ct (m_wd g0) i) - 1)), (2, .ref q), (0, .ref S)] → W p l e ({ frames := 0, cells := 25, slots := 144, locals := 0 } : Room) s m [.ref S].toArray below meth c H locs (1 + i) (24 + 5 * i) (e_ER below [.ref S].toArray s q_no 25 144 (fun _ (u : Nat → Nat) a h => gW cI cA g0 g1 g2 N u a h)) (F0 m 56 ls []) := by
          intro fu
          induction fu with
          | zero => intro i hi; exact absurd hi (Nat.not_lt_zero _)
          | succ fu ih =>
            intro i hi hiN H locs ls HP HQ HW hS hl
            refine lv_iload hx hb dX1_words_56 (lv_at hl 0 rfl) ?_
            refine lv_aload_n hx hb dX1_words_58 rfl (lv_at hl 3 rfl) ?_
            refine z_get hx hb hts hin hown hK HP.cell 2 (by decide) (hts (.fieldLink RX1 15 "SplicedTalkLaw$Sim" "rows" "[[I") (by decide +kernel)) (v := .ref O) rfl dX1_words_59 ?_
            refine z_gln hx hb hK 1 rfl HP.2 dX1_words_62 ?_
            refine lv_icmp_ge (tgt := 154) hx hb dX1_words_63 (by decide) (fun c_63 => ?_) (fun c_63 => ?_)
            · have hi9 : i = N := nI_ge' hiN (by omega) c_63
              refine lv_aload_n hx hb dX1_words_154 rfl (lv_at hl 2 rfl) ?_
              rw [hi9] at HW
              obtain ⟨u, hu⟩ := wP_end HW
              exact e_retR u hx hb hr (Or.inr ⟨_, rfl⟩) hlocks hS hu (by omega) (by omega) dX1_words_155
            · have hi9 : i < N := nI_lt' hiN (by omega) c_63
              have hct9 := ct_le (m_wd g0) i
              refine lv_aload_n hx hb dX1_words_66 rfl (lv_at hl 3 rfl) ?_
              refine z_get hx hb hts hin hown hK HP.cell 2 (by decide) (hts (.fieldLink RX1 15 "SplicedTalkLaw$Sim" "rows" "[[I") (by decide +kernel)) (v := .ref O) rfl dX1_words_67 ?_
              refine lv_iload hx hb dX1_words_70 (lv_at hl 0 rfl) ?_
              refine z_gal hx hb hK 1 rfl HP.2 i hi9 (by omega) rfl dX1_words_72 ?_
              refine lv_iconst (v := 1) hx hb dX1_words_73 (by decide) ?_
              refine z_gil hx hb hK 0 rfl HP.2 i hi9 1 (by decide) (by decide) (v := g0 i) rfl rfl dX1_words_74 ?_
              refine lv_if_lt (tgt := 135) hx hb dX1_words_75 (by decide) (fun c_75 => ?_) (fun c_75 => ?_)
              · have hw : ¬ m_wd g0 i = true := by unfold m_wd; rw [decide_eq_false (Int32.not_le.mpr c_75)]; exact Bool.false_ne_true
                refine lv_iload_n hx hb dX1_words_135 rfl (lv_at hl 1 rfl) ?_
                refine lv_if_lt (tgt := 148) hx hb dX1_words_136 (by decide) (fun c_136 => ?_) (fun c_136 => ?_)
                · have h0 := (nI_cm1 (by omega)).1.mp c_136
                  have HW := wP_c0 hw h0 HW
                  refine lv_iinc (v := (nI i + 1)) (lv' := [(4, .int (nI i + 1)), (3, .int (nI (ct (m_wd g0) i) - 1)), (2, .ref q), (0, .ref S)]) hx hb dX1_words_148 hl (k := 0) rfl (by rfl) (by decide) rfl (fun ls hl => ?_)
                  refine lv_goto (tgt := 56) hx hb dX1_words_151 (by decide) ?_
                  refine W.widen (k := 1 + (i + 1)) (n := 24 + 5 * (i + 1)) (by omega) (by omega) ?_
                  have e_4 : ((nI i + 1) : Int32) = nI (i + 1) := nI_1 i
                  have e_3 : ((nI (ct (m_wd g0) i) - 1) : Int32) = (nI (ct (m_wd g0) (i + 1)) - 1) := by rw [ct_f hw]
                  exact ih (i + 1) (by omega) (by omega) _ locs ls HP HQ HW hS (lv_eq (lv_sub (l' := [(4, .int (nI i + 1)), (3, .int (nI (ct (m_wd g0) i) - 1)), (2, .ref q), (0, .ref S)]) hl [0, 1, 2, 3] rfl) (by rw [e_3, e_4]))
                · have hK9 : ct (m_wd g0) i ≠ 0 := fun e => c_136 ((nI_cm1 (by omega)).1.mpr e)
                  obtain ⟨K, hKe⟩ : ∃ K, K + 1 = ct (m_wd g0) i := ⟨ct (m_wd g0) i - 1, by omega⟩
                  have eI : nI (ct (m_wd g0) i) - 1 = nI K := by rw [← hKe, nI_pred]
                  obtain ⟨r9, hr9, hrows, hinj⟩ := HW
                  obtain ⟨-, -, f9, hf9, ef9⟩ := hrows K (by omega)
                  have hKm : K < m_n g0 N := by
                    have := ct_mono (m_wd g0) (Nat.le_of_lt hi9)
                    unfold m_n
                    omega
                  refine lv_aload_n hx hb dX1_words_139 rfl (lv_at hl 2 rfl) ?_
                  refine lv_iload_n hx hb dX1_words_140 rfl (lv_at hl 1 rfl) ?_
                  refine z_aald hx hb hK 1 rfl hr9 K eI hKm (by omega) (if_pos (by omega)) dX1_words_141 ?_
                  refine lv_iconst (v := 2) hx hb dX1_words_142 (by decide) ?_
                  refine lv_dup2_11 hx hb dX1_words_143 rfl rfl ?_
                  refine z_iald hx hb hK 0 rfl hf9 2 rfl (by decide) (by decide) dX1_words_144 ?_
                  refine lv_iconst (v := 1) hx hb dX1_words_145 (by decide) ?_
                  refine lv_iadd hx hb dX1_words_146 ?_
                  refine z_iast hx hb hK 0 rfl hf9 hS (Or.inr (hrows K (by omega)).1) 2 rfl (by decide) (by decide) dX1_words_147 (fun H locs hf8 z9 o9 hS => ?_)
                  have HQ := HQ.st (hrows K (by omega)).1 z9 o9
                  have HP := HP0.kept HQ
                  have HW := wP_c1 (Nat.le_of_lt hi9) hw hKe hr9 hrows hinj ef9 hf8 o9
                  refine lv_iinc (v := (nI i + 1)) (lv' := [(4, .int (nI i + 1)), (3, .int (nI (ct (m_wd g0) i) - 1)), (2, .ref q), (0, .ref S)]) hx hb dX1_words_148 hl (k := 0) rfl (by rfl) (by decide) rfl (fun ls hl => ?_)
                  refine lv_goto (tgt := 56) hx hb dX1_words_151 (by decide) ?_
                  refine W.widen (k := 1 + (i + 1)) (n := 24 + 5 * (i + 1)) (by omega) (by omega) ?_
                  have e_4 : ((nI i + 1) : Int32) = nI (i + 1) := nI_1 i
                  have e_3 : ((nI (ct (m_wd g0) i) - 1) : Int32) = (nI (ct (m_wd g0) (i + 1)) - 1) := by rw [ct_f hw]
                  exact ih (i + 1) (by omega) (by omega) _ locs ls HP HQ HW hS (lv_eq (lv_sub (l' := [(4, .int (nI i + 1)), (3, .int (nI (ct (m_wd g0) i) - 1)), (2, .ref q), (0, .ref S)]) hl [0, 1, 2, 3] rfl) (by rw [e_3, e_4]))
              · have hw : m_wd g0 i = true := decide_eq_true (Int32.not_lt.mp c_75)
                have hcn := ct_lt_n hi9 hw
                obtain ⟨r9, hr9, hrows, hinj⟩ := HW
                refine lv_iinc (v := ((nI (ct (m_wd g0) i) - 1) + 1)) (lv' := [(3, .int ((nI (ct (m_wd g0) i) - 1) + 1)), (4, .int (nI i)), (2, .ref q), (0, .ref S)]) hx hb dX1_words_78 hl (k := 1) rfl (by rfl) (by decide) rfl (fun ls hl => ?_)
                refine lv_aload_n hx hb dX1_words_81 rfl (lv_at hl 2 rfl) ?_
                refine lv_iload_n hx hb dX1_words_82 rfl (lv_at hl 0 rfl) ?_
                refine lv_iconst (v := 5) hx hb dX1_words_83 (by decide) ?_
                refine z_newi hx hb (hts (.arrayClass .int) (by decide +kernel)) hK 0 rfl hS (n := 5) rfl (by first | decide | omega) (by show 1 + i + 1 ≤ 25; omega) (by show 24 + 5 * i + 5 ≤ 144; omega) dX1_words_84 (fun y H hyE hy hqr hS => ?_)
                have hys : s.heap.size ≤ y := by rw [hyE]; exact HQ.1
                have hyA : e_F q_no s.heap.size y := Or.inr hys
                have HQ := HQ.tr hqr
                have HP := HP0.kept HQ
                refine lv_dup hx hb dX1_words_86 rfl ?_
                refine lv_iconst (v := 0) hx hb dX1_words_87 (by decide) ?_
                refine lv_aload_n hx hb dX1_words_88 rfl (lv_at hl 3 rfl) ?_
                refine z_get hx hb hts hin hown hK HP.cell 2 (by decide) (hts (.fieldLink RX1 15 "SplicedTalkLaw$Sim" "rows" "[[I") (by decide +kernel)) (v := .ref O) rfl dX1_words_89 ?_
                refine lv_iload hx hb dX1_words_92 (lv_at hl 1 rfl) ?_
                refine z_gal hx hb hK 1 rfl HP.2 i hi9 (by omega) rfl dX1_words_94 ?_
                refine lv_iconst (v := 0) hx hb dX1_words_95 (by decide) ?_
                refine z_gil hx hb hK 0 rfl HP.2 i hi9 0 (by decide) (by decide) (v := g1 i) rfl rfl dX1_words_96 ?_
                refine z_iast hx hb hK 0 rfl hy hS hyA 0 rfl (by decide) (by decide) dX1_words_97 (fun H locs hy z9 o9 hS => ?_)
                have hqr := hqr.st (Nat.le_of_eq hyE.symm) z9 o9
                have HQ := HQ.st hys z9 o9
                have HP := HP0.kept HQ
                refine lv_dup hx hb dX1_words_98 rfl ?_
                refine lv_iconst (v := 1) hx hb dX1_words_99 (by decide) ?_
                refine lv_aload_n hx hb dX1_words_100 rfl (lv_at hl 3 rfl) ?_
                refine z_get hx hb hts hin hown hK HP.cell 2 (by decide) (hts (.fieldLink RX1 15 "SplicedTalkLaw$Sim" "rows" "[[I") (by decide +kernel)) (v := .ref O) rfl dX1_words_101 ?_
                refine lv_iload hx hb dX1_words_104 (lv_at hl 1 rfl) ?_
                refine z_gal hx hb hK 1 rfl HP.2 i hi9 (by omega) rfl dX1_words_106 ?_
                refine lv_iconst (v := 1) hx hb dX1_words_107 (by decide) ?_
                refine z_gil hx hb hK 0 rfl HP.2 i hi9 1 (by decide) (by decide) (v := g0 i) rfl rfl dX1_words_108 ?_
                refine z_iast hx hb hK 0 rfl hy hS hyA 1 rfl (by decide) (by decide) dX1_words_109 (fun H locs hy z9 o9 hS => ?_)
                have hqr := hqr.st (Nat.le_of_eq hyE.symm) z9 o9
                have HQ := HQ.st hys z9 o9
                have HP := HP0.kept HQ
                refine lv_dup hx hb dX1_words_110 rfl ?_
                refine lv_iconst (v := 2) hx hb dX1_words_111 (by decide) ?_
                refine lv_iconst (v := 0) hx hb dX1_words_112 (by decide) ?_
                refine z_iast hx hb hK 0 rfl hy hS hyA 2 rfl (by decide) (by decide) dX1_words_113 (fun H locs hy z9 o9 hS => ?_)
                have hqr := hqr.st (Nat.le_of_eq hyE.symm) z9 o9
                have HQ := HQ.st hys z9 o9
                have HP := HP0.kept HQ
                refine lv_dup hx hb dX1_words_114 rfl ?_
                refine lv_iconst (v := 3) hx hb dX1_words_115 (by decide) ?_
                refine lv_aload_n hx hb dX1_words_116 rfl (lv_at hl 3 rfl) ?_
                refine z_get hx hb hts hin hown hK HP.cell 2 (by decide) (hts (.fieldLink RX1 15 "SplicedTalkLaw$Sim" "rows" "[[I") (by decide +kernel)) (v := .ref O) rfl dX1_words_117 ?_
                refine lv_iload hx hb dX1_words_120 (lv_at hl 1 rfl) ?_
                refine z_gal hx hb hK 1 rfl HP.2 i hi9 (by omega) rfl dX1_words_122 ?_
                refine lv_iconst (v := 2) hx hb dX1_words_123 (by decide) ?_
                refine z_gil hx hb hK 0 rfl HP.2 i hi9 2 (by decide) (by decide) (v := g2 i) rfl rfl dX1_words_124 ?_
                refine z_iast hx hb hK 0 rfl hy hS hyA 3 rfl (by decide) (by decide) dX1_words_125 (fun H locs hy z9 o9 hS => ?_)
                have hqr := hqr.st (Nat.le_of_eq hyE.symm) z9 o9
                have HQ := HQ.st hys z9 o9
                have HP := HP0.kept HQ
                refine lv_dup hx hb dX1_words_126 rfl ?_
                refine lv_iconst (v := 4) hx hb dX1_words_127 (by decide) ?_
                refine lv_iload hx hb dX1_words_128 (lv_at hl 1 rfl) ?_
                refine z_iast hx hb hK 0 rfl hy hS hyA 4 rfl (by decide) (by decide) dX1_words_130 (fun H locs hy z9 o9 hS => ?_)
                have hqr := hqr.st (Nat.le_of_eq hyE.symm) z9 o9
                have HQ := HQ.st hys z9 o9
                have HP := HP0.kept HQ
                refine z_aast hx hb hK hO 1 0 rfl rfl (z_kp hr9 hqr) hS (Or.inr hqs) (ct (m_wd g0) i) (Int32.sub_add_cancel _ _) hcn (by omega) hy dX1_words_131 (fun H locs hq9 z9 o9 hS => ?_)
                have HQ := HQ.st hqs z9 o9
                have HP := HP0.kept HQ
                have HW := wP_word hi9 hw hrows hinj hyE hys (z_lt hr9) hqr hy (w_new hi9 hw) hq9 o9
                refine lv_goto (tgt := 148) hx hb dX1_words_132 (by decide) ?_
                refine lv_iinc (v := (nI i + 1)) (lv' := [(4, .int (nI i + 1)), (3, .int ((nI (ct (m_wd g0) i) - 1) + 1)), (2, .ref q), (0, .ref S)]) hx hb dX1_words_148 hl (k := 1) rfl (by rfl) (by decide) rfl (fun ls hl => ?_)
                refine lv_goto (tgt := 56) hx hb dX1_words_151 (by decide) ?_
                refine W.widen (k := 1 + (i + 1)) (n := 24 + 5 * (i + 1)) (by omega) (by omega) ?_
                have e_4 : ((nI i + 1) : Int32) = nI (i + 1) := nI_1 i
                have e_3 : (((nI (ct (m_wd g0) i) - 1) + 1) : Int32) = (nI (ct (m_wd g0) (i + 1)) - 1) := by rw [ct_t hw, nI_pred, Int32.sub_add_cancel]
                exact ih (i + 1) (by omega) (by omega) _ locs ls HP HQ HW hS (lv_eq (lv_sub (l' := [(4, .int (nI i + 1)), (3, .int ((nI (ct (m_wd g0) i) - 1) + 1)), (2, .ref q), (0, .ref S)]) hl [0, 1, 2, 3] rfl) (by rw [e_3, e_4]))
        refine W.widen (k := 1 + 0) (n := 24 + 5 * 0) (by omega) (by omega) ?_
        have e_3 : ((-1) : Int32) = (nI (ct (m_wd g0) 0) - 1) := show (-1 : Int32) = nI 0 - 1 by decide
        exact lo_56 (N + 1) 0 (by omega) (by omega) _ locs ls HP HQ HW hS (lv_eq (lv_sub (l' := [(4, .int (nI 0)), (3, .int (-1)), (2, .ref q), (0, .ref S)]) hl [0, 1, 2, 4] rfl) (by rw [e_3]))
      · have hi9 : i < N := nI_lt' hiN (by omega) c_16
        refine lv_aload_n hx hb dX1_words_19 rfl (lv_at hl 3 rfl) ?_
        refine lv_iload hx hb dX1_words_20 (lv_at hl 0 rfl) ?_
        refine z_gal hx hb hK 1 rfl HP.2 i hi9 (by omega) rfl dX1_words_22 ?_
        refine lv_astore (lv' := [(5, .ref (r i)), (4, .int (nI i)), (1, .int (nI (ct (m_wd g0) i))), (3, .int (nI N)), (2, .ref O), (0, .ref S)]) hx hb dX1_words_23 hl (by decide) rfl (fun ls hl => ?_)
        refine lv_iload_n hx hb dX1_words_25 rfl (lv_at hl 2 rfl) ?_
        refine lv_aload hx hb dX1_words_26 (lv_at hl 0 rfl) ?_
        refine lv_iconst (v := 1) hx hb dX1_words_28 (by decide) ?_
        refine z_gil hx hb hK 0 rfl HP.2 i hi9 1 (by decide) (by decide) (v := g0 i) rfl rfl dX1_words_29 ?_
        suffices K_30 : ∀ v9 : Int32, v9 = bI (m_wd g0 i) → W p l e ({ frames := 0, cells := 25, slots := 144, locals := 0 } : Room) s m [.ref S].toArray below meth c H locs 0 0 (e_ER below [.ref S].toArray s q_no 25 144 (fun _ (u : Nat → Nat) a h => gW cI cA g0 g1 g2 N u a h)) (F0 m 38 ls [.int v9, .int (nI (ct (m_wd g0) i))]) from by
          refine lv_if_lt (tgt := 37) hx hb dX1_words_30 (by decide) (fun c_30 => ?_) (fun c_30 => ?_)
          · refine lv_iconst (v := 0) hx hb dX1_words_37 (by decide) ?_
            exact K_30 _ (by unfold m_wd; exact bI_df (Int32.not_le.mpr c_30))
          · refine lv_iconst (v := 1) hx hb dX1_words_33 (by decide) ?_
            refine lv_goto (tgt := 38) hx hb dX1_words_34 (by decide) ?_
            exact K_30 _ (by unfold m_wd; exact bI_dt (Int32.not_lt.mp c_30))
        intro v9 hv9
        rw [hv9]; clear hv9
        refine lv_iadd hx hb dX1_words_38 ?_
        refine lv_istore_n (lv' := [(1, .int (nI (ct (m_wd g0) i) + bI (m_wd g0 i))), (5, .ref (r i)), (4, .int (nI i)), (3, .int (nI N)), (2, .ref O), (0, .ref S)]) hx hb dX1_words_39 rfl hl (by decide) rfl (fun ls hl => ?_)
        refine lv_iinc (v := (nI i + 1)) (lv' := [(4, .int (nI i + 1)), (1, .int (nI (ct (m_wd g0) i) + bI (m_wd g0 i))), (5, .ref (r i)), (3, .int (nI N)), (2, .ref O), (0, .ref S)]) hx hb dX1_words_40 hl (k := 2) rfl (by rfl) (by decide) rfl (fun ls hl => ?_)
        refine lv_goto (tgt := 13) hx hb dX1_words_43 (by decide) ?_
        have e_4 : ((nI i + 1) : Int32) = nI (i + 1) := nI_1 i
        have e_1 : ((nI (ct (m_wd g0) i) + bI (m_wd g0 i)) : Int32) = nI (ct (m_wd g0) (i + 1)) := bI_ct _ i
        exact ih (i + 1) (by omega) (by omega) _ locs ls HP HQ hS (lv_eq (lv_sub (l' := [(4, .int (nI i + 1)), (1, .int (nI (ct (m_wd g0) i) + bI (m_wd g0 i))), (3, .int (nI N)), (2, .ref O), (0, .ref S)]) hl [0, 1, 3, 4, 5] rfl) (by rw [e_1, e_4]))
  exact lo_13 (N + 1) 0 (by omega) (by omega) _ locs ls HP HQ hS (lv_sub hl [0, 3, 1, 2, 4] rfl)

theorem kv_X1_insert : yX1_insert.cls = RX1 ∧ yX1_insert.cls ≠ "java/lang/invoke/MethodHandle" ∧ yX1_insert.cls ≠ "java/lang/invoke/VarHandle" ∧ (parseMethodDescriptor yX1_insert.desc).map (fun d => d.parameters.length) = some 2 := by decide +kernel
theorem ks_X1_insert : yX1_insert.cls ≠ "java/lang/invoke/MethodHandle" ∧ yX1_insert.cls ≠ "java/lang/invoke/VarHandle" ∧ (parseMethodDescriptor yX1_insert.desc).map (fun d => d.parameters.length) = some 2 := kv_X1_insert.2
set_option maxHeartbeats 4000000 in
set_option maxRecDepth 100000 in
theorem c_X1_insert (l : Launch) (D : va_G) (cI cA : ClassId) (S O N : Nat) (r : Nat → Nat) (g0 g1 g2 : Nat → Int32) (pa pe : Int32) (hN : N < 24) (P y : Nat) (hP : P ≤ N) (fy : Nat → Int32) : e_V l yX1_insert wsX1_insert ({ frames := 0, cells := 1, slots := 24, locals := 0 } : Room) D (zt cI cA) (pH (fun h => sG D cI cA S O N r g0 g1 g2 pa pe h ∧ aI cI 3 fy y h)) [.ref S, .int (nI P), .ref y] (fun x => x = S) 1 24 (fun sz (u : Nat) h => sS D pa pe (.ref u) S h ∧ aR cA (N + 1) (fun i => some (r_ins r P y i)) u h ∧ sz ≤ u) := by
  refine e_startV (cc := cX1_insert) (maxL := 5) (by decide) rfl (Nat.le_of_ble_eq_true rfl) ?_
  intro p e s m below meth c hx hb hml hr hts hown hlocks hK hO hPr locs ls hS hl
  have hin : ∀ w ∈ wsX10, w ∈ wsX1_insert := by decide +kernel
  have hl : lv_has ls 5 [(0, .ref S), (1, .int (nI P)), (2, .ref y)] := hl
  have HP0 : sG D cI cA S O N r g0 g1 g2 pa pe s.heap := hPr.1
  have HY0 : aI cI 3 fy y s.heap := hPr.2
  have HP := HP0
  have HY := HY0
  have HQ : q_same s.heap s.heap := q_same.rf
  refine lv_aload_n hx hb dX1_insert_0 rfl (lv_at hl 0 rfl) ?_
  refine z_get hx hb hts hin hown hK HP.cell 2 (by decide) (hts (.fieldLink RX1 15 "SplicedTalkLaw$Sim" "rows" "[[I") (by decide +kernel)) (v := .ref O) rfl dX1_insert_1 ?_
  refine z_gln hx hb hK 1 rfl HP.2 dX1_insert_4 ?_
  refine lv_iconst (v := 1) hx hb dX1_insert_5 (by decide) ?_
  refine lv_iadd hx hb dX1_insert_6 ?_
  refine z_newr hx hb hown (hts (.classLink RX1 13 "[I") (by decide +kernel)) hO hK 1 rfl hS (n := N + 1) (nI_1 N) (by omega) (by show 0 + 1 ≤ 1; omega) (by show 0 + (N + 1) ≤ 24; omega) dX1_insert_7 (fun q H hqE hqa hsm hS => ?_)
  have hqs : s.heap.size ≤ q := by rw [hqE]; exact HQ.1
  have HQ := HQ.tr hsm
  have HP := HP0.kept HQ
  have HY := z_kp HY0 HQ
  have HM : aR cA (N + 1) (fun k => if k < 0 then some (r_ins r P y k) else none) q H := aR.cg hqa fun k _ => (if_neg (Nat.not_lt_zero k)).symm
  refine lv_astore_n (lv' := [(3, .ref q), (0, .ref S), (1, .int (nI P)), (2, .ref y)]) hx hb dX1_insert_10 rfl hl (by decide) rfl (fun ls hl => ?_)
  refine lv_iconst (v := 0) hx hb dX1_insert_11 (by decide) ?_
  refine lv_istore (lv' := [(4, .int 0), (3, .ref q), (0, .ref S), (1, .int (nI P)), (2, .ref y)]) hx hb dX1_insert_12 hl (by decide) rfl (fun ls hl => ?_)
  have lo_14 : ∀ (fu i : Nat), (N + 1) - i < fu → i ≤ (N + 1) → ∀ (H : Heap) (locs : List Loc) (ls : Array Slot), sG D cI cA S O N r g0 g1 g2 pa pe H → q_same s.heap H → aR cA (N + 1) (fun k => if k < i then some (r_ins r P y k) else none) q H → aI cI 3 fy y H → va_S (e_F (fun x => x = S) s.heap.size) s.heap H locs → lv_has ls 5 [(4, .int (nI i)), (3, .ref q), (0, .ref S), (1, .int (nI P)), (2, .ref y)] → W p l e ({ frames := 0, cells := 1, slots := 24, locals := 0 } : Room) s m [.ref S, .int (nI P), .ref y].toArray below meth c H locs (0 + 1) (0 + (N + 1)) (e_EV below [.ref S, .int (nI P), .ref y].toArray s (fun x => x = S) 1 24 (fun sz (u : Nat) h => sS D pa pe (.ref u) S h ∧ aR cA (N + 1) (fun i => some (r_ins r P y i)) u h ∧ sz ≤ u)) (F0 m 14 ls []) := by
    intro fu
    induction fu with
    | zero => intro i hi; exact absurd hi (Nat.not_lt_zero _)
    | succ fu ih =>
      intro i hi hiN H locs ls HP HQ HM HY hS hl
      refine lv_iload hx hb dX1_insert_14 (lv_at hl 0 rfl) ?_
      refine lv_aload_n hx hb dX1_insert_16 rfl (lv_at hl 1 rfl) ?_
      refine z_rln hx hb hK 1 rfl HM dX1_insert_17 ?_
      refine lv_icmp_ge (tgt := 66) hx hb dX1_insert_18 (by decide) (fun c_18 => ?_) (fun c_18 => ?_)
      · have hi9 : i = N + 1 := nI_ge' hiN (by omega) c_18
        refine lv_aload_n hx hb dX1_insert_66 rfl (lv_at hl 2 rfl) ?_
        refine lv_aload_n hx hb dX1_insert_67 rfl (lv_at hl 1 rfl) ?_
        refine z_put hx hb hts hin hown hK HP.cell hS (Or.inl rfl) 2 (by decide) (hts (.fieldLink RX1 15 "SplicedTalkLaw$Sim" "rows" "[[I") (by decide +kernel)) (ty := .array (.array .int)) (v := .ref q) rfl rfl rfl (Nat.le_of_ble_eq_true rfl) dX1_insert_68 (fun H locs hs9 z9 o9 hS => ?_)
        have hne : q ≠ S := by have := HP0.1.lt; omega
        have HM : aR cA (N + 1) (fun i => some (r_ins r P y i)) q H := aR.cg ((o9 _ hne).trans HM) fun k hk => if_pos (by rw [hi9]; exact hk)
        exact e_retV q hx hb hr hlocks hS ⟨hs9, HM, hqs⟩ (by omega) (by omega) dX1_insert_71
      · have hi9 : i < N + 1 := nI_lt' hiN (by omega) c_18
        refine lv_aload_n hx hb dX1_insert_21 rfl (lv_at hl 1 rfl) ?_
        refine lv_iload hx hb dX1_insert_22 (lv_at hl 0 rfl) ?_
        refine lv_iload hx hb dX1_insert_24 (lv_at hl 0 rfl) ?_
        refine lv_iload_n hx hb dX1_insert_26 rfl (lv_at hl 3 rfl) ?_
        refine lv_icmp_ge (tgt := 40) hx hb dX1_insert_27 (by decide) (fun c_27 => ?_) (fun c_27 => ?_)
        · have h27 : P ≤ i := by rwa [nI_leI (by omega) (by omega)] at c_27
          refine lv_iload hx hb dX1_insert_40 (lv_at hl 0 rfl) ?_
          refine lv_iload_n hx hb dX1_insert_42 rfl (lv_at hl 3 rfl) ?_
          refine lv_icmp_ne (tgt := 50) hx hb dX1_insert_43 (by decide) (fun c_43 => ?_) (fun c_43 => ?_)
          · have h43 : ¬ i = P := fun e => c_43 (by rw [e])
            refine lv_aload_n hx hb dX1_insert_50 rfl (lv_at hl 2 rfl) ?_
            refine z_get hx hb hts hin hown hK HP.cell 2 (by decide) (hts (.fieldLink RX1 15 "SplicedTalkLaw$Sim" "rows" "[[I") (by decide +kernel)) (v := .ref O) rfl dX1_insert_51 ?_
            refine lv_iload hx hb dX1_insert_54 (lv_at hl 0 rfl) ?_
            refine lv_iconst (v := 1) hx hb dX1_insert_56 (by decide) ?_
            refine lv_isub hx hb dX1_insert_57 ?_
            refine z_gal hx hb hK 1 rfl HP.2 (i - 1) (by omega) (by omega) (nI_m1 (by omega)) dX1_insert_58 ?_
            obtain ⟨f8, hf8, -⟩ := HP.2.2 (i - 1) (by omega)
            refine z_aast hx hb hK hO 1 0 rfl rfl HM hS (Or.inr hqs) i rfl (by omega) (by omega) hf8 dX1_insert_59 (fun H locs hm z9 o9 hS => ?_)
            have HQ := HQ.st hqs z9 o9
            have HP := HP0.kept HQ
            have HY := z_kp HY0 HQ
            have HM := aR_put (ri := r_ins r P y) hm (by unfold r_ins; rw [if_neg (by omega), if_neg h43])
            refine lv_iinc (v := (nI i + 1)) (lv' := [(4, .int (nI i + 1)), (3, .ref q), (0, .ref S), (1, .int (nI P)), (2, .ref y)]) hx hb dX1_insert_60 hl (k := 0) rfl (by rfl) (by decide) rfl (fun ls hl => ?_)
            refine lv_goto (tgt := 14) hx hb dX1_insert_63 (by decide) ?_
            have e_4 : ((nI i + 1) : Int32) = nI (i + 1) := nI_1 i
            exact ih (i + 1) (by omega) (by omega) _ locs ls HP HQ HM HY hS (lv_eq (lv_sub (l' := [(4, .int (nI i + 1)), (3, .ref q), (0, .ref S), (1, .int (nI P)), (2, .ref y)]) hl [0, 1, 2, 3, 4] rfl) (by rw [e_4]))
          · have h43 : i = P := (nI_eq (by omega) (by omega)).mp c_43
            refine lv_aload_n hx hb dX1_insert_46 rfl (lv_at hl 4 rfl) ?_
            refine lv_goto (tgt := 59) hx hb dX1_insert_47 (by decide) ?_
            refine z_aast hx hb hK hO 1 0 rfl rfl HM hS (Or.inr hqs) i rfl (by omega) (by omega) HY dX1_insert_59 (fun H locs hm z9 o9 hS => ?_)
            have HQ := HQ.st hqs z9 o9
            have HP := HP0.kept HQ
            have HY := z_kp HY0 HQ
            have HM := aR_put (ri := r_ins r P y) hm (by unfold r_ins; rw [if_neg (by omega), if_pos h43])
            refine lv_iinc (v := (nI i + 1)) (lv' := [(4, .int (nI i + 1)), (3, .ref q), (0, .ref S), (1, .int (nI P)), (2, .ref y)]) hx hb dX1_insert_60 hl (k := 0) rfl (by rfl) (by decide) rfl (fun ls hl => ?_)
            refine lv_goto (tgt := 14) hx hb dX1_insert_63 (by decide) ?_
            have e_4 : ((nI i + 1) : Int32) = nI (i + 1) := nI_1 i
            exact ih (i + 1) (by omega) (by omega) _ locs ls HP HQ HM HY hS (lv_eq (lv_sub (l' := [(4, .int (nI i + 1)), (3, .ref q), (0, .ref S), (1, .int (nI P)), (2, .ref y)]) hl [0, 1, 2, 3, 4] rfl) (by rw [e_4]))
        · have h27 : i < P := by
            rw [nI_leI (by omega) (by omega)] at c_27
            omega
          refine lv_aload_n hx hb dX1_insert_30 rfl (lv_at hl 2 rfl) ?_
          refine z_get hx hb hts hin hown hK HP.cell 2 (by decide) (hts (.fieldLink RX1 15 "SplicedTalkLaw$Sim" "rows" "[[I") (by decide +kernel)) (v := .ref O) rfl dX1_insert_31 ?_
          refine lv_iload hx hb dX1_insert_34 (lv_at hl 0 rfl) ?_
          refine z_gal hx hb hK 1 rfl HP.2 i (by omega) (by omega) rfl dX1_insert_36 ?_
          refine lv_goto (tgt := 59) hx hb dX1_insert_37 (by decide) ?_
          obtain ⟨f8, hf8, -⟩ := HP.2.2 i (by omega)
          refine z_aast hx hb hK hO 1 0 rfl rfl HM hS (Or.inr hqs) i rfl (by omega) (by omega) hf8 dX1_insert_59 (fun H locs hm z9 o9 hS => ?_)
          have HQ := HQ.st hqs z9 o9
          have HP := HP0.kept HQ
          have HY := z_kp HY0 HQ
          have HM := aR_put (ri := r_ins r P y) hm (by unfold r_ins; rw [if_pos h27])
          refine lv_iinc (v := (nI i + 1)) (lv' := [(4, .int (nI i + 1)), (3, .ref q), (0, .ref S), (1, .int (nI P)), (2, .ref y)]) hx hb dX1_insert_60 hl (k := 0) rfl (by rfl) (by decide) rfl (fun ls hl => ?_)
          refine lv_goto (tgt := 14) hx hb dX1_insert_63 (by decide) ?_
          have e_4 : ((nI i + 1) : Int32) = nI (i + 1) := nI_1 i
          exact ih (i + 1) (by omega) (by omega) _ locs ls HP HQ HM HY hS (lv_eq (lv_sub (l' := [(4, .int (nI i + 1)), (3, .ref q), (0, .ref S), (1, .int (nI P)), (2, .ref y)]) hl [0, 1, 2, 3, 4] rfl) (by rw [e_4]))
  exact lo_14 ((N + 1) + 1) 0 (by omega) (by omega) _ locs ls HP HQ HM HY hS (lv_sub hl [0, 1, 2, 3, 4] rfl)

theorem kv_X1_remove : yX1_remove.cls = RX1 ∧ yX1_remove.cls ≠ "java/lang/invoke/MethodHandle" ∧ yX1_remove.cls ≠ "java/lang/invoke/VarHandle" ∧ (parseMethodDescriptor yX1_remove.desc).map (fun d => d.parameters.length) = some 1 := by decide +kernel
theorem ks_X1_remove : yX1_remove.cls ≠ "java/lang/invoke/MethodHandle" ∧ yX1_remove.cls ≠ "java/lang/invoke/VarHandle" ∧ (parseMethodDescriptor yX1_remove.desc).map (fun d => d.parameters.length) = some 1 := kv_X1_remove.2
set_option maxHeartbeats 4000000 in
set_option maxRecDepth 100000 in
theorem c_X1_remove (l : Launch) (D : va_G) (cI cA : ClassId) (S O N : Nat) (r : Nat → Nat) (g0 g1 g2 : Nat → Int32) (pa pe : Int32) (hN : N ≤ 24) (P : Nat) (hP : P < N) : e_V l yX1_remove wsX1_remove ({ frames := 0, cells := 1, slots := 24, locals := 0 } : Room) D (zt cI cA) (pH (sG D cI cA S O N r g0 g1 g2 pa pe)) [.ref S, .int (nI P)] (fun x => x = S) 1 24 (fun sz (u : Nat) h => sS D pa pe (.ref u) S h ∧ aR cA (N - 1) (fun i => some (r_rem r P i)) u h ∧ sz ≤ u) := by
  refine e_startV (cc := cX1_remove) (maxL := 4) (by decide) rfl (Nat.le_of_ble_eq_true rfl) ?_
  intro p e s m below meth c hx hb hml hr hts hown hlocks hK hO hPr locs ls hS hl
  have hin : ∀ w ∈ wsX10, w ∈ wsX1_remove := by decide +kernel
  have hl : lv_has ls 4 [(0, .ref S), (1, .int (nI P))] := hl
  have HP0 : sG D cI cA S O N r g0 g1 g2 pa pe s.heap := hPr
  have HP := HP0
  have HQ : q_same s.heap s.heap := q_same.rf
  refine lv_aload_n hx hb dX1_remove_0 rfl (lv_at hl 0 rfl) ?_
  refine z_get hx hb hts hin hown hK HP.cell 2 (by decide) (hts (.fieldLink RX1 15 "SplicedTalkLaw$Sim" "rows" "[[I") (by decide +kernel)) (v := .ref O) rfl dX1_remove_1 ?_
  refine z_gln hx hb hK 1 rfl HP.2 dX1_remove_4 ?_
  refine lv_iconst (v := 1) hx hb dX1_remove_5 (by decide) ?_
  refine lv_isub hx hb dX1_remove_6 ?_
  refine z_newr hx hb hown (hts (.classLink RX1 13 "[I") (by decide +kernel)) hO hK 1 rfl hS (n := N - 1) (nI_m1 (by omega)) (by omega) (by show 0 + 1 ≤ 1; omega) (by show 0 + (N - 1) ≤ 24; omega) dX1_remove_7 (fun q H hqE hqa hsm hS => ?_)
  have hqs : s.heap.size ≤ q := by rw [hqE]; exact HQ.1
  have HQ := HQ.tr hsm
  have HP := HP0.kept HQ
  have HM : aR cA (N - 1) (fun k => if k < 0 then some (r_rem r P k) else none) q H := aR.cg hqa fun k _ => (if_neg (Nat.not_lt_zero k)).symm
  refine lv_astore_n (lv' := [(2, .ref q), (0, .ref S), (1, .int (nI P))]) hx hb dX1_remove_10 rfl hl (by decide) rfl (fun ls hl => ?_)
  refine lv_iconst (v := 0) hx hb dX1_remove_11 (by decide) ?_
  refine lv_istore_n (lv' := [(3, .int 0), (2, .ref q), (0, .ref S), (1, .int (nI P))]) hx hb dX1_remove_12 rfl hl (by decide) rfl (fun ls hl => ?_)
  have lo_13 : ∀ (fu i : Nat), (N - 1) - i < fu → i ≤ (N - 1) → ∀ (H : Heap) (locs : List Loc) (ls : Array Slot), sG D cI cA S O N r g0 g1 g2 pa pe H → q_same s.heap H → aR cA (N - 1) (fun k => if k < i then some (r_rem r P k) else none) q H → va_S (e_F (fun x => x = S) s.heap.size) s.heap H locs → lv_has ls 4 [(3, .int (nI i)), (2, .ref q), (0, .ref S), (1, .int (nI P))] → W p l e ({ frames := 0, cells := 1, slots := 24, locals := 0 } : Room) s m [.ref S, .int (nI P)].toArray below meth c H locs (0 + 1) (0 + (N - 1)) (e_EV below [.ref S, .int (nI P)].toArray s (fun x => x = S) 1 24 (fun sz (u : Nat) h => sS D pa pe (.ref u) S h ∧ aR cA (N - 1) (fun i => some (r_rem r P i)) u h ∧ sz ≤ u)) (F0 m 13 ls []) := by
    intro fu
    induction fu with
    | zero => intro i hi; exact absurd hi (Nat.not_lt_zero _)
    | succ fu ih =>
      intro i hi hiN H locs ls HP HQ HM hS hl
      refine lv_iload_n hx hb dX1_remove_13 rfl (lv_at hl 0 rfl) ?_
      refine lv_aload_n hx hb dX1_remove_14 rfl (lv_at hl 1 rfl) ?_
      refine z_rln hx hb hK 1 rfl HM dX1_remove_15 ?_
      refine lv_icmp_ge (tgt := 45) hx hb dX1_remove_16 (by decide) (fun c_16 => ?_) (fun c_16 => ?_)
      · have hi9 : i = N - 1 := nI_ge' hiN (by omega) c_16
        refine lv_aload_n hx hb dX1_remove_45 rfl (lv_at hl 2 rfl) ?_
        refine lv_aload_n hx hb dX1_remove_46 rfl (lv_at hl 1 rfl) ?_
        refine z_put hx hb hts hin hown hK HP.cell hS (Or.inl rfl) 2 (by decide) (hts (.fieldLink RX1 15 "SplicedTalkLaw$Sim" "rows" "[[I") (by decide +kernel)) (ty := .array (.array .int)) (v := .ref q) rfl rfl rfl (Nat.le_of_ble_eq_true rfl) dX1_remove_47 (fun H locs hs9 z9 o9 hS => ?_)
        have hne : q ≠ S := by have := HP0.1.lt; omega
        have HM : aR cA (N - 1) (fun i => some (r_rem r P i)) q H := aR.cg ((o9 _ hne).trans HM) fun k hk => if_pos (by rw [hi9]; exact hk)
        exact e_retV q hx hb hr hlocks hS ⟨hs9, HM, hqs⟩ (by omega) (by omega) dX1_remove_50
      · have hi9 : i < N - 1 := nI_lt' hiN (by omega) c_16
        refine lv_aload_n hx hb dX1_remove_19 rfl (lv_at hl 1 rfl) ?_
        refine lv_iload_n hx hb dX1_remove_20 rfl (lv_at hl 0 rfl) ?_
        refine lv_aload_n hx hb dX1_remove_21 rfl (lv_at hl 2 rfl) ?_
        refine z_get hx hb hts hin hown hK HP.cell 2 (by decide) (hts (.fieldLink RX1 15 "SplicedTalkLaw$Sim" "rows" "[[I") (by decide +kernel)) (v := .ref O) rfl dX1_remove_22 ?_
        refine lv_iload_n hx hb dX1_remove_25 rfl (lv_at hl 0 rfl) ?_
        refine lv_iload_n hx hb dX1_remove_26 rfl (lv_at hl 3 rfl) ?_
        refine lv_icmp_ge (tgt := 34) hx hb dX1_remove_27 (by decide) (fun c_27 => ?_) (fun c_27 => ?_)
        · have h27 : P ≤ i := by rwa [nI_leI (by omega) (by omega)] at c_27
          refine lv_iload_n hx hb dX1_remove_34 rfl (lv_at hl 0 rfl) ?_
          refine lv_iconst (v := 1) hx hb dX1_remove_35 (by decide) ?_
          refine lv_iadd hx hb dX1_remove_36 ?_
          refine z_gal hx hb hK 1 rfl HP.2 (i + 1) (by omega) (by omega) (nI_1 i) dX1_remove_37 ?_
          obtain ⟨f8, hf8, -⟩ := HP.2.2 (i + 1) (by omega)
          refine z_aast hx hb hK hO 1 0 rfl rfl HM hS (Or.inr hqs) i rfl (by omega) (by omega) hf8 dX1_remove_38 (fun H locs hm z9 o9 hS => ?_)
          have HQ := HQ.st hqs z9 o9
          have HP := HP0.kept HQ
          have HM := aR_put (ri := r_rem r P) hm (by unfold r_rem; rw [if_neg (by omega)])
          refine lv_iinc (v := (nI i + 1)) (lv' := [(3, .int (nI i + 1)), (2, .ref q), (0, .ref S), (1, .int (nI P))]) hx hb dX1_remove_39 hl (k := 0) rfl (by rfl) (by decide) rfl (fun ls hl => ?_)
          refine lv_goto (tgt := 13) hx hb dX1_remove_42 (by decide) ?_
          have e_3 : ((nI i + 1) : Int32) = nI (i + 1) := nI_1 i
          exact ih (i + 1) (by omega) (by omega) _ locs ls HP HQ HM hS (lv_eq (lv_sub (l' := [(3, .int (nI i + 1)), (2, .ref q), (0, .ref S), (1, .int (nI P))]) hl [0, 1, 2, 3] rfl) (by rw [e_3]))
        · have h27 : i < P := by
            rw [nI_leI (by omega) (by omega)] at c_27
            omega
          refine lv_iload_n hx hb dX1_remove_30 rfl (lv_at hl 0 rfl) ?_
          refine lv_goto (tgt := 37) hx hb dX1_remove_31 (by decide) ?_
          refine z_gal hx hb hK 1 rfl HP.2 i (by omega) (by omega) rfl dX1_remove_37 ?_
          obtain ⟨f8, hf8, -⟩ := HP.2.2 i (by omega)
          refine z_aast hx hb hK hO 1 0 rfl rfl HM hS (Or.inr hqs) i rfl (by omega) (by omega) hf8 dX1_remove_38 (fun H locs hm z9 o9 hS => ?_)
          have HQ := HQ.st hqs z9 o9
          have HP := HP0.kept HQ
          have HM := aR_put (ri := r_rem r P) hm (by unfold r_rem; rw [if_pos h27])
          refine lv_iinc (v := (nI i + 1)) (lv' := [(3, .int (nI i + 1)), (2, .ref q), (0, .ref S), (1, .int (nI P))]) hx hb dX1_remove_39 hl (k := 0) rfl (by rfl) (by decide) rfl (fun ls hl => ?_)
          refine lv_goto (tgt := 13) hx hb dX1_remove_42 (by decide) ?_
          have e_3 : ((nI i + 1) : Int32) = nI (i + 1) := nI_1 i
          exact ih (i + 1) (by omega) (by omega) _ locs ls HP HQ HM hS (lv_eq (lv_sub (l' := [(3, .int (nI i + 1)), (2, .ref q), (0, .ref S), (1, .int (nI P))]) hl [0, 1, 2, 3] rfl) (by rw [e_3]))
  exact lo_13 ((N - 1) + 1) 0 (by omega) (by omega) _ locs ls HP HQ HM hS (lv_sub hl [0, 1, 2, 3] rfl)
