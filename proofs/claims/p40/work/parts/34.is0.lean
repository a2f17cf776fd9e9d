/-! own rows: new int[n][m]; counts by bits; what isSame stands on -/
theorem vr_outer (c : ClassId) (N h0 : Nat) : ∀ i : Nat, Jvm.Free.Multi.outerC c N h0 i = arrV c N (fun j => va_rf (if j < i then some (h0 + 1 + j) else none))
  | 0 => by
    show ({ cls := c, slots := Array.replicate N .null, vm := .none } : Cell) = _
    rw [arrV_new]
    refine congrArg (arrV c N) (funext fun j => ?_)
    simp [va_rf]
  | i + 1 => by
    show (Jvm.Free.Multi.outerC c N h0 i).setSlot i (.ref (h0 + 1 + i)) = _
    rw [vr_outer c N h0 i, arrV_store]
    refine congrArg (arrV c N) (funext fun j => ?_)
    by_cases e : j = i
    · subst e
      simp [updV, va_rf]
    · by_cases h : j < i
      · simp [updV, e, h, Nat.lt_succ_of_lt h]
      · simp [updV, e, h, show ¬ j < i + 1 by omega]
theorem gG_put {cI cA : ClassId} {n k i j O : Nat} {r : Nat → Nat} {ρ ρ' : Nat → Nat → Int32} {v : Int32} {f : Nat → Int32} {H H1 : Heap} (h : gG cI cA n k r ρ O H) (hO : O ≠ r i) (hinj : ∀ i', i' < n → r i' = r i → i' = i)
    (ef : ∀ j', j' < k → f j' = ρ i j') (hf : aI cI k (upd f j v) (r i) H1) (o : ∀ x : Nat, x ≠ r i → H1[x]? = H[x]?) (e : ∀ i' j', i' < n → j' < k → ρ' i' j' = if i' = i ∧ j' = j then v else ρ i' j') : gG cI cA n k r ρ' O H1 := by
  refine ⟨(o O hO).trans h.1, fun i' hi' => ?_⟩
  by_cases c : i' = i
  · subst c
    refine ⟨_, hf, fun j' hj' => ?_⟩
    rw [e i' j' hi' hj']
    by_cases d : j' = j
    · subst d
      rw [upd_e, if_pos ⟨rfl, rfl⟩]
    · rw [upd_n d, if_neg (fun x => d x.2)]
      exact ef j' hj'
  · obtain ⟨f9, h1, h2⟩ := h.2 i' hi'
    exact ⟨f9, (o _ (fun x => c (hinj i' hi' x))).trans h1, fun j' hj' => by rw [e i' j' hi' hj', if_neg (fun x => c x.1)]; exact h2 j' hj'⟩
theorem gG.to {cI cA : ClassId} {n k O a : Nat} {r : Nat → Nat} {ρ : Nat → Nat → Int32} {H H1 : Heap} (h : gG cI cA n k r ρ O H) (o : ∀ x : Nat, x ≠ a → H1[x]? = H[x]?) (h1 : O ≠ a) (h2 : ∀ i, i < n → r i ≠ a) : gG cI cA n k r ρ O H1 :=
  ⟨(o O h1).trans h.1, fun i hi => by obtain ⟨f, x, y⟩ := h.2 i hi; exact ⟨f, (o _ (h2 i hi)).trans x, y⟩⟩
theorem gG.cg {cI cA : ClassId} {n k O : Nat} {r : Nat → Nat} {ρ ρ' : Nat → Nat → Int32} {H : Heap} (h : gG cI cA n k r ρ O H) (e : ∀ i j, i < n → j < k → ρ i j = ρ' i j) : gG cI cA n k r ρ' O H :=
  ⟨h.1, fun i hi => by obtain ⟨f, x, y⟩ := h.2 i hi; exact ⟨f, x, fun j hj => (y j hj).trans (e i j hi hj)⟩⟩
section ZM
variable {p : Program} {l : Launch} {e : Env} {R : Room} {s : State} {m : MethodId} {args : Array Value} {below : List Frame} {meth : Method} {c : Code} {H : Heap} {locs : List Loc} {cells slots : Nat} {Q : State → Prop}
variable {cc : ByteArray} {pc : Nat} {ls : Array Slot} {rest : List Value} {D : va_G} {A : Nat → Prop} {H0 : Heap} {tys : List (ClassId × FieldType)} {cI cA : ClassId}
theorem z_mna (hexec : p.tables.exec = Jvm.exec) (hb : c.code = cc) {own : String} {index : Nat} (hown : s.vm.findClass own = some m.cls) (hclink : (Cond.classLink own index "[[I").before args s = true) (hO : n_O s) (harr : (Cond.arrayClass .int).before args s = true) (hK : va_K D vwCl tys s) (t0 t1 : Nat) (ht : tys[t0]? = some (cA, .array .int)) (ht1 : tys[t1]? = some (cI, .int)) (hS : va_S A H0 H locs) (N' K' : Nat) {n k : Int32} (hn : n = nI N') (hk : k = nI K') (hN : N' ≤ 1000) (hM : K' ≤ 1000)
    (hcells : cells + (1 + N') ≤ R.cells) (hslots : slots + (N' + N' * K') ≤ R.slots) (hdg : decode cc pc = .ok (.multianewarray index 2, 4))
    (kk : ∀ (q : Nat) (H1 : Heap), q = H.size → gG cI cA N' K' (fun i => q + 1 + i) (fun _ _ => 0) q H1 → q_same H H1 → va_S A H0 H1 locs → H1.size = H.size + 1 + N' → W p l e R s m args below meth c H1 locs (cells + 1 + N') (slots + N' + N' * K') Q (F0 m (pc + 4) ls (.ref q :: rest))) : W p l e R s m args below meth c H locs cells slots Q (F0 m pc ls (.int k :: .int n :: rest)) := by
  subst hn
  subst hk
  intro T hT Xs
  have hz : (nI N').toNatClampNeg = N' := nI_clamp (by omega)
  have hz2 : (nI K').toNatClampNeg = K' := nI_clamp (by omega)
  obtain ⟨vm₁, cA', comp, -, fA, fC, -, -, X', step⟩ := Xs.multianewarray2F (ty := .int) hexec hown hclink (n_O.use hO) harr (g := F0 m pc ls (.int (nI K') :: .int (nI N') :: rest)) rfl (by rw [hb]; exact hdg) rfl (nI_pos (by omega)) (nI_pos (by omega)) (by rw [hz]; omega) (by rw [hz2]; show K' * 4 ≤ _; omega) (by rw [hz2]; omega) rfl rfl (by rw [hz]; exact hcells) (by rw [hz, hz2]; exact hslots)
  rw [hz, hz2] at X' step
  have eA : cA' = cA := Option.some.inj (fA.symm.trans ((hK.2 t0 _ ht).2 : s.vm.findClass ("[" ++ (FieldType.array .int).toString) = some cA))
  subst eA
  have eI : comp = cI := Option.some.inj (fC.symm.trans ((hK.2 t1 _ ht1).2 : s.vm.findClass ("[" ++ FieldType.int.toString) = some cI))
  subst eI
  generalize hF : Jvm.Free.Multi.fill (T.setVm vm₁) cA' comp N' K' (defaultValue .int) N' = F at X' step
  have hTh : (T.setVm vm₁).heap = H := hT
  obtain ⟨f1, f2, -, -⟩ := Jvm.Free.Multi.fill_facts (T.setVm vm₁) cA' comp N' K' (defaultValue .int) N'
  rw [hF, hTh] at f1 f2
  have hold : ∀ x : Nat, x < H.size → F.heap[x]? = H[x]? := fun x hx => by
    have := Jvm.Free.Multi.fill_old (T.setVm vm₁) cA' comp N' K' (defaultValue .int) (a := x) (by rw [hTh]; exact hx) N'
    rw [hF, hTh] at this
    exact this
  have hrow : ∀ j : Nat, j < N' → F.heap[H.size + 1 + j]? = some (vp_cell comp (K', .inl (fun _ => 0))) := fun j hj => by
    have := Jvm.Free.Multi.fill_inner (T.setVm vm₁) cA' comp N' K' (defaultValue .int) N' j hj
    rw [hF, hTh] at this
    exact this.trans (congrArg some (arrV_new comp K' (.int 0)))
  have hout : aR cA' N' (fun i => some (H.size + 1 + i)) H.size F.heap := by
    refine aR.cg (f := fun i => if i < N' then some (H.size + 1 + i) else none) (f2.trans (congrArg some (vr_outer cA' N' H.size N'))) fun j hj => if_pos hj
  have hq : q_same H F.heap := ⟨by rw [f1]; omega, hold⟩
  obtain ⟨t, a1, b1⟩ := kk H.size F.heap rfl ⟨hout, fun i hi => ⟨_, hrow i hi, fun _ _ => rfl⟩⟩ hq ⟨by rw [f1]; have := hS.1; omega, fun x h1 h2 => (hold x (Nat.lt_of_lt_of_le h1 hS.1)).trans (hS.2.1 x h1 h2), hS.2.2⟩ f1 F rfl X'
  refine ⟨t, step t ?_, b1⟩
  have e : T.heap.size = H.size := by rw [hT]
  rw [e]
  exact a1
end ZM
theorem ct_tail {p : Nat → Bool} {a : Nat} (h : ∀ j, a ≤ j → p j = false) : ∀ b, a ≤ b → ct p b = ct p a
  | 0, hb => by rw [show a = 0 by omega]
  | b + 1, hb => by
    by_cases c : a = b + 1
    · rw [c]
    · rw [ct_f (by rw [h b (by omega)]; exact Bool.false_ne_true)]
      exact ct_tail h b (by omega)
theorem pcn_tail {v a : Nat} (h : ∀ j, a ≤ j → v.testBit j = false) (ha : a ≤ 31) : pcn v = ct (fun j => v.testBit j) a := ct_tail h 31 ha
theorem m_ts_hi (g0 g1 g2 : Nat → Int32) (N : Nat) (s : Int32) : ∀ w j, w ≤ j → (m_ts g0 g1 g2 N s w).testBit j = false
  | 0, j, _ => Nat.zero_testBit j
  | w + 1, j, h => by
    rw [m_ts_s]
    split
    · rw [tb_or, m_ts_hi g0 g1 g2 N s w j (by omega)]
      have := m_th_le g0 g1 g2 N w
      simp
      omega
    · exact m_ts_hi g0 g1 g2 N s w j (by omega)
theorem tb_lt {v k j : Nat} (h : v < 2 ^ k) (hj : k ≤ j) : v.testBit j = false := Nat.testBit_lt_two_pow (Nat.lt_of_lt_of_le h (Nat.pow_le_pow_right (by decide) hj))
section SB
variable {N : Nat} {g0 g1 g2 : Nat → Int32}
theorem m_wos_s (v w : Nat) : m_wos g0 g1 N v (w + 1) = m_wos g0 g1 N v w + if g1 (m_P g0 N w) = nI v then 1 else 0 := by
  unfold m_wos
  rw [ct_s]
  by_cases c : g1 (m_P g0 N w) = nI v
  · rw [if_pos (decide_eq_true c), if_pos c]
  · rw [if_neg (fun h => c (of_decide_eq_true h)), if_neg c]
theorem in_s {v w : Nat} (hv : v < 6) (e : g1 (m_P g0 N w) = nI v) (v' k' : Nat) (hv' : v' < 6) : bI ((m_ts g0 g1 g2 N (nI v') (w + 1)).testBit k') = if v' = v ∧ k' = m_th g0 g1 g2 N w then 1 else bI ((m_ts g0 g1 g2 N (nI v') w).testBit k') := by
  rw [m_ts_s, e]
  by_cases c : v' = v
  · subst c
    rw [if_pos rfl, tb_or]
    by_cases d : k' = m_th g0 g1 g2 N w
    · rw [if_pos ⟨rfl, d⟩, decide_eq_true d, Bool.or_true]; rfl
    · rw [if_neg (fun x => d x.2), decide_eq_false d, Bool.or_false]
  · rw [if_neg (fun x => c ((nI_eq (by omega) (by omega)).mp x).symm), if_neg (fun x => c x.1)]
theorem tq_s {t w : Nat} (ht : t < 10) (hw : w ≤ 24) (e : g0 (m_P g0 N w) = nI t) (k' t' : Nat) (hk' : k' ≤ 24) : bI ((m_tq g0 g1 g2 N (nI k') (w + 1)).testBit t') = if k' = m_th g0 g1 g2 N w ∧ t' = t then 1 else bI ((m_tq g0 g1 g2 N (nI k') w).testBit t') := by
  have hth := m_th_le g0 g1 g2 N w
  rw [m_tq_s, e, nI_clamp (by omega)]
  by_cases c : k' = m_th g0 g1 g2 N w
  · subst c
    rw [if_pos rfl, tb_or]
    by_cases d : t' = t
    · rw [if_pos ⟨rfl, d⟩, decide_eq_true d, Bool.or_true]; rfl
    · rw [if_neg (fun x => d x.2), decide_eq_false d, Bool.or_false]
  · rw [if_neg (fun x => c ((nI_eq (by omega) (by omega)).mp x).symm), if_neg (fun x => c x.1)]
/-- words before w that lie in thread k -/
def m_lnw (g0 g1 g2 : Nat → Int32) (N k : Nat) : Nat → Nat := ct (fun w => decide (nI (m_th g0 g1 g2 N w) = nI k))
theorem ln_s {w : Nat} (hw : w ≤ 24) (k' : Nat) (hk' : k' ≤ 24) : nI (m_lnw g0 g1 g2 N k' (w + 1)) = if k' = m_th g0 g1 g2 N w then nI (m_lnw g0 g1 g2 N k' w) + 1 else nI (m_lnw g0 g1 g2 N k' w) := by
  have hth := m_th_le g0 g1 g2 N w
  unfold m_lnw
  rw [ct_s]
  by_cases c : k' = m_th g0 g1 g2 N w
  · rw [if_pos c, if_pos (decide_eq_true (by rw [c])), nI_1]
  · rw [if_neg c, if_neg (fun h => c ((nI_eq (by omega) (by omega)).mp (of_decide_eq_true h)).symm), Nat.add_zero]
theorem m_lg_b (g0 g1 g2 : Nat → Int32) (N : Nat) : ∀ k, k ≤ 24 → 0 < k → ∃ j, j < k ∧ m_lg g0 g1 g2 N k = nI j
  | 0, _, h => absurd h (Nat.lt_irrefl 0)
  | k + 1, hk, _ => by
    show ∃ j, j < k + 1 ∧ (if m_lg g0 g1 g2 N k = -1 then nI k else if nI (m_ln g0 g1 g2 N (m_lg g0 g1 g2 N k)) < nI (m_ln g0 g1 g2 N (nI k)) then nI k else m_lg g0 g1 g2 N k) = nI j
    by_cases z : k = 0
    · subst z
      exact ⟨0, by omega, if_pos rfl⟩
    · obtain ⟨j, hj, e⟩ := m_lg_b g0 g1 g2 N k (by omega) (by omega)
      rw [e, if_neg (nI_m1n j (by omega))]
      split
      · exact ⟨k, by omega, rfl⟩
      · exact ⟨j, by omega, rfl⟩
end SB
theorem dc_fin : ∀ d, d < 23 → ∀ s, s < 27 * (d + 1) + 1 → FP.dcmp (FP.ddiv (FP.i2d (nI s)) (FP.i2d (nI (d + 1)))) (FP.ddiv (FP.i2d (nI s)) (FP.i2d (nI (d + 1)))) = some .eq := by decide +kernel
theorem m_ms_c {N : Nat} {f0 f1 f2 g0 g1 g2 : Nat → Int32} (h : Ra N f0 f1 f2 g0 g1 g2) : FP.dcmp (m_ms g0 N) (m_ms g0 N) = some .eq := by
  unfold m_ms
  by_cases h0 : m_n g0 N - 1 = 0
  · rw [if_pos h0]
    decide +kernel
  · rw [if_neg h0]
    have hn := h.n; have hm := m_n_le g0 N
    obtain ⟨d, hd, ed⟩ := m_ss_le h (m_n g0 N - 1) (Nat.le_refl _)
    obtain ⟨k, hk⟩ : ∃ k, m_n g0 N - 1 = k + 1 := ⟨m_n g0 N - 1 - 1, by omega⟩
    rw [ed, hk]
    exact dc_fin k (by omega) d (by omega)
/-- the walk's ground: the machine, the tables, the conversation and the simulation at the heap Hb -/
def iC (p : Program) (s : State) (m : MethodId) (meth : Method) (c : Code) (args : Array Value) (D : va_G) (cI cA : ClassId) : Prop :=
  p.tables.exec = Jvm.exec ∧ c.code = cX1_isSame ∧ c.maxLocals = 20 ∧ meth.sig.returnType = some .boolean ∧ (∀ w ∈ wsX1_isSame, w.before args s = true) ∧ s.vm.findClass RX1 = some m.cls ∧ meth.locks = false ∧ va_K D vwCl (zt cI cA) s ∧ n_O s
def iS (D : va_G) (cI cA : ClassId) (ad : Nat → Nat) (S N pa : Nat) (pe : Int32) (f0 f1 f2 f3 f4 g0 g1 g2 : Nat → Int32) (O : Nat) (r : Nat → Nat) (rw : Nat → Nat) (O2 : Nat) (H : Heap) : Prop :=
  tR N f0 f1 f2 f3 f4 g0 g1 g2 ∧ va_P D vwCl (tW cI ad N pa pe f0 f1 f2 f3 f4 g0 g1 g2) H ∧ sG D cI cA S O N r g0 g1 g2 (nI pa) pe H ∧ gW cI cA g0 g1 g2 N rw O2 H
theorem iS.kept {D : va_G} {cI cA : ClassId} {ad : Nat → Nat} {S N pa : Nat} {pe : Int32} {f0 f1 f2 f3 f4 g0 g1 g2 : Nat → Int32} {O : Nat} {r : Nat → Nat} {rw : Nat → Nat} {O2 : Nat} {H H1 : Heap} (h : iS D cI cA ad S N pa pe f0 f1 f2 f3 f4 g0 g1 g2 O r rw O2 H) (hq : q_same H H1) : iS D cI cA ad S N pa pe f0 f1 f2 f3 f4 g0 g1 g2 O r rw O2 H1 :=
  ⟨h.1, hq.P h.2.1, h.2.2.1.kept hq, gG.kept h.2.2.2 hq⟩
abbrev iRm : Room := ({ frames := 6, cells := 70, slots := 700, locals := 160 } : Room)
def iQ (below : List Frame) (args : Array Value) (s : State) : State → Prop := e_EI below args s 1 q_no 70 700 (fun _ (_ : Unit) _ => True)
/-- the four arrays, as far as word w -/
def iA (cI cA : ClassId) (g0 g1 g2 : Nat → Int32) (N a8 a9 a10 a11 w : Nat) (H : Heap) : Prop :=
  aI cI (m_n g0 N + 1) (fun k => nI (m_lnw g0 g1 g2 N k w)) a8 H ∧ aI cI 6 (fun v => nI (m_wos g0 g1 N v w)) a9 H ∧
  gG cI cA 6 (m_n g0 N + 1) (fun i => a10 + 1 + i) (fun v k => bI ((m_ts g0 g1 g2 N (nI v) w).testBit k)) a10 H ∧ gG cI cA (m_n g0 N + 1) 10 (fun i => a11 + 1 + i) (fun k t => bI ((m_tq g0 g1 g2 N (nI k) w).testBit t)) a11 H
def iX (b a8 a9 a10 a11 : Nat) : Prop := b ≤ a8 ∧ a8 < a9 ∧ a9 < a10 ∧ a10 + 6 < a11
theorem iA.kept {cI cA : ClassId} {g0 g1 g2 : Nat → Int32} {N a8 a9 a10 a11 w : Nat} {H H1 : Heap} (h : iA cI cA g0 g1 g2 N a8 a9 a10 a11 w H) (hq : q_same H H1) : iA cI cA g0 g1 g2 N a8 a9 a10 a11 w H1 :=
  ⟨z_kp h.1 hq, z_kp h.2.1 hq, h.2.2.1.kept hq, h.2.2.2.kept hq⟩
