/-! own rows: contracts of methods that write their world (void, or one int), of methods that check (void, nothing written), of methods that throw; calls of them -/
theorem q_Dcong {A : Nat → Prop} {W W' : va_W} (hD : va_D A W) (h : W'.map Prod.fst = W.map Prod.fst) : va_D A W' := by
  have key : ∀ (k : Nat) (q : Nat × va_E), W'[k]? = some q → ∃ q0, W[k]? = some q0 ∧ q0.1 = q.1 := by
    intro k q hk
    have h1 : (W'.map Prod.fst)[k]? = some q.1 := by rw [List.getElem?_map, hk]; rfl
    rw [h, List.getElem?_map] at h1
    cases hw : W[k]? with
    | none => rw [hw] at h1; cases h1
    | some q0 => rw [hw] at h1; exact ⟨q0, rfl, Option.some.inj h1⟩
  refine ⟨fun i j x y hi hj hxy => ?_, fun k q hk => ?_⟩
  · obtain ⟨x0, h1, h2⟩ := key i x hi
    obtain ⟨y0, h3, h4⟩ := key j y hj
    exact hD.1 i j x0 y0 h1 h3 (h2.trans (hxy.trans h4.symm))
  · obtain ⟨q0, h1, h2⟩ := key k q hk
    rw [← h2]
    exact hD.2 k q0 h1
def m_B (D : va_G) (tys : List (ClassId × FieldType)) (W0 : va_W) (sz : Nat) (U : State) : Prop := U.heap.size = sz ∧ q_B D tys W0 U ∧ va_D (fun _ => True) W0
theorem m_B_blind {D : va_G} {tys : List (ClassId × FieldType)} {W0 : va_W} {sz : Nat} {av : List Value} : FrameBlind (va_Pc av (m_B D tys W0 sz)) := fun a U g mk q => ⟨q.1, q.2.1, ⟨q.2.2.1.1, va_K.moved (u := U) (U := U.calling g mk a) (Vm.Alike.refl U.vm) q.2.2.1.2⟩, q.2.2.2⟩
def q_V (l : Launch) (y : MethodName) (ws : List Cond) (rm : Room) (D : va_G) (tys : List (ClassId × FieldType)) (W0 : va_W) (av : List Value) : Prop :=
  Met l y ws rm (va_Pc av (q_B D tys W0)) (va_Qv (fun (_ : Unit) => True) (fun _ _ => True) q_no) 0 0 q_no
def m_V (l : Launch) (y : MethodName) (ws : List Cond) (rm : Room) (D : va_G) (tys : List (ClassId × FieldType)) (W0 : va_W) (av : List Value) (W1 : va_W) : Prop :=
  ∀ sz : Nat, Met l y ws rm (va_Pc av (m_B D tys W0 sz)) (va_Qv (fun (_ : Unit) => True) (fun _ t => va_P D vwCl W1 t.heap) (va_A W0 sz)) 0 0 (va_A W0 sz)
def m_I (l : Launch) (y : MethodName) (ws : List Cond) (rm : Room) (D : va_G) (tys : List (ClassId × FieldType)) (W0 : va_W) (av : List Value) (v : Int32) (W1 : va_W) : Prop :=
  ∀ sz : Nat, Met l y ws rm (va_Pc av (m_B D tys W0 sz)) (va_Qi (fun r (_ : Unit) => r = v) (fun _ t => va_P D vwCl W1 t.heap) (va_A W0 sz)) 0 0 (va_A W0 sz)
def q_EV (below : List Frame) (args : Array Value) (s : State) : State → Prop := MQ below (va_Qv (fun (_ : Unit) => True) (fun _ _ => True) q_no) args s 0 0 q_no
def m_EV (D : va_G) (below : List Frame) (args : Array Value) (s : State) (W1 : va_W) (A : Nat → Prop) : State → Prop := MQ below (va_Qv (fun (_ : Unit) => True) (fun _ t => va_P D vwCl W1 t.heap) A) args s 0 0 A
def m_EI (D : va_G) (below : List Frame) (args : Array Value) (s : State) (v : Int32) (W1 : va_W) (A : Nat → Prop) : State → Prop := MQ below (va_Qi (fun r (_ : Unit) => r = v) (fun _ t => va_P D vwCl W1 t.heap) A) args s 0 0 A
section MST
variable {l : Launch} {y : MethodName} {ws ws' : List Cond} {rm : Room} {D : va_G} {tys : List (ClassId × FieldType)} {W0 W1 : va_W} {av : List Value} {cc : ByteArray} {maxL : Nat}
theorem q_startV (hy : plainName y.cls = true) (hw : ws = Cond.code y cc maxL none :: ws') (hn : (lg_sl av).length ≤ maxL)
    (body : ∀ p e s m below meth c, p.tables.exec = Jvm.exec → c.code = cc → c.maxLocals = maxL → meth.sig.returnType = none → (∀ w ∈ ws, w.before av.toArray s = true) → s.vm.findClass y.cls = some m.cls → meth.locks = false → va_K D vwCl tys s →
      ∀ (H : Heap) (locs : List Loc) (ls : Array Slot), va_P D vwCl W0 H → va_S q_no s.heap H locs → lv_has ls maxL (lv_args 0 av) → W p l e rm s m av.toArray below meth c H locs 0 0 (q_EV below av.toArray s) (F0 m 0 ls [])) : q_V l y ws rm D tys W0 av := by
  refine Met.ofW (cc := cc) (maxL := maxL) (ret := none) hy hw ?_
  intro p e s m args below meth c s₁ B hml hv
  obtain ⟨rfl, hP, hK⟩ := hv
  rw [lg_entry_eq]
  exact body p e s m below meth c B.exec B.bytes hml B.returns (atoms_spec (ws := ws) B.pre) (findClass_of_methodNamed B.named) B.notSynchronized hK s.heap [] _ hP va_S.rf (lv_entry av hn)
theorem m_startV (hy : plainName y.cls = true) (hw : ws = Cond.code y cc maxL none :: ws') (hn : (lg_sl av).length ≤ maxL)
    (body : ∀ p e s m below meth c (A : Nat → Prop), p.tables.exec = Jvm.exec → c.code = cc → c.maxLocals = maxL → meth.sig.returnType = none → (∀ w ∈ ws, w.before av.toArray s = true) → s.vm.findClass y.cls = some m.cls → meth.locks = false → va_K D vwCl tys s → (∀ q : Nat, s.heap.size ≤ q → A q) →
      ∀ (H : Heap) (locs : List Loc) (ls : Array Slot), va_P D vwCl W0 H → va_D A W0 → va_S A s.heap H locs → lv_has ls maxL (lv_args 0 av) → W p l e rm s m av.toArray below meth c H locs 0 0 (m_EV D below av.toArray s W1 A) (F0 m 0 ls [])) : m_V l y ws rm D tys W0 av W1 := by
  intro sz
  refine Met.ofW (cc := cc) (maxL := maxL) (ret := none) hy hw ?_
  intro p e s m args below meth c s₁ B hml hv
  obtain ⟨rfl, hsz, ⟨hP, hK⟩, hD⟩ := hv
  rw [lg_entry_eq]
  subst hsz
  exact body p e s m below meth c (va_A W0 s.heap.size) B.exec B.bytes hml B.returns (atoms_spec (ws := ws) B.pre) (findClass_of_methodNamed B.named) B.notSynchronized hK (fun q h => Or.inr h) s.heap [] _ hP hD.self va_S.rf (lv_entry av hn)
theorem m_startI {v : Int32} {rt : FieldType} (hy : plainName y.cls = true) (hw : ws = Cond.code y cc maxL (some rt) :: ws') (hn : (lg_sl av).length ≤ maxL)
    (body : ∀ p e s m below meth c (A : Nat → Prop), p.tables.exec = Jvm.exec → c.code = cc → c.maxLocals = maxL → meth.sig.returnType = some rt → (∀ w ∈ ws, w.before av.toArray s = true) → s.vm.findClass y.cls = some m.cls → meth.locks = false → va_K D vwCl tys s → (∀ q : Nat, s.heap.size ≤ q → A q) →
      ∀ (H : Heap) (locs : List Loc) (ls : Array Slot), va_P D vwCl W0 H → va_D A W0 → va_S A s.heap H locs → lv_has ls maxL (lv_args 0 av) → W p l e rm s m av.toArray below meth c H locs 0 0 (m_EI D below av.toArray s v W1 A) (F0 m 0 ls [])) : m_I l y ws rm D tys W0 av v W1 := by
  intro sz
  refine Met.ofW (cc := cc) (maxL := maxL) (ret := some rt) hy hw ?_
  intro p e s m args below meth c s₁ B hml hv
  obtain ⟨rfl, hsz, ⟨hP, hK⟩, hD⟩ := hv
  rw [lg_entry_eq]
  subst hsz
  exact body p e s m below meth c (va_A W0 s.heap.size) B.exec B.bytes hml B.returns (atoms_spec (ws := ws) B.pre) (findClass_of_methodNamed B.named) B.notSynchronized hK (fun q h => Or.inr h) s.heap [] _ hP hD.self va_S.rf (lv_entry av hn)
end MST
section MEN
variable {p : Program} {l : Launch} {e : Env} {R : Room} {s : State} {m : MethodId} {args : Array Value} {below : List Frame} {meth : Method} {c : Code} {H : Heap} {locs : List Loc} {cells slots : Nat} {Q : State → Prop}
variable {cc : ByteArray} {pc : Nat} {ls : Array Slot} {D : va_G} {W0 W1 : va_W} {A : Nat → Prop}
theorem q_retV (hx : p.tables.exec = Jvm.exec) (hb : c.code = cc) (hr : meth.sig.returnType = none) (hlocks : meth.locks = false) (hS : va_S q_no s.heap H locs) (hdg : decode cc pc = .ok (.return_, 1)) : W p l e R s m args below meth c H locs 0 0 (q_EV below args s) (F0 m pc ls []) :=
  W.vret hx hb hr (fun t ht hW => ⟨⟨(), rfl, trivial, trivial⟩, hS.F ht⟩) hS.2.2 hdg hlocks
theorem m_retV (hx : p.tables.exec = Jvm.exec) (hb : c.code = cc) (hr : meth.sig.returnType = none) (hlocks : meth.locks = false) (hS : va_S A s.heap H locs) (hP : va_P D vwCl W1 H) (hdg : decode cc pc = .ok (.return_, 1)) : W p l e R s m args below meth c H locs 0 0 (m_EV D below args s W1 A) (F0 m pc ls []) :=
  W.vret hx hb hr (fun t ht hW => ⟨⟨(), rfl, trivial, by show va_P D vwCl W1 t.heap; rw [ht]; exact hP⟩, hS.F ht⟩) hS.2.2 hdg hlocks
theorem m_retI {v w : Int32} (hx : p.tables.exec = Jvm.exec) (hb : c.code = cc) (hr : meth.sig.returnType = some .int) (hlocks : meth.locks = false) (hS : va_S A s.heap H locs) (hP : va_P D vwCl W1 H) (hv : v = w) (hdg : decode cc pc = .ok (.ireturn, 1)) : W p l e R s m args below meth c H locs 0 0 (m_EI D below args s w W1 A) (F0 m pc ls [.int v]) := by
  subst hv
  exact W.iret hx hb hr (fun t ht hW => ⟨⟨v, (), rfl, rfl, by show va_P D vwCl W1 t.heap; rw [ht]; exact hP⟩, hS.F ht⟩) hS.2.2 hdg hlocks
theorem m_retZ {v w : Int32} (hx : p.tables.exec = Jvm.exec) (hb : c.code = cc) (hr : meth.sig.returnType = some .boolean) (hlocks : meth.locks = false) (hS : va_S A s.heap H locs) (hP : va_P D vwCl W1 H) (hv : v = w) (hn : w = 0 ∨ w = 1) (hdg : decode cc pc = .ok (.ireturn, 1)) : W p l e R s m args below meth c H locs 0 0 (m_EI D below args s w W1 A) (F0 m pc ls [.int v]) := by
  subst hv
  exact W.zret hx hb hr (by rcases hn with rfl | rfl <;> rfl) (fun t ht hW => ⟨⟨v, (), rfl, rfl, by show va_P D vwCl W1 t.heap; rw [ht]; exact hP⟩, hS.F ht⟩) hS.2.2 hdg hlocks
variable {y : MethodName} {bytes : ByteArray} {maxL nL n index : Nat} {ret : Option FieldType} {ws : List Cond} {rm : Room} {Ts : List Cond} {own C : String} {b : Addr} {As rest st0 : List Value} {tys : List (ClassId × FieldType)} {A0 : Nat → Prop} {H0 : Heap} {Wf Wr W2 : va_W}
/-- behind a call of a writing method: the caller's world, with the callee's cells as they are now -/
theorem m_after {A0 : Nat → Prop} {H1 : Heap} (hP : va_P D vwCl Wf H) (hD : va_D A0 Wf) (isC isR perm : List Nat) (hC : isC.map (fun i => Wf[i]?) = W0.map some) (hR : isR.map (fun i => Wf[i]?) = Wr.map some) (hnC : va_nd isC = true) (hn : va_nd isR = true) (hdis : ∀ i ∈ isR, i ∉ isC)
    (ha : W1.map Prod.fst = W0.map Prod.fst) (hk : ∀ q : Nat, q < H.size → ¬ va_A W0 H.size q → H1[q]? = H[q]?) (hF : ∀ q, va_A W0 H.size q → A0 q) (hP1 : va_P D vwCl W1 H1) (hs : perm.filterMap (fun i => (Wr ++ W1)[i]?) = W2) : va_P D vwCl W2 H1 :=
  (va_join hP hD isC isR hC hR hn hdis hk hF hP1 (q_Dcong (hD.sub isC hnC hC).self ha)).1.sub perm hs
theorem m_callV (S : CallFix p m c cc nL s args Ts own) (hM : m_V l y ws rm D tys W0 (.ref b :: As) W1) (cw : CallW R s args own C index y bytes maxL ret ws rm 0 0 n)
    (hcB : ∃ cellB : Cell, H[b]? = some cellB ∧ cellB.vm.isStatics = false ∧ s.vm.findClass C = some cellB.cls) (hP : va_P D vwCl Wf H) (hD : va_D A0 Wf) (hK : va_K D vwCl tys s) (hA : ∀ q : Nat, s.heap.size ≤ q → A0 q)
    (isC isR perm : List Nat) (hC : isC.map (fun i => Wf[i]?) = W0.map some) (hC2 : isC.filterMap (fun i => Wf[i]?) = W0) (hR : isR.map (fun i => Wf[i]?) = Wr.map some) (hnC : va_nd isC = true) (hnR : va_nd isR = true) (hdis : ∀ i ∈ isR, i ∉ isC) (ha : W1.map Prod.fst = W0.map Prod.fst) (hs2 : perm.filterMap (fun i => (Wr ++ W1)[i]?) = W2)
    (hn : As.length = n) (hsize : ls.size = nL) (hst : st0 = As.reverse ++ .ref b :: rest) (hW : (rest.map fun v => v.category).sum ≤ 8) (hdg : decode cc pc = .ok (.invokevirtual index, 3)) (hc : cells ≤ R.cells) (hs : slots ≤ R.slots) (hS : va_S A0 s.heap H locs)
    (kk : ∀ (H1 : Heap) (locs1 : List Loc), va_P D vwCl W2 H1 → va_S A0 s.heap H1 locs1 → W p l e R s m args below meth c H1 locs1 cells slots Q (F0 m (pc + 3) ls rest)) : W p l e R s m args below meth c H locs cells slots Q (F0 m pc ls st0) := by
  subst hst
  have hF := va_free (wc := W0) hD hS hA isC hC
  refine va_callv (va_runV S (hM H.size) cw ⟨m_B_blind, hcB, fun U hU hW => ⟨rfl, by rw [hU], ⟨by rw [hU]; exact hP.sub isC hC2, va_K.moved hW.alike hK⟩, (hD.sub isC hnC hC).weaken fun _ _ _ _ => trivial⟩⟩ rfl hn hsize rfl (lv_room hW) hdg ⟨hc, hs⟩) hS (fun q _ h => hF q h) hF (fun u t H1 locs1 ht hvm hw hB hz hk hS1 => ?_)
  exact kk H1 locs1 (m_after hP hD isC isR perm hC hR hnC hnR hdis ha hk hF (by rw [← ht]; exact hB) hs2) hS1
theorem m_callVI {v : Int32} (S : CallFix p m c cc nL s args Ts own) (hM : m_I l y ws rm D tys W0 (.ref b :: As) v W1) (cw : CallW R s args own C index y bytes maxL ret ws rm 0 0 n)
    (hcB : ∃ cellB : Cell, H[b]? = some cellB ∧ cellB.vm.isStatics = false ∧ s.vm.findClass C = some cellB.cls) (hP : va_P D vwCl Wf H) (hD : va_D A0 Wf) (hK : va_K D vwCl tys s) (hA : ∀ q : Nat, s.heap.size ≤ q → A0 q)
    (isC isR perm : List Nat) (hC : isC.map (fun i => Wf[i]?) = W0.map some) (hC2 : isC.filterMap (fun i => Wf[i]?) = W0) (hR : isR.map (fun i => Wf[i]?) = Wr.map some) (hnC : va_nd isC = true) (hnR : va_nd isR = true) (hdis : ∀ i ∈ isR, i ∉ isC) (ha : W1.map Prod.fst = W0.map Prod.fst) (hs2 : perm.filterMap (fun i => (Wr ++ W1)[i]?) = W2)
    (hn : As.length = n) (hsize : ls.size = nL) (hst : st0 = As.reverse ++ .ref b :: rest) (hW : (rest.map fun v => v.category).sum ≤ 8) (hdg : decode cc pc = .ok (.invokevirtual index, 3)) (hc : cells ≤ R.cells) (hs : slots ≤ R.slots) (hS : va_S A0 s.heap H locs)
    (kk : ∀ (H1 : Heap) (locs1 : List Loc), va_P D vwCl W2 H1 → va_S A0 s.heap H1 locs1 → W p l e R s m args below meth c H1 locs1 cells slots Q (F0 m (pc + 3) ls (.int v :: rest))) : W p l e R s m args below meth c H locs cells slots Q (F0 m pc ls st0) := by
  subst hst
  have hF := va_free (wc := W0) hD hS hA isC hC
  refine va_calli (va_runV S (hM H.size) cw ⟨m_B_blind, hcB, fun U hU hW => ⟨rfl, by rw [hU], ⟨by rw [hU]; exact hP.sub isC hC2, va_K.moved hW.alike hK⟩, (hD.sub isC hnC hC).weaken fun _ _ _ _ => trivial⟩⟩ rfl hn hsize rfl (lv_room hW) hdg ⟨hc, hs⟩) hS (fun q _ h => hF q h) hF (fun r u t H1 locs1 ht hvm hw hB hz hk hS1 => ?_)
  subst hw
  exact kk H1 locs1 (m_after hP hD isC isR perm hC hR hnC hnR hdis ha hk hF (by rw [← ht]; exact hB) hs2) hS1
theorem m_callS (S : CallFix p m c cc nL s args Ts own) (hM : m_V l y ws rm D tys W0 As W1) (cw : CallB R s args own index y bytes maxL ret ws rm 0 0 n ∧ (Cond.static y).before args s = true)
    (hP : va_P D vwCl Wf H) (hD : va_D A0 Wf) (hK : va_K D vwCl tys s) (hA : ∀ q : Nat, s.heap.size ≤ q → A0 q)
    (isC isR perm : List Nat) (hC : isC.map (fun i => Wf[i]?) = W0.map some) (hC2 : isC.filterMap (fun i => Wf[i]?) = W0) (hR : isR.map (fun i => Wf[i]?) = Wr.map some) (hnC : va_nd isC = true) (hnR : va_nd isR = true) (hdis : ∀ i ∈ isR, i ∉ isC) (ha : W1.map Prod.fst = W0.map Prod.fst) (hs2 : perm.filterMap (fun i => (Wr ++ W1)[i]?) = W2)
    (hn : As.length = n) (hsize : ls.size = nL) (hst : st0 = As.reverse ++ rest) (hW : (rest.map fun v => v.category).sum ≤ 8) (hdg : decode cc pc = .ok (.invokestatic index, 3)) (hc : cells ≤ R.cells) (hs : slots ≤ R.slots) (hS : va_S A0 s.heap H locs)
    (kk : ∀ (H1 : Heap) (locs1 : List Loc), va_P D vwCl W2 H1 → va_S A0 s.heap H1 locs1 → W p l e R s m args below meth c H1 locs1 cells slots Q (F0 m (pc + 3) ls rest)) : W p l e R s m args below meth c H locs cells slots Q (F0 m pc ls st0) := by
  subst hst
  have hF := va_free (wc := W0) hD hS hA isC hC
  refine va_callv (va_runS S (hM H.size) cw ⟨m_B_blind, fun U hU hW => ⟨rfl, by rw [hU], ⟨by rw [hU]; exact hP.sub isC hC2, va_K.moved hW.alike hK⟩, (hD.sub isC hnC hC).weaken fun _ _ _ _ => trivial⟩⟩ rfl hn hsize rfl (lv_room hW) hdg ⟨hc, hs⟩) hS (fun q _ h => hF q h) hF (fun u t H1 locs1 ht hvm hw hB hz hk hS1 => ?_)
  exact kk H1 locs1 (m_after hP hD isC isR perm hC hR hnC hnR hdis ha hk hF (by rw [← ht]; exact hB) hs2) hS1
theorem q_callVV (S : CallFix p m c cc nL s args Ts own) (hM : q_V l y ws rm D tys W0 (.ref b :: As)) (cw : CallW R s args own C index y bytes maxL ret ws rm 0 0 n)
    (hcB : ∃ cellB : Cell, H[b]? = some cellB ∧ cellB.vm.isStatics = false ∧ s.vm.findClass C = some cellB.cls) (hP : va_P D vwCl W0 H) (hK : va_K D vwCl tys s)
    (hn : As.length = n) (hsize : ls.size = nL) (hst : st0 = As.reverse ++ .ref b :: rest) (hW : (rest.map fun v => v.category).sum ≤ 8) (hdg : decode cc pc = .ok (.invokevirtual index, 3)) (hc : cells ≤ R.cells) (hs : slots ≤ R.slots) (hS : va_S A0 H0 H locs)
    (kk : ∀ (H1 : Heap) (locs1 : List Loc), q_same H H1 → va_S A0 H0 H1 locs1 → W p l e R s m args below meth c H1 locs1 cells slots Q (F0 m (pc + 3) ls rest)) : W p l e R s m args below meth c H locs cells slots Q (F0 m pc ls st0) := by
  subst hst
  refine va_callv (va_runV S hM cw ⟨q_B_blind, hcB, fun U hU hW => ⟨rfl, by rw [hU]; exact hP, va_K.moved hW.alike hK⟩⟩ rfl hn hsize rfl (lv_room hW) hdg ⟨hc, hs⟩) hS (fun q _ h => h.elim) (fun q h => h.elim) (fun u t H1 locs1 ht hvm hw hB hz hk hS1 => ?_)
  exact kk H1 locs1 ⟨hz, fun q hq => hk q hq (fun h => h)⟩ hS1
theorem q_callSV (S : CallFix p m c cc nL s args Ts own) (hM : q_V l y ws rm D tys W0 As) (cw : CallB R s args own index y bytes maxL ret ws rm 0 0 n ∧ (Cond.static y).before args s = true)
    (hP : va_P D vwCl W0 H) (hK : va_K D vwCl tys s)
    (hn : As.length = n) (hsize : ls.size = nL) (hst : st0 = As.reverse ++ rest) (hW : (rest.map fun v => v.category).sum ≤ 8) (hdg : decode cc pc = .ok (.invokestatic index, 3)) (hc : cells ≤ R.cells) (hs : slots ≤ R.slots) (hS : va_S A0 H0 H locs)
    (kk : ∀ (H1 : Heap) (locs1 : List Loc), q_same H H1 → va_S A0 H0 H1 locs1 → W p l e R s m args below meth c H1 locs1 cells slots Q (F0 m (pc + 3) ls rest)) : W p l e R s m args below meth c H locs cells slots Q (F0 m pc ls st0) := by
  subst hst
  refine va_callv (va_runS S hM cw ⟨q_B_blind, fun U hU hW => ⟨rfl, by rw [hU]; exact hP, va_K.moved hW.alike hK⟩⟩ rfl hn hsize rfl (lv_room hW) hdg ⟨hc, hs⟩) hS (fun q _ h => h.elim) (fun q h => h.elim) (fun u t H1 locs1 ht hvm hw hB hz hk hS1 => ?_)
  exact kk H1 locs1 ⟨hz, fun q hq => hk q hq (fun h => h)⟩ hS1
end MEN
