/-! own rows: writing methods that answer a long or a double, that may make cells -/
def m_L (l : Launch) (y : MethodName) (ws : List Cond) (rm : Room) (D : va_G) (tys : List (ClassId × FieldType)) (W0 : va_W) (av : List Value) (v : Int64) (W1 : va_W) (mc ms : Nat) : Prop :=
  ∀ sz : Nat, Met l y ws rm (va_Pc av (m_B D tys W0 sz)) (va_Ql (fun r (_ : Unit) => r = v) (fun _ t => va_P D vwCl W1 t.heap) (va_A W0 sz)) mc ms (va_A W0 sz)
def m_F (l : Launch) (y : MethodName) (ws : List Cond) (rm : Room) (D : va_G) (tys : List (ClassId × FieldType)) (W0 : va_W) (av : List Value) (v : UInt64) (W1 : va_W) : Prop :=
  ∀ sz : Nat, Met l y ws rm (va_Pc av (m_B D tys W0 sz)) (va_Qd (fun r (_ : Unit) => r = v) (fun _ t => va_P D vwCl W1 t.heap) (va_A W0 sz)) 0 0 (va_A W0 sz)
def m_EL (D : va_G) (below : List Frame) (args : Array Value) (s : State) (v : Int64) (W1 : va_W) (A : Nat → Prop) (mc ms : Nat) : State → Prop := MQ below (va_Ql (fun r (_ : Unit) => r = v) (fun _ t => va_P D vwCl W1 t.heap) A) args s mc ms A
def m_EF (D : va_G) (below : List Frame) (args : Array Value) (s : State) (v : UInt64) (W1 : va_W) (A : Nat → Prop) : State → Prop := MQ below (va_Qd (fun r (_ : Unit) => r = v) (fun _ t => va_P D vwCl W1 t.heap) A) args s 0 0 A
section M2T
variable {l : Launch} {y : MethodName} {ws ws' : List Cond} {rm : Room} {D : va_G} {tys : List (ClassId × FieldType)} {W0 W1 : va_W} {av : List Value} {cc : ByteArray} {maxL : Nat}
theorem m_startL {v : Int64} {mc ms : Nat} {rt : FieldType} (hy : plainName y.cls = true) (hw : ws = Cond.code y cc maxL (some rt) :: ws') (hn : (lg_sl av).length ≤ maxL)
    (body : ∀ p e s m below meth c (A : Nat → Prop), p.tables.exec = Jvm.exec → c.code = cc → c.maxLocals = maxL → meth.sig.returnType = some rt → (∀ w ∈ ws, w.before av.toArray s = true) → s.vm.findClass y.cls = some m.cls → meth.locks = false → va_K D vwCl tys s → (∀ q : Nat, s.heap.size ≤ q → A q) →
      ∀ (H : Heap) (locs : List Loc) (ls : Array Slot), va_P D vwCl W0 H → va_D A W0 → va_S A s.heap H locs → lv_has ls maxL (lv_args 0 av) → W p l e rm s m av.toArray below meth c H locs 0 0 (m_EL D below av.toArray s v W1 A mc ms) (F0 m 0 ls [])) : m_L l y ws rm D tys W0 av v W1 mc ms := by
  intro sz
  refine Met.ofW (cc := cc) (maxL := maxL) (ret := some rt) hy hw ?_
  intro p e s m args below meth c s₁ B hml hv
  obtain ⟨rfl, hsz, ⟨hP, hK⟩, hD⟩ := hv
  rw [lg_entry_eq]
  subst hsz
  exact body p e s m below meth c (va_A W0 s.heap.size) B.exec B.bytes hml B.returns (atoms_spec (ws := ws) B.pre) (findClass_of_methodNamed B.named) B.notSynchronized hK (fun q h => Or.inr h) s.heap [] _ hP hD.self va_S.rf (lv_entry av hn)
theorem m_startF {v : UInt64} {rt : FieldType} (hy : plainName y.cls = true) (hw : ws = Cond.code y cc maxL (some rt) :: ws') (hn : (lg_sl av).length ≤ maxL)
    (body : ∀ p e s m below meth c (A : Nat → Prop), p.tables.exec = Jvm.exec → c.code = cc → c.maxLocals = maxL → meth.sig.returnType = some rt → (∀ w ∈ ws, w.before av.toArray s = true) → s.vm.findClass y.cls = some m.cls → meth.locks = false → va_K D vwCl tys s → (∀ q : Nat, s.heap.size ≤ q → A q) →
      ∀ (H : Heap) (locs : List Loc) (ls : Array Slot), va_P D vwCl W0 H → va_D A W0 → va_S A s.heap H locs → lv_has ls maxL (lv_args 0 av) → W p l e rm s m av.toArray below meth c H locs 0 0 (m_EF D below av.toArray s v W1 A) (F0 m 0 ls [])) : m_F l y ws rm D tys W0 av v W1 := by
  intro sz
  refine Met.ofW (cc := cc) (maxL := maxL) (ret := some rt) hy hw ?_
  intro p e s m args below meth c s₁ B hml hv
  obtain ⟨rfl, hsz, ⟨hP, hK⟩, hD⟩ := hv
  rw [lg_entry_eq]
  subst hsz
  exact body p e s m below meth c (va_A W0 s.heap.size) B.exec B.bytes hml B.returns (atoms_spec (ws := ws) B.pre) (findClass_of_methodNamed B.named) B.notSynchronized hK (fun q h => Or.inr h) s.heap [] _ hP hD.self va_S.rf (lv_entry av hn)
end M2T
section M2E
variable {p : Program} {l : Launch} {e : Env} {R : Room} {s : State} {m : MethodId} {args : Array Value} {below : List Frame} {meth : Method} {c : Code} {H : Heap} {locs : List Loc} {cells slots : Nat} {Q : State → Prop}
variable {cc : ByteArray} {pc : Nat} {ls : Array Slot} {D : va_G} {W0 W1 : va_W} {A : Nat → Prop}
theorem m_retL {v w : Int64} {mc ms : Nat} (hx : p.tables.exec = Jvm.exec) (hb : c.code = cc) (hr : meth.sig.returnType = some .long) (hlocks : meth.locks = false) (hS : va_S A s.heap H locs) (hP : va_P D vwCl W1 H) (hv : v = w) (hdg : decode cc pc = .ok (.lreturn, 1)) : W p l e R s m args below meth c H locs mc ms (m_EL D below args s w W1 A mc ms) (F0 m pc ls [.long v]) := by
  subst hv
  exact W.lret hx hb hr (fun t ht hW => ⟨⟨v, (), rfl, rfl, by show va_P D vwCl W1 t.heap; rw [ht]; exact hP⟩, hS.F ht⟩) hS.2.2 hdg hlocks
theorem m_retF {v w : UInt64} (hx : p.tables.exec = Jvm.exec) (hb : c.code = cc) (hr : meth.sig.returnType = some .double) (hlocks : meth.locks = false) (hS : va_S A s.heap H locs) (hP : va_P D vwCl W1 H) (hv : v = w) (hdg : decode cc pc = .ok (.dreturn, 1)) : W p l e R s m args below meth c H locs 0 0 (m_EF D below args s w W1 A) (F0 m pc ls [.double v]) := by
  subst hv
  exact W.dret hx hb hr (fun t ht hW => ⟨⟨v, (), rfl, rfl, by show va_P D vwCl W1 t.heap; rw [ht]; exact hP⟩, hS.F ht⟩) hS.2.2 hdg hlocks
variable {y : MethodName} {bytes : ByteArray} {maxL nL n index : Nat} {ret : Option FieldType} {ws : List Cond} {rm : Room} {Ts : List Cond} {own C : String} {b : Addr} {As rest st0 : List Value} {tys : List (ClassId × FieldType)} {A0 : Nat → Prop} {H0 : Heap} {Wf Wr W2 : va_W}
theorem m_callVL {v : Int64} {mc ms : Nat} (S : CallFix p m c cc nL s args Ts own) (hM : m_L l y ws rm D tys W0 (.ref b :: As) v W1 mc ms) (cw : CallW R s args own C index y bytes maxL ret ws rm mc ms n)
    (hcB : ∃ cellB : Cell, H[b]? = some cellB ∧ cellB.vm.isStatics = false ∧ s.vm.findClass C = some cellB.cls) (hP : va_P D vwCl Wf H) (hD : va_D A0 Wf) (hK : va_K D vwCl tys s) (hA : ∀ q : Nat, s.heap.size ≤ q → A0 q)
    (isC isR perm : List Nat) (hC : isC.map (fun i => Wf[i]?) = W0.map some) (hC2 : isC.filterMap (fun i => Wf[i]?) = W0) (hR : isR.map (fun i => Wf[i]?) = Wr.map some) (hnC : va_nd isC = true) (hnR : va_nd isR = true) (hdis : ∀ i ∈ isR, i ∉ isC) (ha : W1.map Prod.fst = W0.map Prod.fst) (hs2 : perm.filterMap (fun i => (Wr ++ W1)[i]?) = W2)
    (hn : As.length = n) (hsize : ls.size = nL) (hst : st0 = As.reverse ++ .ref b :: rest) (hW : (rest.map fun v => v.category).sum ≤ 8) (hdg : decode cc pc = .ok (.invokevirtual index, 3)) (hc : cells + mc ≤ R.cells) (hs : slots + ms ≤ R.slots) (hS : va_S A0 s.heap H locs)
    (kk : ∀ (H1 : Heap) (locs1 : List Loc), va_P D vwCl W2 H1 → va_S A0 s.heap H1 locs1 → W p l e R s m args below meth c H1 locs1 (cells + mc) (slots + ms) Q (F0 m (pc + 3) ls (.long v :: rest))) : W p l e R s m args below meth c H locs cells slots Q (F0 m pc ls st0) := by
  subst hst
  have hF := va_free (wc := W0) hD hS hA isC hC
  refine va_calll (va_runV S (hM H.size) cw ⟨m_B_blind, hcB, fun U hU hW => ⟨rfl, by rw [hU], ⟨by rw [hU]; exact hP.sub isC hC2, va_K.moved hW.alike hK⟩, (hD.sub isC hnC hC).weaken fun _ _ _ _ => trivial⟩⟩ rfl hn hsize rfl (lv_room hW) hdg ⟨hc, hs⟩) hS (fun q _ h => hF q h) hF (fun r u t H1 locs1 ht hvm hw hB hz hk hS1 => ?_)
  subst hw
  exact kk H1 locs1 (m_after hP hD isC isR perm hC hR hnC hnR hdis ha hk hF (by rw [← ht]; exact hB) hs2) hS1
theorem m_callVF {v : UInt64} (S : CallFix p m c cc nL s args Ts own) (hM : m_F l y ws rm D tys W0 (.ref b :: As) v W1) (cw : CallW R s args own C index y bytes maxL ret ws rm 0 0 n)
    (hcB : ∃ cellB : Cell, H[b]? = some cellB ∧ cellB.vm.isStatics = false ∧ s.vm.findClass C = some cellB.cls) (hP : va_P D vwCl Wf H) (hD : va_D A0 Wf) (hK : va_K D vwCl tys s) (hA : ∀ q : Nat, s.heap.size ≤ q → A0 q)
    (isC isR perm : List Nat) (hC : isC.map (fun i => Wf[i]?) = W0.map some) (hC2 : isC.filterMap (fun i => Wf[i]?) = W0) (hR : isR.map (fun i => Wf[i]?) = Wr.map some) (hnC : va_nd isC = true) (hnR : va_nd isR = true) (hdis : ∀ i ∈ isR, i ∉ isC) (ha : W1.map Prod.fst = W0.map Prod.fst) (hs2 : perm.filterMap (fun i => (Wr ++ W1)[i]?) = W2)
    (hn : As.length = n) (hsize : ls.size = nL) (hst : st0 = As.reverse ++ .ref b :: rest) (hW : (rest.map fun v => v.category).sum ≤ 8) (hdg : decode cc pc = .ok (.invokevirtual index, 3)) (hc : cells ≤ R.cells) (hs : slots ≤ R.slots) (hS : va_S A0 s.heap H locs)
    (kk : ∀ (H1 : Heap) (locs1 : List Loc), va_P D vwCl W2 H1 → va_S A0 s.heap H1 locs1 → W p l e R s m args below meth c H1 locs1 cells slots Q (F0 m (pc + 3) ls (.double v :: rest))) : W p l e R s m args below meth c H locs cells slots Q (F0 m pc ls st0) := by
  subst hst
  have hF := va_free (wc := W0) hD hS hA isC hC
  refine va_calld (va_runV S (hM H.size) cw ⟨m_B_blind, hcB, fun U hU hW => ⟨rfl, by rw [hU], ⟨by rw [hU]; exact hP.sub isC hC2, va_K.moved hW.alike hK⟩, (hD.sub isC hnC hC).weaken fun _ _ _ _ => trivial⟩⟩ rfl hn hsize rfl (lv_room hW) hdg ⟨hc, hs⟩) hS (fun q _ h => hF q h) hF (fun r u t H1 locs1 ht hvm hw hB hz hk hS1 => ?_)
  subst hw
  exact kk H1 locs1 (m_after hP hD isC isR perm hC hR hnC hnR hdis ha hk hF (by rw [← ht]; exact hB) hs2) hS1
end M2E
theorem q_Dc {A : Nat → Prop} {W W' : va_W} {L : List Nat} (hD : va_D A W) (h1 : W.map Prod.fst = L) (h2 : W'.map Prod.fst = L) : va_D A W' := q_Dcong hD (h2.trans h1.symm)
