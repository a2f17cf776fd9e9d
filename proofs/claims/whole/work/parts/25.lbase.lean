/-! own rows: the law's wrappers (a call, its answer into out[0], a code for each exception): their two kinds of contract -/
def bL (b : Bool) : Int64 := if b = true then 1 else 0
abbrev lw (cI cJ : ClassId) (ad : Nat → Nat) (o : Nat) (n w t pa pe : Int32) (f0 f1 f2 f3 f4 : Nat → Int32) (fo : Nat → Int64) : va_W :=
  [(ad 0, .inr (0, [.ref (ad 1), .ref (ad 2), .ref (ad 3), .int n, .ref (ad 4), .ref (ad 5), .int w, .int t, .int pa, .int pe])), (ad 1, .inl (cI, 24, .inl f0)), (ad 2, .inl (cI, 24, .inl f1)), (ad 3, .inl (cI, 24, .inl f2)), (ad 4, .inl (cI, 24, .inl f3)), (ad 5, .inl (cI, 24, .inl f4)), (o, .inl (cJ, 1, .inr (.inl fo)))]
def l_N (U : State) : Prop := va_Nc t_IA t_IO U ∧ va_Nc t_IS t_IO U ∧ va_Nc t_IS t_IA U
theorem l_N.moved {u U : State} (hvm : u.vm.Alike U.vm) (h : l_N u) : l_N U := ⟨h.1.moved hvm, h.2.1.moved hvm, h.2.2.moved hvm⟩
def l_B (D : va_G) (tys : List (ClassId × FieldType)) (W0 : va_W) (sa : Nat → Nat) (U : State) : Prop := t_B D tys W0 sa U ∧ l_N U
theorem l_B_blind {D : va_G} {tys : List (ClassId × FieldType)} {W0 : va_W} {sa : Nat → Nat} {av : List Value} : FrameBlind (va_Pc av (l_B D tys W0 sa)) := fun a U g mk q => ⟨q.1, (t_B_blind (av := av) a U g mk ⟨q.1, q.2.1⟩).2, l_N.moved (u := U) (U := U.calling g mk a) (Vm.Alike.refl U.vm) q.2.2⟩
/-- a wrapper whose call throws: it answers k, nothing old is changed -/
def l_X (l : Launch) (y : MethodName) (ws : List Cond) (rm : Room) (D : va_G) (tys : List (ClassId × FieldType)) (W0 : va_W) (av : List Value) (sa : Nat → Nat) (k : Int32) : Prop :=
  Met l y ws rm (va_Pc av (l_B D tys W0 sa)) (va_Qi (fun r (_ : Unit) => r = k) (fun _ _ => True) q_no) 1 6 q_no
def l_EX (below : List Frame) (args : Array Value) (s : State) (k : Int32) : State → Prop := MQ below (va_Qi (fun r (_ : Unit) => r = k) (fun _ _ => True) q_no) args s 1 6 q_no
section LST
variable {l : Launch} {y : MethodName} {ws ws' : List Cond} {rm : Room} {D : va_G} {tys : List (ClassId × FieldType)} {W0 W1 : va_W} {av : List Value} {cc : ByteArray} {maxL : Nat} {hh : List (Nat × Nat × Nat × Nat)}
theorem l_startI {v : Int32} (hy : plainName y.cls = true) (hw : ws = Cond.codeWith y cc maxL (some .int) hh :: ws') (hn : (lg_sl av).length ≤ maxL)
    (body : ∀ p e s m below meth c (A : Nat → Prop), p.tables.exec = Jvm.exec → c.code = cc → c.maxLocals = maxL → meth.sig.returnType = some .int → (∀ w ∈ ws, w.before av.toArray s = true) → s.vm.findClass y.cls = some m.cls → meth.locks = false → va_K D vwCl tys s → (∀ q : Nat, s.heap.size ≤ q → A q) →
      ∀ (H : Heap) (locs : List Loc) (ls : Array Slot), va_P D vwCl W0 H → va_D A W0 → va_S A s.heap H locs → lv_has ls maxL (lv_args 0 av) → W p l e rm s m av.toArray below meth c H locs 0 0 (m_EI D below av.toArray s v W1 A) (F0 m 0 ls [])) : m_I l y ws rm D tys W0 av v W1 := by
  intro sz
  refine va_MetW (cc := cc) (maxL := maxL) (ret := some .int) (hh := hh) hy hw ?_
  intro p e s m args below meth c s₁ B hml hv
  obtain ⟨rfl, hsz, ⟨hP, hK⟩, hD⟩ := hv
  rw [lg_entry_eq]
  subst hsz
  exact body p e s m below meth c (va_A W0 s.heap.size) B.exec B.bytes hml B.returns (atoms_spec (ws := ws) B.pre) (findClass_of_methodNamed B.named) B.notSynchronized hK (fun q h => Or.inr h) s.heap [] _ hP hD.self va_S.rf (lv_entry av hn)
theorem l_startX {sa : Nat → Nat} {k : Int32} (hy : plainName y.cls = true) (hw : ws = Cond.codeWith y cc maxL (some .int) hh :: ws') (hn : (lg_sl av).length ≤ maxL)
    (body : ∀ p e s m below meth c, p.tables.exec = Jvm.exec → c.code = cc → c.maxLocals = maxL → meth.sig.returnType = some .int → (∀ w ∈ ws, w.before av.toArray s = true) → s.vm.findClass y.cls = some m.cls → meth.locks = false → c.exceptionTable.toList = tableOf hh → va_K D vwCl tys s → t_Z sa s s.heap → l_N s →
      ∀ (H : Heap) (locs : List Loc) (ls : Array Slot), va_P D vwCl W0 H → va_S q_no s.heap H locs → lv_has ls maxL (lv_args 0 av) → W p l e rm s m av.toArray below meth c H locs 0 0 (l_EX below av.toArray s k) (F0 m 0 ls [])) : l_X l y ws rm D tys W0 av sa k := by
  refine va_MetW (cc := cc) (maxL := maxL) (ret := some .int) (hh := hh) hy hw ?_
  intro p e s m args below meth c s₁ B hml hv
  obtain ⟨rfl, ⟨⟨hP, hK⟩, hZ⟩, hN⟩ := hv
  rw [lg_entry_eq]
  have hts := atoms_spec (ws := ws) B.pre
  exact body p e s m below meth c B.exec B.bytes hml B.returns hts (findClass_of_methodNamed B.named) B.notSynchronized (vx_table (x := y) B (hts _ (by rw [hw]; exact List.mem_cons_self))) hK hZ hN s.heap [] _ hP va_S.rf (lv_entry av hn)
end LST
section LEN
variable {p : Program} {l : Launch} {e : Env} {R : Room} {s : State} {m : MethodId} {args : Array Value} {below : List Frame} {meth : Method} {c : Code} {H : Heap} {locs : List Loc} {cells slots : Nat} {Q : State → Prop}
variable {cc bytes : ByteArray} {pc : Nat} {ls : Array Slot} {D : va_G} {W0 W1 : va_W} {sa : Nat → Nat} {E : String}
theorem l_retX {v w : Int32} (hx : p.tables.exec = Jvm.exec) (hb : c.code = cc) (hr : meth.sig.returnType = some .int) (hlocks : meth.locks = false) (hS : va_S q_no s.heap H locs) (hv : v = w) (hdg : decode cc pc = .ok (.ireturn, 1)) : W p l e R s m args below meth c H locs 1 6 (l_EX below args s w) (F0 m pc ls [.int v]) := by
  subst hv
  exact W.iret hx hb hr (fun t ht hW => ⟨⟨v, (), rfl, rfl, trivial⟩, hS.F ht⟩) hS.2.2 hdg hlocks
variable {y : MethodName} {maxL nL n index : Nat} {ret : Option FieldType} {ws : List Cond} {rm : Room} {Ts : List Cond} {own C name : String} {b : Addr} {As rest st0 : List Value} {tys : List (ClassId × FieldType)} {A0 : Nat → Prop} {Wf Wr W2 : va_W}
/-- a call that throws E, caught here by the row x of the table -/
theorem l_callX (S : CallFix p m c cc nL s args Ts own) (hM : tw_T l y ws rm D tys W0 (.ref b :: As) sa E) (cw : CallW R s args own C index y bytes maxL ret ws rm 1 6 n)
    (hcB : ∃ cellB : Cell, H[b]? = some cellB ∧ cellB.vm.isStatics = false ∧ s.vm.findClass C = some cellB.cls) (hP : va_P D vwCl W0 H) (hK : va_K D vwCl tys s) (hZ : t_Z sa s s.heap)
    (hn : As.length = n) (hsize : ls.size = nL) (hst : st0 = As.reverse ++ .ref b :: rest) (hW : (rest.map fun v => v.category).sum ≤ 8) (hdg : decode cc pc = .ok (.invokevirtual index, 3)) (hc : 1 ≤ R.cells) (hs : 6 ≤ R.slots) (hS : va_S q_no s.heap H locs)
    (pre : List ExceptionTableEntry) (x : ExceptionTableEntry) (suf : List ExceptionTableEntry) (hsplit : c.exceptionTable.toList = pre ++ x :: suf)
    (hpass : ∀ z ∈ pre, covers z pc = false ∨ (z.catchType ≠ 0 ∧ ∃ nm : String, (Cond.classLink own z.catchType nm).before args s = true ∧ va_Nc E nm s)) (hcov : covers x pc = true) (h0 : x.catchType ≠ 0)
    (hlink : (Cond.classLink own x.catchType E).before args s = true) (hE : E = t_IO ∨ E = t_IA ∨ E = t_IS)
    (kk : ∀ (q9 : Nat) (H1 : Heap) (locs1 : List Loc), va_S q_no s.heap H1 locs1 → W p l e R s m args below meth c H1 locs1 1 6 Q (F0 m x.handlerPc ls [.ref q9])) : W p l e R s m args below meth c H locs 0 0 Q (F0 m pc ls st0) := by
  subst hst
  have hr := vx_runV (e := e) (below := below) (meth := meth) (locs := locs) (cells := 0) (slots := 0) (g := F0 m pc ls (As.reverse ++ .ref b :: rest)) S hM cw ⟨t_B_blind, hcB, fun U hU hW => ⟨rfl, ⟨by rw [hU]; exact hP, va_K.moved hW.alike hK⟩, by rw [hU]; exact (hZ.kept fun a ha => hS.2.1 a ha (fun h => h)).warm hW⟩⟩ rfl hn hsize rfl (lv_room hW) hdg ⟨by omega, by omega⟩
  intro T hT X
  rcases hr T hT X with ⟨v, st₀, t, T', L, h0, X', hL, e1, e2, hF, st⟩ | ⟨q, st₀, t, T', L, E2, ce, h0', X', hL, e1, e2, ⟨u, hp, hE2, hF⟩, hce, hcv, hcl, st⟩
  · exact hF.elim
  · obtain ⟨k1, k2, k3⟩ := vx_keep h0' e1 hS (fun q _ h => h) (fun q h => h) hL hF
    have hE3 : E2 = E := hE2
    subst hE3
    obtain ⟨t2, a1, b1⟩ := vx_catch (p := p) (l := l) (e := e) (R := R) (args := args) (below := below) (pc := pc) (ls := ls) (rest := rest) (own := own) (name := E2) S.2.2.2.1 pre x suf hsplit hpass hcov h0 hlink (va_Nw.use rfl (hZ.2.2.1 E2 hE)) (by rw [e1]; exact hce) hcv hcl (kk q T'.heap (locs ++ L) k3) T' rfl X'
    exact ⟨t2, st.trans a1, b1⟩
/-- the law's call of a wrapper whose call doesn't throw -/
theorem l_callI {v : Int32} {hh : List (Nat × Nat × Nat × Nat)} (S : CallFix p m c cc nL s args Ts own) (hM : m_I l y ws rm D tys W0 As v W1) (cw : vx_CSW R s args own index y bytes maxL ret hh ws rm 0 0 n)
    (hP : va_P D vwCl Wf H) (hD : va_D A0 Wf) (hK : va_K D vwCl tys s) (hA : ∀ q : Nat, s.heap.size ≤ q → A0 q)
    (isC isR perm : List Nat) (hC : isC.map (fun i => Wf[i]?) = W0.map some) (hC2 : isC.filterMap (fun i => Wf[i]?) = W0) (hR : isR.map (fun i => Wf[i]?) = Wr.map some) (hnC : va_nd isC = true) (hnR : va_nd isR = true) (hdis : ∀ i ∈ isR, i ∉ isC) (ha : W1.map Prod.fst = W0.map Prod.fst) (hs2 : perm.filterMap (fun i => (Wr ++ W1)[i]?) = W2)
    (hn : As.length = n) (hsize : ls.size = nL) (hst : st0 = As.reverse ++ rest) (hW : (rest.map fun v => v.category).sum ≤ 8) (hdg : decode cc pc = .ok (.invokestatic index, 3)) (hc : cells ≤ R.cells) (hs : slots ≤ R.slots) (hS : va_S A0 s.heap H locs)
    (kk : ∀ (H1 : Heap) (locs1 : List Loc), va_P D vwCl W2 H1 → va_S A0 s.heap H1 locs1 → W p l e R s m args below meth c H1 locs1 cells slots Q (F0 m (pc + 3) ls (.int v :: rest))) : W p l e R s m args below meth c H locs cells slots Q (F0 m pc ls st0) := by
  subst hst
  have hF := va_free (wc := W0) hD hS hA isC hC
  refine va_calli (vx_runSW S (hM H.size) cw ⟨m_B_blind, fun U hU hW => ⟨rfl, by rw [hU], ⟨by rw [hU]; exact hP.sub isC hC2, va_K.moved hW.alike hK⟩, (hD.sub isC hnC hC).weaken fun _ _ _ _ => trivial⟩⟩ rfl hn hsize rfl (lv_room hW) hdg ⟨hc, hs⟩) hS (fun q _ h => hF q h) hF (fun r u t H1 locs1 ht hvm hw hB hz hk hS1 => ?_)
  subst hw
  exact kk H1 locs1 (m_after hP hD isC isR perm hC hR hnC hnR hdis ha hk hF (by rw [← ht]; exact hB) hs2) hS1
/-- .. and of one whose call throws -/
theorem l_callE {v : Int32} {hh : List (Nat × Nat × Nat × Nat)} (S : CallFix p m c cc nL s args Ts own) (hM : l_X l y ws rm D tys W0 As sa v) (cw : vx_CSW R s args own index y bytes maxL ret hh ws rm 1 6 n)
    (hP : va_P D vwCl W0 H) (hK : va_K D vwCl tys s) (hZ : t_Z sa s H) (hN : l_N s)
    (hn : As.length = n) (hsize : ls.size = nL) (hst : st0 = As.reverse ++ rest) (hW : (rest.map fun v => v.category).sum ≤ 8) (hdg : decode cc pc = .ok (.invokestatic index, 3)) (hc : cells + 1 ≤ R.cells) (hs : slots + 6 ≤ R.slots) (hS : va_S A0 s.heap H locs)
    (kk : ∀ (H1 : Heap) (locs1 : List Loc), q_same H H1 → va_S A0 s.heap H1 locs1 → W p l e R s m args below meth c H1 locs1 (cells + 1) (slots + 6) Q (F0 m (pc + 3) ls (.int v :: rest))) : W p l e R s m args below meth c H locs cells slots Q (F0 m pc ls st0) := by
  subst hst
  refine va_calli (vx_runSW S hM cw ⟨l_B_blind, fun U hU hW => ⟨rfl, ⟨⟨by rw [hU]; exact hP, va_K.moved hW.alike hK⟩, by rw [hU]; exact hZ.warm hW⟩, hN.moved hW.alike⟩⟩ rfl hn hsize rfl (lv_room hW) hdg ⟨hc, hs⟩) hS (fun q _ h => h.elim) (fun q h => h.elim) (fun r u t H1 locs1 ht hvm hw hB hz hk hS1 => ?_)
  subst hw
  exact kk H1 locs1 ⟨hz, fun q hq => hk q hq (fun h => h)⟩ hS1
end LEN
