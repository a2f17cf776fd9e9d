/-! own rows: contracts over any picture: methods that only read (p_I), methods that make and write cells (e_V, e_I, e_R); their calls -/
def p_mv (Pr : State → Prop) : Prop := ∀ u U : State, U.heap = u.heap → U.vm = u.vm → Pr u → Pr U
theorem p_mvH {Z : Heap → Prop} : p_mv (fun U => Z U.heap) := fun u U h _ hz => by show Z U.heap; rw [h]; exact hz
def p_B (D : va_G) (tys : List (ClassId × FieldType)) (Pr : State → Prop) (U : State) : Prop := Pr U ∧ va_K D vwCl tys U
def e_B (D : va_G) (tys : List (ClassId × FieldType)) (Pr : State → Prop) (sz : Nat) (U : State) : Prop := U.heap.size = sz ∧ Pr U ∧ va_K D vwCl tys U ∧ n_O U
theorem p_blind {D : va_G} {tys : List (ClassId × FieldType)} {Pr : State → Prop} {av : List Value} (hm : p_mv Pr) : FrameBlind (va_Pc av (p_B D tys Pr)) := fun a U g mk q => ⟨q.1, hm U (U.calling g mk a) rfl rfl q.2.1, va_K.moved (u := U) (U := U.calling g mk a) (Vm.Alike.refl U.vm) q.2.2⟩
theorem e_blind {D : va_G} {tys : List (ClassId × FieldType)} {Pr : State → Prop} {sz : Nat} {av : List Value} (hm : p_mv Pr) : FrameBlind (va_Pc av (e_B D tys Pr sz)) := fun a U g mk q => ⟨q.1, q.2.1, hm U (U.calling g mk a) rfl rfl q.2.2.1, va_K.moved (u := U) (U := U.calling g mk a) (Vm.Alike.refl U.vm) q.2.2.2.1, n_O.moved (u := U) (U := U.calling g mk a) (Vm.Alike.refl U.vm) q.2.2.2.2⟩
def p_I (l : Launch) (y : MethodName) (ws : List Cond) (rm : Room) (D : va_G) (tys : List (ClassId × FieldType)) (Pr : State → Prop) (av : List Value) (v : Int32) : Prop :=
  Met l y ws rm (va_Pc av (p_B D tys Pr)) (va_Qi (fun r (_ : Unit) => r = v) (fun _ _ => True) q_no) 0 0 q_no
def e_F (F : Nat → Prop) (sz : Nat) : Nat → Prop := fun q => F q ∨ sz ≤ q
def e_V {S : Type} (l : Launch) (y : MethodName) (ws : List Cond) (rm : Room) (D : va_G) (tys : List (ClassId × FieldType)) (Pr : State → Prop) (av : List Value) (F : Nat → Prop) (mc ms : Nat) (Po : Nat → S → Heap → Prop) : Prop :=
  ∀ sz : Nat, Met l y ws rm (va_Pc av (e_B D tys Pr sz)) (va_Qv (fun (_ : S) => True) (fun u t => Po sz u t.heap) (e_F F sz)) mc ms (e_F F sz)
def e_I {S : Type} (l : Launch) (y : MethodName) (ws : List Cond) (rm : Room) (D : va_G) (tys : List (ClassId × FieldType)) (Pr : State → Prop) (av : List Value) (v : Int32) (F : Nat → Prop) (mc ms : Nat) (Po : Nat → S → Heap → Prop) : Prop :=
  ∀ sz : Nat, Met l y ws rm (va_Pc av (e_B D tys Pr sz)) (va_Qi (fun r (_ : S) => r = v) (fun u t => Po sz u t.heap) (e_F F sz)) mc ms (e_F F sz)
def e_R {S : Type} (l : Launch) (y : MethodName) (ws : List Cond) (rm : Room) (D : va_G) (tys : List (ClassId × FieldType)) (Pr : State → Prop) (av : List Value) (F : Nat → Prop) (mc ms : Nat) (Po : Nat → S → Nat → Heap → Prop) : Prop :=
  ∀ sz : Nat, Met l y ws rm (va_Pc av (e_B D tys Pr sz)) (va_Qr (fun (_ : S) => True) (fun u a t => Po sz u a t.heap) (e_F F sz)) mc ms (e_F F sz)
def e_EV {S : Type} (below : List Frame) (args : Array Value) (s : State) (F : Nat → Prop) (mc ms : Nat) (Po : Nat → S → Heap → Prop) : State → Prop := MQ below (va_Qv (fun (_ : S) => True) (fun u t => Po s.heap.size u t.heap) (e_F F s.heap.size)) args s mc ms (e_F F s.heap.size)
def e_EI {S : Type} (below : List Frame) (args : Array Value) (s : State) (v : Int32) (F : Nat → Prop) (mc ms : Nat) (Po : Nat → S → Heap → Prop) : State → Prop := MQ below (va_Qi (fun r (_ : S) => r = v) (fun u t => Po s.heap.size u t.heap) (e_F F s.heap.size)) args s mc ms (e_F F s.heap.size)
def e_ER {S : Type} (below : List Frame) (args : Array Value) (s : State) (F : Nat → Prop) (mc ms : Nat) (Po : Nat → S → Nat → Heap → Prop) : State → Prop := MQ below (va_Qr (fun (_ : S) => True) (fun u a t => Po s.heap.size u a t.heap) (e_F F s.heap.size)) args s mc ms (e_F F s.heap.size)
section EST
variable {l : Launch} {y : MethodName} {ws ws' : List Cond} {rm : Room} {D : va_G} {tys : List (ClassId × FieldType)} {Pr : State → Prop} {av : List Value} {cc : ByteArray} {maxL : Nat} {S : Type} {F : Nat → Prop} {mc ms : Nat}
theorem p_startI {v : Int32} {rt : FieldType} (hy : plainName y.cls = true) (hw : ws = Cond.code y cc maxL (some rt) :: ws') (hn : (lg_sl av).length ≤ maxL)
    (body : ∀ p e s m below meth c, p.tables.exec = Jvm.exec → c.code = cc → c.maxLocals = maxL → meth.sig.returnType = some rt → (∀ w ∈ ws, w.before av.toArray s = true) → s.vm.findClass y.cls = some m.cls → meth.locks = false → va_K D vwCl tys s → Pr s →
      ∀ (locs : List Loc) (ls : Array Slot), va_S q_no s.heap s.heap locs → lv_has ls maxL (lv_args 0 av) → W p l e rm s m av.toArray below meth c s.heap locs 0 0 (q_EI below av.toArray s v) (F0 m 0 ls [])) : p_I l y ws rm D tys Pr av v := by
  refine Met.ofW (cc := cc) (maxL := maxL) (ret := some rt) hy hw ?_
  intro p e s m args below meth c s₁ B hml hv
  obtain ⟨rfl, hP, hK⟩ := hv
  rw [lg_entry_eq]
  exact body p e s m below meth c B.exec B.bytes hml B.returns (atoms_spec (ws := ws) B.pre) (findClass_of_methodNamed B.named) B.notSynchronized hK hP [] _ va_S.rf (lv_entry av hn)
theorem e_startV {Po : Nat → S → Heap → Prop} (hy : plainName y.cls = true) (hw : ws = Cond.code y cc maxL none :: ws') (hn : (lg_sl av).length ≤ maxL)
    (body : ∀ p e s m below meth c, p.tables.exec = Jvm.exec → c.code = cc → c.maxLocals = maxL → meth.sig.returnType = none → (∀ w ∈ ws, w.before av.toArray s = true) → s.vm.findClass y.cls = some m.cls → meth.locks = false → va_K D vwCl tys s → n_O s → Pr s →
      ∀ (locs : List Loc) (ls : Array Slot), va_S (e_F F s.heap.size) s.heap s.heap locs → lv_has ls maxL (lv_args 0 av) → W p l e rm s m av.toArray below meth c s.heap locs 0 0 (e_EV below av.toArray s F mc ms Po) (F0 m 0 ls [])) : e_V l y ws rm D tys Pr av F mc ms Po := by
  intro sz
  refine Met.ofW (cc := cc) (maxL := maxL) (ret := none) hy hw ?_
  intro p e s m args below meth c s₁ B hml hv
  obtain ⟨rfl, hsz, hP, hK, hO⟩ := hv
  rw [lg_entry_eq]
  subst hsz
  exact body p e s m below meth c B.exec B.bytes hml B.returns (atoms_spec (ws := ws) B.pre) (findClass_of_methodNamed B.named) B.notSynchronized hK hO hP [] _ va_S.rf (lv_entry av hn)
theorem e_startI {v : Int32} {rt : FieldType} {Po : Nat → S → Heap → Prop} (hy : plainName y.cls = true) (hw : ws = Cond.code y cc maxL (some rt) :: ws') (hn : (lg_sl av).length ≤ maxL)
    (body : ∀ p e s m below meth c, p.tables.exec = Jvm.exec → c.code = cc → c.maxLocals = maxL → meth.sig.returnType = some rt → (∀ w ∈ ws, w.before av.toArray s = true) → s.vm.findClass y.cls = some m.cls → meth.locks = false → va_K D vwCl tys s → n_O s → Pr s →
      ∀ (locs : List Loc) (ls : Array Slot), va_S (e_F F s.heap.size) s.heap s.heap locs → lv_has ls maxL (lv_args 0 av) → W p l e rm s m av.toArray below meth c s.heap locs 0 0 (e_EI below av.toArray s v F mc ms Po) (F0 m 0 ls [])) : e_I l y ws rm D tys Pr av v F mc ms Po := by
  intro sz
  refine Met.ofW (cc := cc) (maxL := maxL) (ret := some rt) hy hw ?_
  intro p e s m args below meth c s₁ B hml hv
  obtain ⟨rfl, hsz, hP, hK, hO⟩ := hv
  rw [lg_entry_eq]
  subst hsz
  exact body p e s m below meth c B.exec B.bytes hml B.returns (atoms_spec (ws := ws) B.pre) (findClass_of_methodNamed B.named) B.notSynchronized hK hO hP [] _ va_S.rf (lv_entry av hn)
theorem e_startR {rt : FieldType} {Po : Nat → S → Nat → Heap → Prop} (hy : plainName y.cls = true) (hw : ws = Cond.code y cc maxL (some rt) :: ws') (hn : (lg_sl av).length ≤ maxL)
    (body : ∀ p e s m below meth c, p.tables.exec = Jvm.exec → c.code = cc → c.maxLocals = maxL → meth.sig.returnType = some rt → (∀ w ∈ ws, w.before av.toArray s = true) → s.vm.findClass y.cls = some m.cls → meth.locks = false → va_K D vwCl tys s → n_O s → Pr s →
      ∀ (locs : List Loc) (ls : Array Slot), va_S (e_F F s.heap.size) s.heap s.heap locs → lv_has ls maxL (lv_args 0 av) → W p l e rm s m av.toArray below meth c s.heap locs 0 0 (e_ER below av.toArray s F mc ms Po) (F0 m 0 ls [])) : e_R l y ws rm D tys Pr av F mc ms Po := by
  intro sz
  refine Met.ofW (cc := cc) (maxL := maxL) (ret := some rt) hy hw ?_
  intro p e s m args below meth c s₁ B hml hv
  obtain ⟨rfl, hsz, hP, hK, hO⟩ := hv
  rw [lg_entry_eq]
  subst hsz
  exact body p e s m below meth c B.exec B.bytes hml B.returns (atoms_spec (ws := ws) B.pre) (findClass_of_methodNamed B.named) B.notSynchronized hK hO hP [] _ va_S.rf (lv_entry av hn)
end EST
section EEN
variable {p : Program} {l : Launch} {e : Env} {R : Room} {s : State} {m : MethodId} {args : Array Value} {below : List Frame} {meth : Method} {c : Code} {H : Heap} {locs : List Loc} {cells slots : Nat} {Q : State → Prop}
variable {cc : ByteArray} {pc : Nat} {ls : Array Slot} {D : va_G} {A : Nat → Prop} {S : Type} {F : Nat → Prop} {mc ms : Nat}
theorem e_retV {Po : Nat → S → Heap → Prop} (u : S) (hx : p.tables.exec = Jvm.exec) (hb : c.code = cc) (hr : meth.sig.returnType = none) (hlocks : meth.locks = false) (hS : va_S (e_F F s.heap.size) s.heap H locs) (hP : Po s.heap.size u H) (hc : cells ≤ mc) (hs : slots ≤ ms) (hdg : decode cc pc = .ok (.return_, 1)) : W p l e R s m args below meth c H locs cells slots (e_EV below args s F mc ms Po) (F0 m pc ls []) :=
  W.widen (k := mc) (n := ms) hc hs (W.vret hx hb hr (fun t ht hW => ⟨⟨u, rfl, trivial, by show Po s.heap.size u t.heap; rw [ht]; exact hP⟩, hS.F ht⟩) hS.2.2 hdg hlocks)
theorem e_retI {v w : Int32} {Po : Nat → S → Heap → Prop} (u : S) (hx : p.tables.exec = Jvm.exec) (hb : c.code = cc) (hr : meth.sig.returnType = some .int) (hlocks : meth.locks = false) (hS : va_S (e_F F s.heap.size) s.heap H locs) (hP : Po s.heap.size u H) (hv : v = w) (hc : cells ≤ mc) (hs : slots ≤ ms) (hdg : decode cc pc = .ok (.ireturn, 1)) : W p l e R s m args below meth c H locs cells slots (e_EI below args s w F mc ms Po) (F0 m pc ls [.int v]) := by
  subst hv
  exact W.widen (k := mc) (n := ms) hc hs (W.iret hx hb hr (fun t ht hW => ⟨⟨v, u, rfl, rfl, by show Po s.heap.size u t.heap; rw [ht]; exact hP⟩, hS.F ht⟩) hS.2.2 hdg hlocks)
theorem e_retZ {v w : Int32} {Po : Nat → S → Heap → Prop} (u : S) (hx : p.tables.exec = Jvm.exec) (hb : c.code = cc) (hr : meth.sig.returnType = some .boolean) (hlocks : meth.locks = false) (hS : va_S (e_F F s.heap.size) s.heap H locs) (hP : Po s.heap.size u H) (hv : v = w) (hn : w = 0 ∨ w = 1) (hc : cells ≤ mc) (hs : slots ≤ ms) (hdg : decode cc pc = .ok (.ireturn, 1)) : W p l e R s m args below meth c H locs cells slots (e_EI below args s w F mc ms Po) (F0 m pc ls [.int v]) := by
  subst hv
  exact W.widen (k := mc) (n := ms) hc hs (W.zret hx hb hr (by rcases hn with rfl | rfl <;> rfl) (fun t ht hW => ⟨⟨v, u, rfl, rfl, by show Po s.heap.size u t.heap; rw [ht]; exact hP⟩, hS.F ht⟩) hS.2.2 hdg hlocks)
theorem e_retR {rt : FieldType} {a : Nat} {Po : Nat → S → Nat → Heap → Prop} (u : S) (hx : p.tables.exec = Jvm.exec) (hb : c.code = cc) (hr : meth.sig.returnType = some rt) (hrt : (∃ n, rt = FieldType.object n) ∨ ∃ t : FieldType, rt = FieldType.array t) (hlocks : meth.locks = false) (hS : va_S (e_F F s.heap.size) s.heap H locs) (hP : Po s.heap.size u a H) (hc : cells ≤ mc) (hs : slots ≤ ms) (hdg : decode cc pc = .ok (.areturn, 1)) : W p l e R s m args below meth c H locs cells slots (e_ER below args s F mc ms Po) (F0 m pc ls [.ref a]) :=
  W.widen (k := mc) (n := ms) hc hs (W.aret hx hb hr hrt (Or.inr ⟨a, rfl⟩) (fun t ht hW => ⟨⟨u, a, rfl, trivial, by show Po s.heap.size u a t.heap; rw [ht]; exact hP⟩, hS.F ht⟩) hS.2.2 hdg hlocks)
variable {y : MethodName} {bytes : ByteArray} {maxL nL n index : Nat} {ret : Option FieldType} {ws : List Cond} {rm : Room} {Ts : List Cond} {own C : String} {b : Addr} {As rest st0 : List Value} {tys : List (ClassId × FieldType)} {Pr : State → Prop} {A0 : Nat → Prop} {H0 : Heap}
theorem p_callV {v : Int32} (S : CallFix p m c cc nL s args Ts own) (hM : p_I l y ws rm D tys Pr (.ref b :: As) v) (cw : CallW R s args own C index y bytes maxL ret ws rm 0 0 n) (hmv : p_mv Pr)
    (hcB : ∃ cellB : Cell, H[b]? = some cellB ∧ cellB.vm.isStatics = false ∧ s.vm.findClass C = some cellB.cls) (hP : ∀ U : State, U.heap = H → s.WarmedH U.vm → Pr U) (hK : va_K D vwCl tys s)
    (hn : As.length = n) (hsize : ls.size = nL) (hst : st0 = As.reverse ++ .ref b :: rest) (hW : (rest.map fun v => v.category).sum ≤ 8) (hdg : decode cc pc = .ok (.invokevirtual index, 3)) (hc : cells ≤ R.cells) (hs : slots ≤ R.slots) (hS : va_S A0 H0 H locs)
    (kk : ∀ (H1 : Heap) (locs1 : List Loc), q_same H H1 → va_S A0 H0 H1 locs1 → W p l e R s m args below meth c H1 locs1 cells slots Q (F0 m (pc + 3) ls (.int v :: rest))) : W p l e R s m args below meth c H locs cells slots Q (F0 m pc ls st0) := by
  subst hst
  refine va_calli (va_runV S hM cw ⟨p_blind hmv, hcB, fun U hU hW => ⟨rfl, hP U hU hW, va_K.moved hW.alike hK⟩⟩ rfl hn hsize rfl (lv_room hW) hdg ⟨hc, hs⟩) hS (fun q _ h => h.elim) (fun q h => h.elim) (fun r u t H1 locs1 ht hvm hw hB hz hk hS1 => ?_)
  subst hw
  exact kk H1 locs1 ⟨hz, fun q hq => hk q hq (fun h => h)⟩ hS1
theorem p_callS {v : Int32} (S : CallFix p m c cc nL s args Ts own) (hM : p_I l y ws rm D tys Pr As v) (cw : CallB R s args own index y bytes maxL ret ws rm 0 0 n ∧ (Cond.static y).before args s = true) (hmv : p_mv Pr)
    (hP : ∀ U : State, U.heap = H → s.WarmedH U.vm → Pr U) (hK : va_K D vwCl tys s)
    (hn : As.length = n) (hsize : ls.size = nL) (hst : st0 = As.reverse ++ rest) (hW : (rest.map fun v => v.category).sum ≤ 8) (hdg : decode cc pc = .ok (.invokestatic index, 3)) (hc : cells ≤ R.cells) (hs : slots ≤ R.slots) (hS : va_S A0 H0 H locs)
    (kk : ∀ (H1 : Heap) (locs1 : List Loc), q_same H H1 → va_S A0 H0 H1 locs1 → W p l e R s m args below meth c H1 locs1 cells slots Q (F0 m (pc + 3) ls (.int v :: rest))) : W p l e R s m args below meth c H locs cells slots Q (F0 m pc ls st0) := by
  subst hst
  refine va_calli (va_runS S hM cw ⟨p_blind hmv, fun U hU hW => ⟨rfl, hP U hU hW, va_K.moved hW.alike hK⟩⟩ rfl hn hsize rfl (lv_room hW) hdg ⟨hc, hs⟩) hS (fun q _ h => h.elim) (fun q h => h.elim) (fun r u t H1 locs1 ht hvm hw hB hz hk hS1 => ?_)
  subst hw
  exact kk H1 locs1 ⟨hz, fun q hq => hk q hq (fun h => h)⟩ hS1
theorem e_callVV {Z : Type} {Po : Nat → Z → Heap → Prop} (S : CallFix p m c cc nL s args Ts own) (hM : e_V l y ws rm D tys Pr (.ref b :: As) F mc ms Po) (cw : CallW R s args own C index y bytes maxL ret ws rm mc ms n) (hmv : p_mv Pr)
    (hcB : ∃ cellB : Cell, H[b]? = some cellB ∧ cellB.vm.isStatics = false ∧ s.vm.findClass C = some cellB.cls) (hP : ∀ U : State, U.heap = H → s.WarmedH U.vm → Pr U) (hK : va_K D vwCl tys s) (hO : n_O s) (hF : ∀ q, F q → A0 q) (hA : ∀ q : Nat, H0.size ≤ q → A0 q)
    (hn : As.length = n) (hsize : ls.size = nL) (hst : st0 = As.reverse ++ .ref b :: rest) (hW : (rest.map fun v => v.category).sum ≤ 8) (hdg : decode cc pc = .ok (.invokevirtual index, 3)) (hc : cells + mc ≤ R.cells) (hs : slots + ms ≤ R.slots) (hS : va_S A0 H0 H locs)
    (kk : ∀ (u : Z) (H1 : Heap) (locs1 : List Loc), Po H.size u H1 → H.size ≤ H1.size → (∀ q : Nat, q < H.size → ¬ F q → H1[q]? = H[q]?) → va_S A0 H0 H1 locs1 → W p l e R s m args below meth c H1 locs1 (cells + mc) (slots + ms) Q (F0 m (pc + 3) ls rest)) : W p l e R s m args below meth c H locs cells slots Q (F0 m pc ls st0) := by
  subst hst
  have hFA : ∀ q, e_F F H.size q → A0 q := fun q h => h.elim (hF q) (fun h => hA q (Nat.le_trans hS.1 h))
  refine va_callv (va_runV S (hM H.size) cw ⟨e_blind hmv, hcB, fun U hU hW => ⟨rfl, by rw [hU], hP U hU hW, va_K.moved hW.alike hK, n_O.moved hW.alike hO⟩⟩ rfl hn hsize rfl (lv_room hW) hdg ⟨hc, hs⟩) hS (fun q _ h => hFA q h) hFA (fun u t H1 locs1 ht hvm hw hB hz hk hS1 => ?_)
  exact kk u H1 locs1 (by rw [← ht]; exact hB) hz (fun q h1 h2 => hk q h1 (fun h => h.elim h2 (by omega))) hS1
theorem e_callVI {v : Int32} {Z : Type} {Po : Nat → Z → Heap → Prop} (S : CallFix p m c cc nL s args Ts own) (hM : e_I l y ws rm D tys Pr (.ref b :: As) v F mc ms Po) (cw : CallW R s args own C index y bytes maxL ret ws rm mc ms n) (hmv : p_mv Pr)
    (hcB : ∃ cellB : Cell, H[b]? = some cellB ∧ cellB.vm.isStatics = false ∧ s.vm.findClass C = some cellB.cls) (hP : ∀ U : State, U.heap = H → s.WarmedH U.vm → Pr U) (hK : va_K D vwCl tys s) (hO : n_O s) (hF : ∀ q, F q → A0 q) (hA : ∀ q : Nat, H0.size ≤ q → A0 q)
    (hn : As.length = n) (hsize : ls.size = nL) (hst : st0 = As.reverse ++ .ref b :: rest) (hW : (rest.map fun v => v.category).sum ≤ 8) (hdg : decode cc pc = .ok (.invokevirtual index, 3)) (hc : cells + mc ≤ R.cells) (hs : slots + ms ≤ R.slots) (hS : va_S A0 H0 H locs)
    (kk : ∀ (u : Z) (H1 : Heap) (locs1 : List Loc), Po H.size u H1 → H.size ≤ H1.size → (∀ q : Nat, q < H.size → ¬ F q → H1[q]? = H[q]?) → va_S A0 H0 H1 locs1 → W p l e R s m args below meth c H1 locs1 (cells + mc) (slots + ms) Q (F0 m (pc + 3) ls (.int v :: rest))) : W p l e R s m args below meth c H locs cells slots Q (F0 m pc ls st0) := by
  subst hst
  have hFA : ∀ q, e_F F H.size q → A0 q := fun q h => h.elim (hF q) (fun h => hA q (Nat.le_trans hS.1 h))
  refine va_calli (va_runV S (hM H.size) cw ⟨e_blind hmv, hcB, fun U hU hW => ⟨rfl, by rw [hU], hP U hU hW, va_K.moved hW.alike hK, n_O.moved hW.alike hO⟩⟩ rfl hn hsize rfl (lv_room hW) hdg ⟨hc, hs⟩) hS (fun q _ h => hFA q h) hFA (fun r u t H1 locs1 ht hvm hw hB hz hk hS1 => ?_)
  subst hw
  exact kk u H1 locs1 (by rw [← ht]; exact hB) hz (fun q h1 h2 => hk q h1 (fun h => h.elim h2 (by omega))) hS1
theorem e_callVR {Z : Type} {Po : Nat → Z → Nat → Heap → Prop} (S : CallFix p m c cc nL s args Ts own) (hM : e_R l y ws rm D tys Pr (.ref b :: As) F mc ms Po) (cw : CallW R s args own C index y bytes maxL ret ws rm mc ms n) (hmv : p_mv Pr)
    (hcB : ∃ cellB : Cell, H[b]? = some cellB ∧ cellB.vm.isStatics = false ∧ s.vm.findClass C = some cellB.cls) (hP : ∀ U : State, U.heap = H → s.WarmedH U.vm → Pr U) (hK : va_K D vwCl tys s) (hO : n_O s) (hF : ∀ q, F q → A0 q) (hA : ∀ q : Nat, H0.size ≤ q → A0 q)
    (hn : As.length = n) (hsize : ls.size = nL) (hst : st0 = As.reverse ++ .ref b :: rest) (hW : (rest.map fun v => v.category).sum ≤ 8) (hdg : decode cc pc = .ok (.invokevirtual index, 3)) (hc : cells + mc ≤ R.cells) (hs : slots + ms ≤ R.slots) (hS : va_S A0 H0 H locs)
    (kk : ∀ (u : Z) (ra : Nat) (H1 : Heap) (locs1 : List Loc), Po H.size u ra H1 → H.size ≤ H1.size → (∀ q : Nat, q < H.size → ¬ F q → H1[q]? = H[q]?) → va_S A0 H0 H1 locs1 → W p l e R s m args below meth c H1 locs1 (cells + mc) (slots + ms) Q (F0 m (pc + 3) ls (.ref ra :: rest))) : W p l e R s m args below meth c H locs cells slots Q (F0 m pc ls st0) := by
  subst hst
  have hFA : ∀ q, e_F F H.size q → A0 q := fun q h => h.elim (hF q) (fun h => hA q (Nat.le_trans hS.1 h))
  refine va_callr (va_runV S (hM H.size) cw ⟨e_blind hmv, hcB, fun U hU hW => ⟨rfl, by rw [hU], hP U hU hW, va_K.moved hW.alike hK, n_O.moved hW.alike hO⟩⟩ rfl hn hsize rfl (lv_room hW) hdg ⟨hc, hs⟩) hS (fun q _ h => hFA q h) hFA (fun u ra t H1 locs1 ht hvm hw hB hz hk hS1 => ?_)
  exact kk u ra H1 locs1 (by rw [← ht]; exact hB) hz (fun q h1 h2 => hk q h1 (fun h => h.elim h2 (by omega))) hS1
theorem e_callSI {v : Int32} {Z : Type} {Po : Nat → Z → Heap → Prop} (S : CallFix p m c cc nL s args Ts own) (hM : e_I l y ws rm D tys Pr As v F mc ms Po) (cw : CallB R s args own index y bytes maxL ret ws rm mc ms n ∧ (Cond.static y).before args s = true) (hmv : p_mv Pr)
    (hP : ∀ U : State, U.heap = H → s.WarmedH U.vm → Pr U) (hK : va_K D vwCl tys s) (hO : n_O s) (hF : ∀ q, F q → A0 q) (hA : ∀ q : Nat, H0.size ≤ q → A0 q)
    (hn : As.length = n) (hsize : ls.size = nL) (hst : st0 = As.reverse ++ rest) (hW : (rest.map fun v => v.category).sum ≤ 8) (hdg : decode cc pc = .ok (.invokestatic index, 3)) (hc : cells + mc ≤ R.cells) (hs : slots + ms ≤ R.slots) (hS : va_S A0 H0 H locs)
    (kk : ∀ (u : Z) (H1 : Heap) (locs1 : List Loc), Po H.size u H1 → H.size ≤ H1.size → (∀ q : Nat, q < H.size → ¬ F q → H1[q]? = H[q]?) → va_S A0 H0 H1 locs1 → W p l e R s m args below meth c H1 locs1 (cells + mc) (slots + ms) Q (F0 m (pc + 3) ls (.int v :: rest))) : W p l e R s m args below meth c H locs cells slots Q (F0 m pc ls st0) := by
  subst hst
  have hFA : ∀ q, e_F F H.size q → A0 q := fun q h => h.elim (hF q) (fun h => hA q (Nat.le_trans hS.1 h))
  refine va_calli (va_runS S (hM H.size) cw ⟨e_blind hmv, fun U hU hW => ⟨rfl, by rw [hU], hP U hU hW, va_K.moved hW.alike hK, n_O.moved hW.alike hO⟩⟩ rfl hn hsize rfl (lv_room hW) hdg ⟨hc, hs⟩) hS (fun q _ h => hFA q h) hFA (fun r u t H1 locs1 ht hvm hw hB hz hk hS1 => ?_)
  subst hw
  exact kk u H1 locs1 (by rw [← ht]; exact hB) hz (fun q h1 h2 => hk q h1 (fun h => h.elim h2 (by omega))) hS1
theorem e_callSR {Z : Type} {Po : Nat → Z → Nat → Heap → Prop} (S : CallFix p m c cc nL s args Ts own) (hM : e_R l y ws rm D tys Pr As F mc ms Po) (cw : CallB R s args own index y bytes maxL ret ws rm mc ms n ∧ (Cond.static y).before args s = true) (hmv : p_mv Pr)
    (hP : ∀ U : State, U.heap = H → s.WarmedH U.vm → Pr U) (hK : va_K D vwCl tys s) (hO : n_O s) (hF : ∀ q, F q → A0 q) (hA : ∀ q : Nat, H0.size ≤ q → A0 q)
    (hn : As.length = n) (hsize : ls.size = nL) (hst : st0 = As.reverse ++ rest) (hW : (rest.map fun v => v.category).sum ≤ 8) (hdg : decode cc pc = .ok (.invokestatic index, 3)) (hc : cells + mc ≤ R.cells) (hs : slots + ms ≤ R.slots) (hS : va_S A0 H0 H locs)
    (kk : ∀ (u : Z) (ra : Nat) (H1 : Heap) (locs1 : List Loc), Po H.size u ra H1 → H.size ≤ H1.size → (∀ q : Nat, q < H.size → ¬ F q → H1[q]? = H[q]?) → va_S A0 H0 H1 locs1 → W p l e R s m args below meth c H1 locs1 (cells + mc) (slots + ms) Q (F0 m (pc + 3) ls (.ref ra :: rest))) : W p l e R s m args below meth c H locs cells slots Q (F0 m pc ls st0) := by
  subst hst
  have hFA : ∀ q, e_F F H.size q → A0 q := fun q h => h.elim (hF q) (fun h => hA q (Nat.le_trans hS.1 h))
  refine va_callr (va_runS S (hM H.size) cw ⟨e_blind hmv, fun U hU hW => ⟨rfl, by rw [hU], hP U hU hW, va_K.moved hW.alike hK, n_O.moved hW.alike hO⟩⟩ rfl hn hsize rfl (lv_room hW) hdg ⟨hc, hs⟩) hS (fun q _ h => hFA q h) hFA (fun u ra t H1 locs1 ht hvm hw hB hz hk hS1 => ?_)
  exact kk u ra H1 locs1 (by rw [← ht]; exact hB) hz (fun q h1 h2 => hk q h1 (fun h => h.elim h2 (by omega))) hS1
/-- a call of the class's method that writes its cells -/
theorem z_callT {v : Int32} {W0 W1 : va_W} (S : CallFix p m c cc nL s args Ts own) (hM : m_I l y ws rm D tys W0 (.ref b :: As) v W1) (cw : CallW R s args own C index y bytes maxL ret ws rm 0 0 n)
    (hcB : ∃ cellB : Cell, H[b]? = some cellB ∧ cellB.vm.isStatics = false ∧ s.vm.findClass C = some cellB.cls) (hP : va_P D vwCl W0 H) (hD : va_D (fun _ => True) W0) (hK : va_K D vwCl tys s) (hF : ∀ q, va_A W0 H.size q → A0 q)
    (hn : As.length = n) (hsize : ls.size = nL) (hst : st0 = As.reverse ++ .ref b :: rest) (hW : (rest.map fun v => v.category).sum ≤ 8) (hdg : decode cc pc = .ok (.invokevirtual index, 3)) (hc : cells ≤ R.cells) (hs : slots ≤ R.slots) (hS : va_S A0 H0 H locs)
    (kk : ∀ (H1 : Heap) (locs1 : List Loc), va_P D vwCl W1 H1 → H.size ≤ H1.size → (∀ q : Nat, q < H.size → ¬ va_A W0 H.size q → H1[q]? = H[q]?) → va_S A0 H0 H1 locs1 → W p l e R s m args below meth c H1 locs1 cells slots Q (F0 m (pc + 3) ls (.int v :: rest))) : W p l e R s m args below meth c H locs cells slots Q (F0 m pc ls st0) := by
  subst hst
  refine va_calli (va_runV S (hM H.size) cw ⟨m_B_blind, hcB, fun U hU hW => ⟨rfl, by rw [hU], ⟨by rw [hU]; exact hP, va_K.moved hW.alike hK⟩, hD⟩⟩ rfl hn hsize rfl (lv_room hW) hdg ⟨hc, hs⟩) hS (fun q _ h => hF q h) hF (fun r u t H1 locs1 ht hvm hw hB hz hk hS1 => ?_)
  subst hw
  exact kk H1 locs1 (by rw [← ht]; exact hB) hz hk hS1
end EEN
