/-! own rows: methods of the class that throw (nothing is written): their contracts, the throw, a call that throws and isn't caught -/
abbrev t_IO : String := "java/lang/IndexOutOfBoundsException"
abbrev t_IA : String := "java/lang/IllegalArgumentException"
abbrev t_IS : String := "java/lang/IllegalStateException"
abbrev t_up : List String := ["java/lang/RuntimeException", "java/lang/Exception"]
def t_dc (C : String) : Cond := .declares ⟨C, "<init>", "(Ljava/lang/String;)V"⟩
def t_strs : List (Nat × String) := [(198, "speaker is not 0 to 5"), (201, "topic is not 0 to 9"), (203, "there are 24 remarks"), (207, "there is no such place"), (52, "there is a word"), (205, "it costs too much"), (211, "there is no such gap"), (213, "the gap is tied"), (108, "minutes is not 1 to 60"), (209, "there is no such word"), (215, "there is no such thread")]
/-- what a throw asks of the heap and of the tables: the two statics of Throwable, three castable words, three constructors, the texts -/
def t_Z (sa : Nat → Nat) (U : State) (H : Heap) : Prop :=
  vx_Zq Bundle.tN "UNASSIGNED_STACK" Bundle.steD q_no U H ∧ vx_Zq Bundle.tN "SUPPRESSED_SENTINEL" Bundle.listD q_no U H ∧
  (∀ E : String, E = t_IO ∨ E = t_IA ∨ E = t_IS → va_Nw (.castable E E) U) ∧ (va_Nw (t_dc "java/lang/RuntimeException") U ∧ va_Nw (t_dc "java/lang/Exception") U ∧ va_Nw (t_dc "java/lang/Throwable") U) ∧
  ∀ q : Nat × String, q ∈ t_strs → vk_R "SplicedTalk" q.1 q.2 (sa q.1) U
theorem t_Z.kept {sa : Nat → Nat} {U : State} {H H1 : Heap} (h : t_Z sa U H) (hq : ∀ a : Nat, a < H.size → H1[a]? = H[a]?) : t_Z sa U H1 :=
  ⟨vx_Zq.kept h.1 (fun a ha _ => hq a ha), vx_Zq.kept h.2.1 (fun a ha _ => hq a ha), h.2.2⟩
theorem t_Z.warm {sa : Nat → Nat} {s U : State} {H : Heap} (hW : s.WarmedH U.vm) (h : t_Z sa s H) : t_Z sa U H :=
  ⟨vx_Zq.moved hW.alike h.1, vx_Zq.moved hW.alike h.2.1, fun E hE => va_Nw.warmC hW (h.2.2.1 E hE), ⟨va_Nw.warmD hW h.2.2.2.1.1, va_Nw.warmD hW h.2.2.2.1.2.1, va_Nw.warmD hW h.2.2.2.1.2.2⟩, fun q hq => vk_R.warm hW (h.2.2.2.2 q hq)⟩
theorem t_Z.call {sa : Nat → Nat} {U : State} {g : JFrame} {mk : MethodId} {a : Array Value} {H : Heap} (h : t_Z sa U H) : t_Z sa (U.calling g mk a) H :=
  ⟨vx_Zq.moved (u := U) (U := U.calling g mk a) (Vm.Alike.refl U.vm) h.1, vx_Zq.moved (u := U) (U := U.calling g mk a) (Vm.Alike.refl U.vm) h.2.1, fun E hE => va_Nw.same rfl rfl (h.2.2.1 E hE), ⟨va_Nw.same rfl rfl h.2.2.2.1.1, va_Nw.same rfl rfl h.2.2.2.1.2.1, va_Nw.same rfl rfl h.2.2.2.1.2.2⟩, fun q hq => vk_R.same rfl (h.2.2.2.2 q hq)⟩
def t_B (D : va_G) (tys : List (ClassId × FieldType)) (W0 : va_W) (sa : Nat → Nat) (U : State) : Prop := q_B D tys W0 U ∧ t_Z sa U U.heap
theorem t_B_blind {D : va_G} {tys : List (ClassId × FieldType)} {W0 : va_W} {sa : Nat → Nat} {av : List Value} : FrameBlind (va_Pc av (t_B D tys W0 sa)) := fun a U g mk q => ⟨q.1, ⟨q.2.1.1, va_K.moved (u := U) (U := U.calling g mk a) (Vm.Alike.refl U.vm) q.2.1.2⟩, t_Z.call q.2.2⟩
def t_X (E : String) : String → State → State → Prop := vx_X (fun _ : Unit => True) (fun E2 _ _ => E2 = E) q_no
def tw_T (l : Launch) (y : MethodName) (ws : List Cond) (rm : Room) (D : va_G) (tys : List (ClassId × FieldType)) (W0 : va_W) (av : List Value) (sa : Nat → Nat) (E : String) : Prop :=
  vx_Met l y ws rm (va_Pc av (t_B D tys W0 sa)) (fun _ _ _ _ => False) (t_X E) 1 6 q_no
def t_E (below : List Frame) (args : Array Value) (s : State) (E : String) : State → Prop := vx_MQ below (fun _ _ _ _ => False) (t_X E) args s 1 6 q_no
section TST
variable {l : Launch} {y : MethodName} {ws ws' : List Cond} {rm : Room} {D : va_G} {tys : List (ClassId × FieldType)} {W0 : va_W} {av : List Value} {cc : ByteArray} {maxL : Nat} {ret : Option FieldType} {sa : Nat → Nat} {E : String}
theorem t_start (hy : plainName y.cls = true) (hw : ws = Cond.code y cc maxL ret :: ws') (hn : (lg_sl av).length ≤ maxL)
    (body : ∀ p e s m below meth c, p.tables.exec = Jvm.exec → c.code = cc → c.maxLocals = maxL → (∀ w ∈ ws, w.before av.toArray s = true) → s.vm.findClass y.cls = some m.cls → meth.locks = false → (∀ x ∈ c.exceptionTable.toList, False) → va_K D vwCl tys s → t_Z sa s s.heap →
      ∀ (H : Heap) (locs : List Loc) (ls : Array Slot), va_P D vwCl W0 H → va_S q_no s.heap H locs → lv_has ls maxL (lv_args 0 av) → W p l e rm s m av.toArray below meth c H locs 0 0 (t_E below av.toArray s E) (F0 m 0 ls [])) : tw_T l y ws rm D tys W0 av sa E := by
  refine vx_ofW (cc := cc) (maxL := maxL) (ret := ret) hy hw ?_
  intro p e s m args below meth c s₁ B hml ht hv
  obtain ⟨rfl, ⟨hP, hK⟩, hZ⟩ := hv
  rw [lg_entry_eq]
  exact body p e s m below meth c B.exec B.bytes hml (atoms_spec (ws := ws) B.pre) (findClass_of_methodNamed B.named) B.notSynchronized ht hK hZ s.heap [] _ hP va_S.rf (lv_entry av hn)
end TST
section TEN
variable {p : Program} {l : Launch} {e : Env} {R : Room} {s : State} {m : MethodId} {args : Array Value} {below : List Frame} {meth : Method} {c : Code} {H : Heap} {locs : List Loc} {Q : State → Prop}
variable {cc bytes : ByteArray} {pc : Nat} {ls : Array Slot} {sa : Nat → Nat} {E : String}
theorem t_out {E2 : String} {ce : Cell} {q : Addr} {st : List Value} (ht : ∀ x ∈ c.exceptionTable.toList, False) (hlocks : meth.locks = false) (hS : va_S q_no s.heap H locs) (hE : E2 = E) (hcell : H[q]? = some ce) (hv : ce.vm = .none) (hcl : s.vm.findClass E2 = some ce.cls) :
    vx_W p l e R s m args below meth c H locs 1 6 (t_E below args s E) (F0 m pc ls st) q :=
  vx_out (fun x hx => (ht x hx).elim) hlocks hcell hv hcl (fun t h1 h2 => ⟨(), trivial, hE, hS.F h1⟩) hS.2.2 (Nat.le_refl _) (Nat.le_refl _)
theorem t_throw {own text : String} {ik is ic : Nat} {rest : List Value} (hx : p.tables.exec = Jvm.exec) (hb : c.code = cc) (hl : l.stackTraces = false) (hown : s.vm.findClass "SplicedTalk" = some m.cls) (ho : own = "SplicedTalk") (hcls : Bundle.fit E = true)
    (hk : (Cond.classLink own ik E).before args s = true) (hini : (Cond.initialized E).before args s = true) (hat : ∀ w ∈ vx_atS own ic E t_up, w.before args s = true)
    (hgood : ∀ w ∈ Cond.classLink own ik E :: Cond.initialized E :: vx_atS own ic E t_up, vx_ot w = true)
    (hZ : t_Z sa s s.heap) (hstr : (is, text) ∈ t_strs) (hS : va_S q_no s.heap H locs) (hsize : ls.size = c.maxLocals)
    (d0 : decode cc pc = .ok (.new ik, 3)) (d3 : decode cc (pc + 3) = .ok (.dup, 1)) (d4 : decode cc (pc + 4) = .ok (.ldc is, 2)) (d6 : decode cc (pc + 6) = .ok (.invokespecial ic, 3)) (d9 : decode cc (pc + 9) = .ok (.athrow, 1))
    (ht : ∀ x ∈ c.exceptionTable.toList, False) (hRf : 5 < R.frames) (hRl : (rest.map fun v => v.category).sum + 82 ≤ R.locals) (hRc : 1 ≤ R.cells) (hRs : 6 ≤ R.slots) (hlocks : meth.locks = false) :
    W p l e R s m args below meth c H locs 0 0 (t_E below args s E) (F0 m pc ls rest) := by
  subst ho
  exact vx_throwS (own := "SplicedTalk") (cls := E) (text := text) (names := t_up) (sa := sa is) hx hb hl hown hcls (by decide +kernel) hk hini (hZ.2.2.2.2 (is, text) hstr) hat hgood hZ.1 hZ.2.1 hS hsize d0 d3 d4 d6 d9 (fun x hx => (ht x hx).elim) hRf hRl (by omega) (by omega) hlocks
    (fun t h1 h2 h3 => ⟨(), trivial, rfl, ⟨Nat.le_trans hS.1 h2, fun q hq hn => (h3 q (Nat.lt_of_lt_of_le hq hS.1)).trans (hS.2.1 q hq hn)⟩⟩) hS.2.2 (by omega) (by omega)
/-- the words of a throw of E, out of the method's own list and the three that aren't kept by calls -/
theorem t_hat {own : String} {ic : Nat} {Ts : List Cond} {s : State} {sa : Nat → Nat} {H : Heap} (hE : E = t_IO ∨ E = t_IA ∨ E = t_IS) (hts : ∀ w ∈ Ts, w.before args s = true) (h1 : ∀ w ∈ (vx_atS own ic E t_up).filter goodWord, w ∈ Ts)
    (h2 : ∀ w ∈ (vx_atS own ic E t_up).filter (fun w => !goodWord w), w ∈ [Cond.castable E E, t_dc "java/lang/RuntimeException", t_dc "java/lang/Exception", t_dc "java/lang/Throwable"]) (hZ : t_Z sa s H) : ∀ w ∈ vx_atS own ic E t_up, w.before args s = true :=
  vx_hat (fun w hw => hts w (h1 w hw)) h2 (vx_c (va_Nw.use rfl (hZ.2.2.1 E hE)) (vx_c (va_Nw.use rfl hZ.2.2.2.1.1) (vx_c (va_Nw.use rfl hZ.2.2.2.1.2.1) (vx_c (va_Nw.use rfl hZ.2.2.2.1.2.2) vx_n))))
variable {y : MethodName} {maxL nL n index : Nat} {ret : Option FieldType} {ws : List Cond} {rm : Room} {Ts : List Cond} {own C : String} {b : Addr} {As rest st0 : List Value} {D : va_G} {tys : List (ClassId × FieldType)} {W0 : va_W}
theorem t_callV (S : CallFix p m c cc nL s args Ts own) (hM : tw_T l y ws rm D tys W0 (.ref b :: As) sa E) (cw : CallW R s args own C index y bytes maxL ret ws rm 1 6 n)
    (hcB : ∃ cellB : Cell, H[b]? = some cellB ∧ cellB.vm.isStatics = false ∧ s.vm.findClass C = some cellB.cls) (hP : va_P D vwCl W0 H) (hK : va_K D vwCl tys s) (hZ : t_Z sa s s.heap)
    (hn : As.length = n) (hsize : ls.size = nL) (hst : st0 = As.reverse ++ .ref b :: rest) (hW : (rest.map fun v => v.category).sum ≤ 8) (hdg : decode cc pc = .ok (.invokevirtual index, 3)) (hc : 1 ≤ R.cells) (hs : 6 ≤ R.slots) (hS : va_S q_no s.heap H locs)
    (ht : ∀ x ∈ c.exceptionTable.toList, False) (hlocks : meth.locks = false) : W p l e R s m args below meth c H locs 0 0 (t_E below args s E) (F0 m pc ls st0) := by
  subst hst
  have hr := vx_runV (e := e) (below := below) (meth := meth) (locs := locs) (cells := 0) (slots := 0) (g := F0 m pc ls (As.reverse ++ .ref b :: rest)) S hM cw ⟨t_B_blind, hcB, fun U hU hW => ⟨rfl, ⟨by rw [hU]; exact hP, va_K.moved hW.alike hK⟩, by rw [hU]; exact (hZ.kept fun a ha => hS.2.1 a ha (fun h => h)).warm hW⟩⟩ rfl hn hsize rfl (lv_room hW) hdg ⟨by omega, by omega⟩
  intro T hT X
  rcases hr T hT X with ⟨v, st₀, t, T', L, h0, X', hL, e1, e2, hF, st⟩ | ⟨q, st₀, t, T', L, E2, ce, h0, X', hL, e1, e2, ⟨u, hp, hE, hF⟩, hce, hcv, hcl, st⟩
  · exact hF.elim
  · obtain ⟨k1, k2, k3⟩ := vx_keep h0 e1 hS (fun q _ h => h) (fun q h => h) hL hF
    obtain ⟨t2, a1, b1⟩ := t_out (p := p) (l := l) (e := e) (R := R) (args := args) (below := below) (pc := pc) (ls := ls) (st := rest) ht hlocks k3 hE (by rw [e1]; exact hce) hcv hcl T' rfl X'
    exact ⟨t2, st.trans a1, b1⟩
theorem t_callS (S : CallFix p m c cc nL s args Ts own) (hM : tw_T l y ws rm D tys W0 As sa E) (cw : CallB R s args own index y bytes maxL ret ws rm 1 6 n ∧ (Cond.static y).before args s = true)
    (hP : va_P D vwCl W0 H) (hK : va_K D vwCl tys s) (hZ : t_Z sa s s.heap)
    (hn : As.length = n) (hsize : ls.size = nL) (hst : st0 = As.reverse ++ rest) (hW : (rest.map fun v => v.category).sum ≤ 8) (hdg : decode cc pc = .ok (.invokestatic index, 3)) (hc : 1 ≤ R.cells) (hs : 6 ≤ R.slots) (hS : va_S q_no s.heap H locs)
    (ht : ∀ x ∈ c.exceptionTable.toList, False) (hlocks : meth.locks = false) : W p l e R s m args below meth c H locs 0 0 (t_E below args s E) (F0 m pc ls st0) := by
  subst hst
  have hr := vx_runS (e := e) (below := below) (meth := meth) (locs := locs) (cells := 0) (slots := 0) (g := F0 m pc ls (As.reverse ++ rest)) S hM cw ⟨t_B_blind, fun U hU hW => ⟨rfl, ⟨by rw [hU]; exact hP, va_K.moved hW.alike hK⟩, by rw [hU]; exact (hZ.kept fun a ha => hS.2.1 a ha (fun h => h)).warm hW⟩⟩ rfl hn hsize rfl (lv_room hW) hdg ⟨by omega, by omega⟩
  intro T hT X
  rcases hr T hT X with ⟨v, st₀, t, T', L, h0, X', hL, e1, e2, hF, st⟩ | ⟨q, st₀, t, T', L, E2, ce, h0, X', hL, e1, e2, ⟨u, hp, hE, hF⟩, hce, hcv, hcl, st⟩
  · exact hF.elim
  · obtain ⟨k1, k2, k3⟩ := vx_keep h0 e1 hS (fun q _ h => h) (fun q h => h) hL hF
    obtain ⟨t2, a1, b1⟩ := t_out (p := p) (l := l) (e := e) (R := R) (args := args) (below := below) (pc := pc) (ls := ls) (st := rest) ht hlocks k3 hE (by rw [e1]; exact hce) hcv hcl T' rfl X'
    exact ⟨t2, st.trans a1, b1⟩
end TEN
