section
-- ===== PART A: goes FIRST, ahead of the names: the tables' words, and 'selects' of the private methods out of them =====
/-- a private method of a class that the tables say can be made, by its rows of tables_1 -/
def lw_okq (q : MethodName × Nat) : Prop := (q.1.cls ≠ "java/lang/invoke/MethodHandle" ∧ q.1.cls ≠ "java/lang/invoke/VarHandle") ∧ Cond.instantiable q.1.cls q.2 ∈ tables_1 ∧ Cond.privateMethod q.1 ∈ tables_1 ∧ Cond.instanceMethod q.1 ∈ tables_1
theorem lw_p0 : lw_okq (⟨"java/lang/Throwable", "fillInStackTrace", "(I)Ljava/lang/Throwable;"⟩, 6) := ⟨⟨by decide +kernel, by decide +kernel⟩, List.mem_of_getElem? (i := 97) (by decide +kernel), List.mem_of_getElem? (i := 95) (by decide +kernel), List.mem_of_getElem? (i := 96) (by decide +kernel)⟩
theorem lw_p1 : lw_okq (⟨"SplicedTalk", "requireRoom", "()V"⟩, 10) := ⟨⟨by decide +kernel, by decide +kernel⟩, List.mem_of_getElem? (i := 12) (by decide +kernel), List.mem_of_getElem? (i := 146) (by decide +kernel), List.mem_of_getElem? (i := 147) (by decide +kernel)⟩
theorem lw_p2 : lw_okq (⟨"SplicedTalk", "append", "(II)I"⟩, 10) := ⟨⟨by decide +kernel, by decide +kernel⟩, List.mem_of_getElem? (i := 12) (by decide +kernel), List.mem_of_getElem? (i := 166) (by decide +kernel), List.mem_of_getElem? (i := 167) (by decide +kernel)⟩
theorem lw_p3 : lw_okq (⟨"SplicedTalk", "put", "(III)V"⟩, 10) := ⟨⟨by decide +kernel, by decide +kernel⟩, List.mem_of_getElem? (i := 12) (by decide +kernel), List.mem_of_getElem? (i := 170) (by decide +kernel), List.mem_of_getElem? (i := 171) (by decide +kernel)⟩
theorem lw_p4 : lw_okq (⟨"SplicedTalk", "recount", "()V"⟩, 10) := ⟨⟨by decide +kernel, by decide +kernel⟩, List.mem_of_getElem? (i := 12) (by decide +kernel), List.mem_of_getElem? (i := 177) (by decide +kernel), List.mem_of_getElem? (i := 178) (by decide +kernel)⟩
theorem lw_p5 : lw_okq (⟨"SplicedTalk", "coughStandsAt", "(I)Z"⟩, 10) := ⟨⟨by decide +kernel, by decide +kernel⟩, List.mem_of_getElem? (i := 12) (by decide +kernel), List.mem_of_getElem? (i := 181) (by decide +kernel), List.mem_of_getElem? (i := 182) (by decide +kernel)⟩
theorem lw_p6 : lw_okq (⟨"SplicedTalk", "kindOfGap", "(I)I"⟩, 10) := ⟨⟨by decide +kernel, by decide +kernel⟩, List.mem_of_getElem? (i := 12) (by decide +kernel), List.mem_of_getElem? (i := 188) (by decide +kernel), List.mem_of_getElem? (i := 189) (by decide +kernel)⟩
theorem lw_p7 : lw_okq (⟨"SplicedTalk", "gapTied", "(I)Z"⟩, 10) := ⟨⟨by decide +kernel, by decide +kernel⟩, List.mem_of_getElem? (i := 12) (by decide +kernel), List.mem_of_getElem? (i := 192) (by decide +kernel), List.mem_of_getElem? (i := 193) (by decide +kernel)⟩
theorem lw_p8 : lw_okq (⟨"SplicedTalk", "strainOfGap", "(I)I"⟩, 10) := ⟨⟨by decide +kernel, by decide +kernel⟩, List.mem_of_getElem? (i := 12) (by decide +kernel), List.mem_of_getElem? (i := 196) (by decide +kernel), List.mem_of_getElem? (i := 197) (by decide +kernel)⟩
theorem lw_p9 : lw_okq (⟨"SplicedTalk", "topicOfWord", "(I)I"⟩, 10) := ⟨⟨by decide +kernel, by decide +kernel⟩, List.mem_of_getElem? (i := 12) (by decide +kernel), List.mem_of_getElem? (i := 200) (by decide +kernel), List.mem_of_getElem? (i := 201) (by decide +kernel)⟩
theorem lw_p10 : lw_okq (⟨"SplicedTalk", "coughsOfGap", "(I)I"⟩, 10) := ⟨⟨by decide +kernel, by decide +kernel⟩, List.mem_of_getElem? (i := 12) (by decide +kernel), List.mem_of_getElem? (i := 213) (by decide +kernel), List.mem_of_getElem? (i := 214) (by decide +kernel)⟩
theorem lw_p11 : lw_okq (⟨"SplicedTalk", "ofOneSpeaker", "(I)Z"⟩, 10) := ⟨⟨by decide +kernel, by decide +kernel⟩, List.mem_of_getElem? (i := 12) (by decide +kernel), List.mem_of_getElem? (i := 217) (by decide +kernel), List.mem_of_getElem? (i := 218) (by decide +kernel)⟩
theorem lw_p12 : lw_okq (⟨"SplicedTalk", "speakerOfWord", "(I)I"⟩, 10) := ⟨⟨by decide +kernel, by decide +kernel⟩, List.mem_of_getElem? (i := 12) (by decide +kernel), List.mem_of_getElem? (i := 221) (by decide +kernel), List.mem_of_getElem? (i := 222) (by decide +kernel)⟩
theorem lw_p13 : lw_okq (⟨"SplicedTalk", "requirePlace", "(I)V"⟩, 10) := ⟨⟨by decide +kernel, by decide +kernel⟩, List.mem_of_getElem? (i := 12) (by decide +kernel), List.mem_of_getElem? (i := 255) (by decide +kernel), List.mem_of_getElem? (i := 256) (by decide +kernel)⟩
theorem lw_p14 : lw_okq (⟨"SplicedTalk", "requireWord", "(I)V"⟩, 10) := ⟨⟨by decide +kernel, by decide +kernel⟩, List.mem_of_getElem? (i := 12) (by decide +kernel), List.mem_of_getElem? (i := 268) (by decide +kernel), List.mem_of_getElem? (i := 269) (by decide +kernel)⟩
theorem lw_p15 : lw_okq (⟨"SplicedTalk", "requireGap", "(I)V"⟩, 10) := ⟨⟨by decide +kernel, by decide +kernel⟩, List.mem_of_getElem? (i := 12) (by decide +kernel), List.mem_of_getElem? (i := 285) (by decide +kernel), List.mem_of_getElem? (i := 286) (by decide +kernel)⟩
def lw_privs_1 : List (MethodName × Nat) := [(⟨"java/lang/Throwable", "fillInStackTrace", "(I)Ljava/lang/Throwable;"⟩, 6), (⟨"SplicedTalk", "requireRoom", "()V"⟩, 10), (⟨"SplicedTalk", "append", "(II)I"⟩, 10), (⟨"SplicedTalk", "put", "(III)V"⟩, 10), (⟨"SplicedTalk", "recount", "()V"⟩, 10), (⟨"SplicedTalk", "coughStandsAt", "(I)Z"⟩, 10), (⟨"SplicedTalk", "kindOfGap", "(I)I"⟩, 10), (⟨"SplicedTalk", "gapTied", "(I)Z"⟩, 10), (⟨"SplicedTalk", "strainOfGap", "(I)I"⟩, 10), (⟨"SplicedTalk", "topicOfWord", "(I)I"⟩, 10), (⟨"SplicedTalk", "coughsOfGap", "(I)I"⟩, 10), (⟨"SplicedTalk", "ofOneSpeaker", "(I)Z"⟩, 10), (⟨"SplicedTalk", "speakerOfWord", "(I)I"⟩, 10), (⟨"SplicedTalk", "requirePlace", "(I)V"⟩, 10), (⟨"SplicedTalk", "requireWord", "(I)V"⟩, 10), (⟨"SplicedTalk", "requireGap", "(I)V"⟩, 10)]
theorem lw_r1 : ∀ q ∈ lw_privs_1, lw_okq q := List.forall_mem_cons.mpr ⟨lw_p0, List.forall_mem_cons.mpr ⟨lw_p1, List.forall_mem_cons.mpr ⟨lw_p2, List.forall_mem_cons.mpr ⟨lw_p3, List.forall_mem_cons.mpr ⟨lw_p4, List.forall_mem_cons.mpr ⟨lw_p5, List.forall_mem_cons.mpr ⟨lw_p6, List.forall_mem_cons.mpr ⟨lw_p7, List.forall_mem_cons.mpr ⟨lw_p8, List.forall_mem_cons.mpr ⟨lw_p9, List.forall_mem_cons.mpr ⟨lw_p10, List.forall_mem_cons.mpr ⟨lw_p11, List.forall_mem_cons.mpr ⟨lw_p12, List.forall_mem_cons.mpr ⟨lw_p13, List.forall_mem_cons.mpr ⟨lw_p14, List.forall_mem_cons.mpr ⟨lw_p15, fun _ h => absurd h List.not_mem_nil⟩⟩⟩⟩⟩⟩⟩⟩⟩⟩⟩⟩⟩⟩⟩⟩
theorem lw_p16 : lw_okq (⟨"SplicedTalk", "gapCount", "()I"⟩, 10) := ⟨⟨by decide +kernel, by decide +kernel⟩, List.mem_of_getElem? (i := 12) (by decide +kernel), List.mem_of_getElem? (i := 289) (by decide +kernel), List.mem_of_getElem? (i := 290) (by decide +kernel)⟩
theorem lw_p17 : lw_okq (⟨"SplicedTalk", "gapsOfKind", "(I)I"⟩, 10) := ⟨⟨by decide +kernel, by decide +kernel⟩, List.mem_of_getElem? (i := 12) (by decide +kernel), List.mem_of_getElem? (i := 318) (by decide +kernel), List.mem_of_getElem? (i := 319) (by decide +kernel)⟩
theorem lw_p18 : lw_okq (⟨"SplicedTalk", "threadOfWord", "(I)I"⟩, 10) := ⟨⟨by decide +kernel, by decide +kernel⟩, List.mem_of_getElem? (i := 12) (by decide +kernel), List.mem_of_getElem? (i := 334) (by decide +kernel), List.mem_of_getElem? (i := 335) (by decide +kernel)⟩
theorem lw_p19 : lw_okq (⟨"SplicedTalk", "requireThread", "(I)V"⟩, 10) := ⟨⟨by decide +kernel, by decide +kernel⟩, List.mem_of_getElem? (i := 12) (by decide +kernel), List.mem_of_getElem? (i := 342) (by decide +kernel), List.mem_of_getElem? (i := 343) (by decide +kernel)⟩
theorem lw_p20 : lw_okq (⟨"SplicedTalk", "wordsInThread", "(I)I"⟩, 10) := ⟨⟨by decide +kernel, by decide +kernel⟩, List.mem_of_getElem? (i := 12) (by decide +kernel), List.mem_of_getElem? (i := 347) (by decide +kernel), List.mem_of_getElem? (i := 348) (by decide +kernel)⟩
theorem lw_p21 : lw_okq (⟨"SplicedTalk", "mendingCost", "(I)I"⟩, 10) := ⟨⟨by decide +kernel, by decide +kernel⟩, List.mem_of_getElem? (i := 12) (by decide +kernel), List.mem_of_getElem? (i := 373) (by decide +kernel), List.mem_of_getElem? (i := 374) (by decide +kernel)⟩
theorem lw_p22 : lw_okq (⟨"SplicedTalk", "requirePatience", "(I)V"⟩, 10) := ⟨⟨by decide +kernel, by decide +kernel⟩, List.mem_of_getElem? (i := 12) (by decide +kernel), List.mem_of_getElem? (i := 476) (by decide +kernel), List.mem_of_getElem? (i := 477) (by decide +kernel)⟩
theorem lw_p23 : lw_okq (⟨"SplicedTalk", "pay", "(I)V"⟩, 10) := ⟨⟨by decide +kernel, by decide +kernel⟩, List.mem_of_getElem? (i := 12) (by decide +kernel), List.mem_of_getElem? (i := 481) (by decide +kernel), List.mem_of_getElem? (i := 482) (by decide +kernel)⟩
theorem lw_p24 : lw_okq (⟨"SplicedTalk", "moveUpBehind", "(I)V"⟩, 10) := ⟨⟨by decide +kernel, by decide +kernel⟩, List.mem_of_getElem? (i := 12) (by decide +kernel), List.mem_of_getElem? (i := 485) (by decide +kernel), List.mem_of_getElem? (i := 486) (by decide +kernel)⟩
theorem lw_p25 : lw_okq (⟨"SplicedTalk", "copyRemark", "(II)V"⟩, 10) := ⟨⟨by decide +kernel, by decide +kernel⟩, List.mem_of_getElem? (i := 12) (by decide +kernel), List.mem_of_getElem? (i := 489) (by decide +kernel), List.mem_of_getElem? (i := 490) (by decide +kernel)⟩
theorem lw_p26 : lw_okq (⟨"SplicedTalk", "requireUntied", "(I)V"⟩, 10) := ⟨⟨by decide +kernel, by decide +kernel⟩, List.mem_of_getElem? (i := 12) (by decide +kernel), List.mem_of_getElem? (i := 497) (by decide +kernel), List.mem_of_getElem? (i := 498) (by decide +kernel)⟩
theorem lw_p27 : lw_okq (⟨"SplicedTalk", "makeRoomAt", "(I)V"⟩, 10) := ⟨⟨by decide +kernel, by decide +kernel⟩, List.mem_of_getElem? (i := 12) (by decide +kernel), List.mem_of_getElem? (i := 513) (by decide +kernel), List.mem_of_getElem? (i := 514) (by decide +kernel)⟩
def lw_privs_2 : List (MethodName × Nat) := [(⟨"SplicedTalk", "gapCount", "()I"⟩, 10), (⟨"SplicedTalk", "gapsOfKind", "(I)I"⟩, 10), (⟨"SplicedTalk", "threadOfWord", "(I)I"⟩, 10), (⟨"SplicedTalk", "requireThread", "(I)V"⟩, 10), (⟨"SplicedTalk", "wordsInThread", "(I)I"⟩, 10), (⟨"SplicedTalk", "mendingCost", "(I)I"⟩, 10), (⟨"SplicedTalk", "requirePatience", "(I)V"⟩, 10), (⟨"SplicedTalk", "pay", "(I)V"⟩, 10), (⟨"SplicedTalk", "moveUpBehind", "(I)V"⟩, 10), (⟨"SplicedTalk", "copyRemark", "(II)V"⟩, 10), (⟨"SplicedTalk", "requireUntied", "(I)V"⟩, 10), (⟨"SplicedTalk", "makeRoomAt", "(I)V"⟩, 10)]
theorem lw_r2 : ∀ q ∈ lw_privs_2, lw_okq q := List.forall_mem_cons.mpr ⟨lw_p16, List.forall_mem_cons.mpr ⟨lw_p17, List.forall_mem_cons.mpr ⟨lw_p18, List.forall_mem_cons.mpr ⟨lw_p19, List.forall_mem_cons.mpr ⟨lw_p20, List.forall_mem_cons.mpr ⟨lw_p21, List.forall_mem_cons.mpr ⟨lw_p22, List.forall_mem_cons.mpr ⟨lw_p23, List.forall_mem_cons.mpr ⟨lw_p24, List.forall_mem_cons.mpr ⟨lw_p25, List.forall_mem_cons.mpr ⟨lw_p26, List.forall_mem_cons.mpr ⟨lw_p27, fun _ h => absurd h List.not_mem_nil⟩⟩⟩⟩⟩⟩⟩⟩⟩⟩⟩⟩
def lw_privs : List (MethodName × Nat) := lw_privs_1 ++ (lw_privs_2)
def lw_tbl : List Cond := k2_sels lw_privs ++ tables_1
theorem lw_privs_ok : ∀ q ∈ lw_privs, lw_okq q := by
  show ∀ q ∈ lw_privs_1 ++ (lw_privs_2), lw_okq q
  exact List.forall_mem_append.mpr ⟨lw_r1, lw_r2⟩
/-- the streams that the claim lets the run draw from -/
abbrev lw_cs : List Choice := [Jvm.Choice.named "NaN.bits"]
theorem lw_bits : nanBits ∈ lw_cs := by first | decide | exact List.mem_cons_self | simp [lw_cs, nanBits]
end
section
/-! ===== BEGIN words of one list among another's, by their places ===== -/
theorem goodIn_r {big : List Cond} (ws : List Cond) (ps : List Nat) (hp : ws = ps.filterMap (fun i => big[i]?)) (h : ws.all goodWord = true) : GoodIn big ws := by
  intro w hw
  have h1 := List.all_eq_true.mp h w hw
  rw [hp] at hw
  obtain ⟨i, -, hi⟩ := List.mem_filterMap.mp hw
  have hm : w ∈ big := by first | exact List.mem_of_getElem? hi | exact List.getElem?_mem hi
  exact ⟨hm, good_of_word h1⟩
theorem goodIn_app {big a b : List Cond} (ha : GoodIn big a) (hb : GoodIn big b) : GoodIn big (a ++ b) := fun w h => (List.mem_append.mp h).elim (ha w) (hb w)
theorem goodIn_ca {big a b : List Cond} {c : Cond} (ha : GoodIn big (c :: a)) (hb : GoodIn big b) : GoodIn big (c :: (a ++ b)) := fun w h => (List.mem_cons.mp h).elim (fun e => ha w (List.mem_cons.mpr (Or.inl e))) (fun h => (List.mem_append.mp h).elim (fun h => ha w (List.mem_cons.mpr (Or.inr h))) (hb w))
theorem goodIn_sub {big ws : List Cond} (hm : ∀ w ∈ ws, w ∈ big) (h : ws.all goodWord = true) : GoodIn big ws := fun w hw => ⟨hm w hw, good_of_word (List.all_eq_true.mp h w hw)⟩
/-! ===== END ===== -/

/-! ===== BEGIN exceptions that leave a method, and their catching by the caller (launches without stack traces) ===== -/
section VXA
/-! The laws vx_back, vx_callV, vx_callS, vx_callSW, vx_throw0, vx_throwS follow proofs of the library, with one case more: JvmDerived/Free/Laws.lean (Back.of_free), Shelf42/LK1.lean (callV, callS), Shelf/KitTraced.lean (throwNew0V, throwNewS). -/
/-- where a method has thrown q: the class by its name, the cell, what was written, the world -/
def vx_T (XC : String → State → State → Prop) (st : State) (q : Addr) (t : State) (mc ms : Nat) (free : Addr → Prop) : Prop :=
  ∃ (E : String) (ce : Cell) (L : List Loc), XC E st t ∧ t.heap[q]? = some ce ∧ ce.vm = .none ∧ st.vm.findClass E = some ce.cls ∧ st.WarmedH t.vm ∧ st.sameButNew ({ t with vm := st.vm } : State) L mc ms ∧ ∀ z ∈ L, free z.base
def vx_Q (Qc : Array Value → State → Outcome → State → Prop) (XC : String → State → State → Prop) (mc ms : Nat) (free : Addr → Prop) : Array Value → State → Outcome → State → Prop := fun a st o t =>
  (Qc a st o t ∧ ∃ L, FrameEnd st o t L mc ms ∧ ∀ q ∈ L, free q.base) ∨ ∃ q, o = .threw q ∧ vx_T XC st q t mc ms free
/-- a callee that returns or throws -/
def vx_Met (l : Launch) (y : MethodName) (ws : List Cond) (rm : Room) (Pc : Array Value → State → Prop) (Qc : Array Value → State → Outcome → State → Prop) (XC : String → State → State → Prop) (mc ms : Nat) (free : Addr → Prop) : Prop :=
  MetFree l y (headSpec ws rm) Pc (fun _ _ _ _ _ => True) (vx_Q Qc XC mc ms free)
def vx_Post (XC : String → State → State → Prop) (mc ms : Nat) (free : Addr → Prop) : Pt → Array Value → Addr → Pt → Prop := fun A a q B =>
  ∃ (g : JFrame) (mk : MethodId) (t : State) (L : List Loc) (E : String) (ce : Cell), B.U.heap = t.heap ∧ B.U.vm = t.vm ∧ XC E (A.U.calling g mk a) t ∧ t.heap[q]? = some ce ∧ ce.vm = .none ∧ A.U.vm.findClass E = some ce.cls ∧ B.locs = A.locs ++ L ∧ (∀ z ∈ L, free z.base) ∧ B.cells = A.cells + mc ∧ B.slots = A.slots + ms
def vx_Back (l : Launch) (R : Room) (p : Program) (e : Env) (below : List Frame) (s : State) (sargs : Array Value) (y : MethodName) (len W9 : Nat)
    (Pre : Pt → Array Value → Prop) (Post : Pt → Array Value → Option Value → Pt → Prop) (PostX : Pt → Array Value → Addr → Pt → Prop) : Prop :=
  ∀ (m : MethodId) (meth : Method) (c : Code) (A : Pt) (g : JFrame) (ig : Instr) (mk : MethodId) (a : Array Value),
    Stand p l e R s m sargs below meth c A.U A.locs A.cells A.slots → g.method = m → g.locals.size = c.maxLocals → decode c.code g.pc = .ok (ig, len) →
    2 * g.monitorRoom + (g.stack.map fun v => v.category).sum ≤ W9 → A.U.methodNamed? y = some mk → Pre A a →
    (∃ (v : Option Value) (B : Pt), Stand p l e R s m sargs below meth c B.U B.locs B.cells B.slots ∧ Post A a v B ∧
      Steps p.tables e below (doInvoke e (A.U.setTop g) [] mk a).1 (B.U.setTop { g with pc := g.pc + len, stack := v.toList ++ g.stack })) ∨
    (∃ (q : Addr) (B : Pt), Stand p l e R s m sargs below meth c B.U B.locs B.cells B.slots ∧ PostX A a q B ∧
      Steps p.tables e below (doInvoke e (A.U.setTop g) [] mk a).1 ((B.U.setTop g).pushFrame (.throwing q)))
section Payer
variable {l : Launch} {R : Room} {p : Program} {e : Env} {below : List Frame} {s : State} {sargs : Array Value} {y : MethodName} {len W9 : Nat}
theorem vx_back {ws : List Cond} {rm : Room} {Pc : Array Value → State → Prop} {Qc : Array Value → State → Outcome → State → Prop} {XC : String → State → State → Prop} {mc ms : Nat} {free : Addr → Prop} {bytes : ByteArray} {maxL : Nat} {ret : Option FieldType}
    (hM : vx_Met l y ws rm Pc Qc XC mc ms free) (hblind : FrameBlind Pc) (hrc : rm.cells = mc) (hrs : rm.slots = ms)
    (hframes : rm.frames + 1 ≤ R.frames) (hlocals : W9 + (maxL + 11) + rm.locals ≤ R.locals)
    (hws : ∀ w ∈ ws, ∀ a' U, s.WarmedH U.vm → w.before a' U = true) (hcode : Cond.code y bytes maxL ret ∈ ws) (hinit : ∀ a' U, s.WarmedH U.vm → (Cond.initialized y.cls).before a' U = true) :
    vx_Back l R p e below s sargs y len W9 (PreOf R mc ms Pc) (PostOf Qc mc ms free) (vx_Post XC mc ms free) := by
  intro m meth c A g ig mk a X hg hsize hdg hW hn hp
  have h1 : (headSpec ws rm).pre.before a A.U = true := atoms_intro fun w hw => hws w hw _ _ X.warmed
  have h2 : (Cond.code y bytes maxL ret).before a A.U = true := hws _ hcode _ _ X.warmed
  have h3 : (Cond.initialized y.cls).before a A.U = true := hinit _ _ X.warmed
  have h4 : A.cells + (headSpec ws rm).room.cells ≤ R.cells := by rw [show (headSpec ws rm).room.cells = mc from hrc]; exact hp.1
  have h5 : A.slots + (headSpec ws rm).room.slots ≤ R.slots := by rw [show (headSpec ws rm).room.slots = ms from hrs]; exact hp.2.1
  have hPc : Pc a (A.U.calling g mk a) := hblind _ _ _ _ hp.2.2
  obtain ⟨U, Ls, c0, s0⟩ := A
  dsimp only [Pt.U, Pt.locs, Pt.cells, Pt.slots] at h1 h2 h3 h4 h5 X hn hPc ⊢
  obtain ⟨methY, cY, hmY, hcY, -, hlY, -, -, -, -⟩ := Cond.code_spec hn h2
  obtain ⟨kY, hkY, -⟩ := className_of_methodNamed hn
  have hinitY : kY.init = .initialized := Cond.initialized_spec (findClass_of_methodNamed hn) hkY h3
  have h : At U g.method c below := by rw [hg]; exact X.here
  have hlocals9 : W9 + (maxL + 11) + (headSpec ws rm).room.locals ≤ R.locals := hlocals
  have happ : (headSpec ws rm).appliesLoose y e.platform (U.calling g mk a) = true :=
    Spec.appliesLoose_calling (g := g) h hdg hn hkY hinitY
      (X.room_calling (g := g) (R' := (headSpec ws rm).room) hsize hmY hcY hframes (by rw [hlY]; omega) h4 h5) h1
  obtain ⟨mid, hmid⟩ := h.above
  have hfr : (U.setTop g).frames = (.java g :: mid) ++ below := by rw [State.frames_setTop' g h.top, hmid]; rfl
  obtain ⟨o, s₂, hsteps, -, hend, hq⟩ := Steps.callFree hM p X.admits X.cas X.clock (acts := []) hfr happ hPc trivial
  have hq' : vx_Q Qc XC mc ms free a (U.calling g mk a) o s₂ := hq
  rw [State.frames_setTop' g h.top] at hend
  obtain ⟨g₀, hg0⟩ := Option.isSome_iff_exists.mp h.top
  obtain ⟨r, hr⟩ := State.topJava?_eq_some.mp hg0
  have hr' : (({ U with heap := s₂.heap, slotsUsed := s₂.slotsUsed } : State).setVm s₂.vm).frames = .java g₀ :: r := hr
  rcases hq' with ⟨hqc, L, hfe, hL⟩ | ⟨q, rfl, E, ce, L, hx, hce, hcv, hcl, hW₂, hsm, hL⟩
  · obtain ⟨⟨v, rfl⟩, hW₂, e2, q2, q3, q4, q5, q6⟩ := id hfe
    have e3 : s₂ = ({ (U.calling g mk a).setFrames s₂.frames with heap := s₂.heap, slotsUsed := s₂.slotsUsed } : State).setVm s₂.vm := by
      have : s₂ = ({ s₂ with vm := (U.calling g mk a).vm } : State).setVm s₂.vm := rfl
      rw [e2] at this
      exact this
    obtain ⟨c₂, i₂, len₂, hc₂, hd₂, hf₂⟩ := hend
    have hW' : U.WarmedH s₂.vm := hW₂
    have hcc : c₂ = c := by
      have h1 : s₂.code? g.method = U.code? g.method := by
        rw [State.code?_eq, State.code?_eq, hW'.alike.method?]
      exact Option.some.inj (hc₂.symm.trans (h1.trans h.code))
    subst hcc
    have hlen : len₂ = len := by rw [hdg] at hd₂; cases hd₂; rfl
    subst hlen
    have hs₂ : s₂ = (({ U with heap := s₂.heap, slotsUsed := s₂.slotsUsed } : State).setVm s₂.vm).setTop { g with pc := g.pc + len₂, stack := v.toList ++ g.stack } := by
      refine e3.trans ?_
      rw [hf₂, State.calling_eq h.top, State.setFrames_setFrames, State.setTop_of_frames _ hr', hr]
      rfl
    have hsame : U.sameButNew ({ U with heap := s₂.heap, slotsUsed := s₂.slotsUsed } : State) L mc ms := by
      refine ⟨?_, q2, q3, q4, q5, q6⟩
      obtain ⟨t, ht, -⟩ := State.frames_cons hr
      show ({ U with heap := s₂.heap, slotsUsed := s₂.slotsUsed } : State) = { U.setFrames U.frames with heap := s₂.heap, slotsUsed := s₂.slotsUsed }
      rw [State.setFrames_self ht]
    subst hg
    refine Or.inl ⟨v, ⟨(({ U with heap := s₂.heap, slotsUsed := s₂.slotsUsed } : State).setVm s₂.vm), Ls ++ L, c0 + mc, s0 + ms⟩,
      ⟨X.admits, X.cas, X.clock, X.frames, X.room, X.hears, X.method, X.code, (X.here.setHeapUsed s₂.heap s₂.slotsUsed).setVm hW'.alike, X.tail, State.WarmedH.trans X.warmed hW', X.limits, X.bytes, X.same.trans (hsame.setVm s.vm)⟩,
      ⟨g, mk, s₂, L, rfl, rfl, hqc, rfl, hL, rfl, rfl⟩, ?_⟩
    show Steps p.tables e below _ ((({ U with heap := s₂.heap, slotsUsed := s₂.slotsUsed } : State).setVm s₂.vm).setTop { g with pc := g.pc + len₂, stack := v.toList ++ g.stack })
    rw [← hs₂]
    exact hsteps
  · obtain ⟨e2, q2, q3, q4, q5, q6⟩ := id hsm
    have e3 : s₂ = ({ (U.calling g mk a).setFrames s₂.frames with heap := s₂.heap, slotsUsed := s₂.slotsUsed } : State).setVm s₂.vm := by
      have : s₂ = ({ s₂ with vm := (U.calling g mk a).vm } : State).setVm s₂.vm := rfl
      rw [e2] at this
      exact this
    have hf₂ : s₂.frames = .throwing q :: .java g :: U.frames.tail := hend
    have hW' : U.WarmedH s₂.vm := hW₂
    have hs₂ : s₂ = ((({ U with heap := s₂.heap, slotsUsed := s₂.slotsUsed } : State).setVm s₂.vm).setTop g).pushFrame (.throwing q) := by
      refine e3.trans ?_
      rw [hf₂, State.calling_eq h.top, State.setFrames_setFrames, State.pushFrame, State.frames_setTop _ hr', State.setTop_of_frames _ hr', State.setFrames_setFrames, hr]
      rfl
    have hsame : U.sameButNew ({ U with heap := s₂.heap, slotsUsed := s₂.slotsUsed } : State) L mc ms := by
      refine ⟨?_, q2, q3, q4, q5, q6⟩
      obtain ⟨t, ht, -⟩ := State.frames_cons hr
      show ({ U with heap := s₂.heap, slotsUsed := s₂.slotsUsed } : State) = { U.setFrames U.frames with heap := s₂.heap, slotsUsed := s₂.slotsUsed }
      rw [State.setFrames_self ht]
    subst hg
    refine Or.inr ⟨q, ⟨(({ U with heap := s₂.heap, slotsUsed := s₂.slotsUsed } : State).setVm s₂.vm), Ls ++ L, c0 + mc, s0 + ms⟩,
      ⟨X.admits, X.cas, X.clock, X.frames, X.room, X.hears, X.method, X.code, (X.here.setHeapUsed s₂.heap s₂.slotsUsed).setVm hW'.alike, X.tail, State.WarmedH.trans X.warmed hW', X.limits, X.bytes, X.same.trans (hsame.setVm s.vm)⟩,
      ⟨g, mk, s₂, L, E, ce, rfl, rfl, hx, hce, hcv, hcl, rfl, hL, rfl, rfl⟩, ?_⟩
    show Steps p.tables e below _ (((({ U with heap := s₂.heap, slotsUsed := s₂.slotsUsed } : State).setVm s₂.vm).setTop g).pushFrame (.throwing q))
    rw [← hs₂]
    exact hsteps
end Payer
section Calls
variable {p : Program} {l : Launch} {e : Env} {R : Room} {s : State} {m : MethodId} {args : Array Value} {below : List Frame} {meth : Method} {c : Code} {T : State} {locs : List Loc} {cells slots : Nat}
theorem vx_callV (X : Stand p l e R s m args below meth c T locs cells slots) (hexec : p.tables.exec = Jvm.exec) {own C : String} {index : Nat} {y : MethodName} {bytes : ByteArray} {maxL : Nat} {ret : Option FieldType}
    (hown : s.vm.findClass own = some m.cls) (hlink : (Cond.methodLink own index y).before args s = true) (hinst : (Cond.instanceMethod y).before args s = true) (hsel : (Cond.selects C y y).before args s = true)
    (hcode : (Cond.code y bytes maxL ret).before args s = true) (hy : y.cls ≠ "java/lang/invoke/MethodHandle" ∧ y.cls ≠ "java/lang/invoke/VarHandle")
    {W9 : Nat} {Pre : Pt → Array Value → Prop} {Post : Pt → Array Value → Option Value → Pt → Prop} {PostX : Pt → Array Value → Addr → Pt → Prop} (hK : vx_Back l R p e below s args y 3 W9 Pre Post PostX)
    {b : Addr} {cellB : Cell} (hcell : T.heap[b]? = some cellB) (hobj : cellB.vm.isStatics = false) (hcls : s.vm.findClass C = some cellB.cls)
    {g : JFrame} (hg : g.method = m) (hsize : g.locals.size = c.maxLocals) {argsL rest : List Value} (hlen : ∀ sig, parseMethodDescriptor y.desc = some sig → argsL.length = sig.parameters.length)
    (hstack : g.stack = argsL.reverse ++ .ref b :: rest) (hW : 2 * g.monitorRoom + (rest.map fun v => v.category).sum ≤ W9) (hdg : decode c.code g.pc = .ok (.invokevirtual index, 3))
    (hpre : ∀ vm₁, s.WarmedH vm₁ → Pre ⟨T.setVm vm₁, locs, cells, slots⟩ (Value.ref b :: argsL).toArray) :
    (∃ (v : Option Value) (vm₁ : Vm) (B : Pt), s.WarmedH vm₁ ∧ Stand p l e R s m args below meth c B.U B.locs B.cells B.slots ∧ Post ⟨T.setVm vm₁, locs, cells, slots⟩ (Value.ref b :: argsL).toArray v B ∧
      ∀ target, Steps p.tables e below (B.U.setTop { g with pc := g.pc + 3, stack := v.toList ++ rest }) target → Steps p.tables e below (T.setTop g) target) ∨
    (∃ (q : Addr) (vm₁ : Vm) (B : Pt), s.WarmedH vm₁ ∧ Stand p l e R s m args below meth c B.U B.locs B.cells B.slots ∧ PostX ⟨T.setVm vm₁, locs, cells, slots⟩ (Value.ref b :: argsL).toArray q B ∧
      Steps p.tables e below (T.setTop g) ((B.U.setTop { g with stack := rest }).pushFrame (.throwing q))) := by
  obtain ⟨mk, methM, hnamed, hmethM, hstM, habM⟩ := Cond.instanceMethod_spec hinst
  obtain ⟨methM', cM, hmethM', -, -, -, -, -, -, hsigM⟩ := Cond.code_spec hnamed hcode
  cases hmethM.symm.trans hmethM'
  obtain ⟨c2, r2, m2, q1, q2, q3, q4, kP, hkP, hkPi⟩ := Cond.selects_spec hsel
  cases hcls.symm.trans q1
  cases (State.methodFound?_of_named hnamed hy).symm.trans q2
  cases hnamed.symm.trans q3
  have hselP : selectMethod e.platform s.vm cellB.cls mk = .method mk := by rw [Launch.admits_selectMethod X.admits]; exact q4
  obtain ⟨vm₁, X₁, hstep₁⟩ := X.invokevirtual hexec hown hlink hnamed hmethM hstM hkP hkPi hy (a := b) (cell := cellB) hcell
    (fun z h => by rw [h] at hobj; cases hobj) hselP hmethM habM hkP hkPi (g := g) hg (argsL := argsL) (rest := rest) (hlen _ hsigM) hstack hdg
  rcases hK m meth c ⟨T.setVm vm₁, locs, cells, slots⟩ { g with stack := rest } (.invokevirtual index) mk (Value.ref b :: argsL).toArray X₁ hg hsize hdg hW (X₁.named hnamed) (hpre vm₁ X₁.warmed) with ⟨v, B, X', hpost, hsteps⟩ | ⟨q, B, X', hpost, hsteps⟩
  · exact Or.inl ⟨v, vm₁, B, X₁.warmed, X', hpost, fun target h => hstep₁ _ fun acts => by rw [doInvoke_state]; exact hsteps.trans h⟩
  · exact Or.inr ⟨q, vm₁, B, X₁.warmed, X', hpost, hstep₁ _ fun acts => by rw [doInvoke_state]; exact hsteps⟩
theorem vx_callS (X : Stand p l e R s m args below meth c T locs cells slots) (hexec : p.tables.exec = Jvm.exec) {own : String} {index : Nat} {y : MethodName} {bytes : ByteArray} {maxL : Nat} {ret : Option FieldType}
    (hown : s.vm.findClass own = some m.cls) (hlink : (Cond.methodLink own index y).before args s = true) (hstat : (Cond.static y).before args s = true) (hinit : (Cond.initialized y.cls).before args s = true)
    (hcode : (Cond.code y bytes maxL ret).before args s = true) (hy : y.cls ≠ "java/lang/invoke/MethodHandle" ∧ y.cls ≠ "java/lang/invoke/VarHandle")
    {W9 : Nat} {Pre : Pt → Array Value → Prop} {Post : Pt → Array Value → Option Value → Pt → Prop} {PostX : Pt → Array Value → Addr → Pt → Prop} (hK : vx_Back l R p e below s args y 3 W9 Pre Post PostX)
    {g : JFrame} (hg : g.method = m) (hsize : g.locals.size = c.maxLocals) {argsL rest : List Value} (hlen : ∀ sig, parseMethodDescriptor y.desc = some sig → argsL.length = sig.parameters.length)
    (hstack : g.stack = argsL.reverse ++ rest) (hW : 2 * g.monitorRoom + (rest.map fun v => v.category).sum ≤ W9) (hdg : decode c.code g.pc = .ok (.invokestatic index, 3))
    (hpre : ∀ vm₁, s.WarmedH vm₁ → Pre ⟨T.setVm vm₁, locs, cells, slots⟩ argsL.toArray) :
    (∃ (v : Option Value) (vm₁ : Vm) (B : Pt), s.WarmedH vm₁ ∧ Stand p l e R s m args below meth c B.U B.locs B.cells B.slots ∧ Post ⟨T.setVm vm₁, locs, cells, slots⟩ argsL.toArray v B ∧
      ∀ target, Steps p.tables e below (B.U.setTop { g with pc := g.pc + 3, stack := v.toList ++ rest }) target → Steps p.tables e below (T.setTop g) target) ∨
    (∃ (q : Addr) (vm₁ : Vm) (B : Pt), s.WarmedH vm₁ ∧ Stand p l e R s m args below meth c B.U B.locs B.cells B.slots ∧ PostX ⟨T.setVm vm₁, locs, cells, slots⟩ argsL.toArray q B ∧
      Steps p.tables e below (T.setTop g) ((B.U.setTop { g with stack := rest }).pushFrame (.throwing q))) := by
  obtain ⟨mk, hnamed⟩ := Cond.code_named hcode
  obtain ⟨methM, cM, hmethM, -, -, -, -, -, -, hsigM⟩ := Cond.code_spec hnamed hcode
  have hstatic : methM.isStatic = true := Cond.static_spec hnamed hmethM hstat
  obtain ⟨kP, hkP, -⟩ := className_of_methodNamed hnamed
  have hinitP : kP.init = .initialized := Cond.initialized_spec (findClass_of_methodNamed hnamed) hkP hinit
  obtain ⟨vm₁, X₁, hstep₁⟩ := X.invokestatic hexec hown hlink hnamed hmethM hstatic hkP hinitP hy (g := g) hg (argsL := argsL) (rest := rest) (hlen _ hsigM) hstack hdg
  rcases hK m meth c ⟨T.setVm vm₁, locs, cells, slots⟩ { g with stack := rest } (.invokestatic index) mk argsL.toArray X₁ hg hsize hdg hW (X₁.named hnamed) (hpre vm₁ X₁.warmed) with ⟨v, B, X', hpost, hsteps⟩ | ⟨q, B, X', hpost, hsteps⟩
  · exact Or.inl ⟨v, vm₁, B, X₁.warmed, X', hpost, fun target h => hstep₁ _ fun acts => by rw [doInvoke_state]; exact hsteps.trans h⟩
  · exact Or.inr ⟨q, vm₁, B, X₁.warmed, X', hpost, hstep₁ _ fun acts => by rw [doInvoke_state]; exact hsteps⟩
end Calls
theorem vx_cls {s : State} {T : State} {vm₁ : Vm} {E : String} {k : ClassId} (hW : s.WarmedH vm₁) (h : (T.setVm vm₁).vm.findClass E = some k) : s.vm.findClass E = some k := by
  have h1 : vm₁.findClass E = some k := h
  rw [hW.alike.findClass] at h1
  exact h1
/-- the method's frame g, with q thrown over it -/
def vx_W (p : Program) (l : Launch) (e : Env) (R : Room) (s : State) (m : MethodId) (args : Array Value) (below : List Frame) (meth : Method) (c : Code) (H : Heap) (locs : List Loc) (cells slots : Nat) (Q : State → Prop) (g : JFrame) (q : Addr) : Prop :=
  ∀ T : State, T.heap = H → Stand p l e R s m args below meth c T locs cells slots → ∃ t, Steps p.tables e below ((T.setTop g).pushFrame (.throwing q)) t ∧ Q t
def vx_Run (p : Program) (l : Launch) (e : Env) (R : Room) (s : State) (m : MethodId) (args : Array Value) (below : List Frame) (meth : Method) (c : Code) (H : Heap) (locs : List Loc) (cells slots mc ms : Nat) (g : JFrame) (rest : List Value) (Qa : State → Outcome → State → Prop) (XC : String → State → State → Prop) (free : Addr → Prop) : Prop :=
  ∀ T : State, T.heap = H → Stand p l e R s m args below meth c T locs cells slots →
    (∃ (v : Option Value) (st₀ t T' : State) (L : List Loc), st₀.heap = H ∧ Stand p l e R s m args below meth c T' (locs ++ L) (cells + mc) (slots + ms) ∧ (∀ q ∈ L, free q.base) ∧ T'.heap = t.heap ∧ T'.vm = t.vm ∧ Qa st₀ (.returned v) t ∧
      Goes p e below T g T' { g with pc := g.pc + 3, stack := v.toList ++ rest }) ∨
    (∃ (q : Addr) (st₀ t T' : State) (L : List Loc) (E : String) (ce : Cell), st₀.heap = H ∧ Stand p l e R s m args below meth c T' (locs ++ L) (cells + mc) (slots + ms) ∧ (∀ z ∈ L, free z.base) ∧ T'.heap = t.heap ∧ T'.vm = t.vm ∧ XC E st₀ t ∧ t.heap[q]? = some ce ∧ ce.vm = .none ∧ s.vm.findClass E = some ce.cls ∧
      Steps p.tables e below (T.setTop g) ((T'.setTop { g with stack := rest }).pushFrame (.throwing q)))
def vx_X {S : Type} (px : S → Prop) (B : String → S → State → Prop) (A : Nat → Prop) : String → State → State → Prop := fun E st t => ∃ u : S, px u ∧ B E u t ∧ va_F A st t
section Runs
variable {p : Program} {l : Launch} {e : Env} {R : Room} {s : State} {m : MethodId} {args : Array Value} {below : List Frame} {meth : Method} {c : Code} {H : Heap} {locs : List Loc} {cells slots : Nat}
variable {y : MethodName} {bytes cc : ByteArray} {maxL nL mc ms n index : Nat} {ret : Option FieldType} {ws : List Cond} {rm : Room} {Pc : Array Value → State → Prop} {Qc : Array Value → State → Outcome → State → Prop} {XC : String → State → State → Prop} {free : Addr → Prop} {Ts : List Cond} {own C : String} {b : Addr} {As rest : List Value} {g : JFrame}
theorem vx_callBack (cb : CallB R s args own index y bytes maxL ret ws rm mc ms n) (hM : vx_Met l y ws rm Pc Qc XC mc ms free) (hbl : FrameBlind Pc) : vx_Back l R p e below s args y 3 8 (PreOf R mc ms Pc) (PostOf Qc mc ms free) (vx_Post XC mc ms free) := by
  obtain ⟨hrc, hrs, hfr, hlo, hws, hcw, -, hini, -⟩ := cb
  exact vx_back (bytes := bytes) (maxL := maxL) (ret := ret) hM hbl hrc hrs hfr hlo hws hcw (fun a' U hW => word_at hW (Or.inl (by first | rfl | simp [Cond.onTables, Cond.keeps, Cond.steady])) hini)
theorem vx_runV (S : CallFix p m c cc nL s args Ts own) (hM : vx_Met l y ws rm Pc Qc XC mc ms free) (cw : CallW R s args own C index y bytes maxL ret ws rm mc ms n) (hp : PreV s H C b Pc As)
    (hg : g.method = m) (hn : As.length = n) (hsize : g.locals.size = nL) (hstack : g.stack = As.reverse ++ .ref b :: rest) (hW : 2 * g.monitorRoom + (rest.map fun v => v.category).sum ≤ 8) (hdg : decode cc g.pc = .ok (.invokevirtual index, 3)) (hf : cells + mc ≤ R.cells ∧ slots + ms ≤ R.slots) :
    vx_Run p l e R s m args below meth c H locs cells slots mc ms g rest (Qc (Value.ref b :: As).toArray) XC free := by
  have hK : vx_Back l R p e below s args y 3 8 (PreOf R mc ms Pc) (PostOf Qc mc ms free) (vx_Post XC mc ms free) := vx_callBack cw.1 hM hp.1
  obtain ⟨⟨-, -, -, -, -, -, hcode, -, hy, hlen, hl⟩, hin, hse⟩ := cw
  obtain ⟨hx, hb, hml, ho, -⟩ := S
  obtain ⟨-, ⟨cellB, hcB, hoB, hclB⟩, hPc⟩ := hp
  intro T hT X
  rcases vx_callV X hx (C := C) (bytes := bytes) (maxL := maxL) (ret := ret) ho hl hin hse hcode hy hK (by rw [hT]; exact hcB) hoB hclB hg (hsize.trans hml.symm) (argsL := As) (rest := rest) (fun sig h => hn.trans (hlen sig h)) hstack hW (by rw [hb]; exact hdg)
    (fun vm₁ hW₁ => ⟨hf.1, hf.2, hPc (T.setVm vm₁) hT hW₁⟩) with ⟨v, vm₁, ⟨U', l2, c2, s2⟩, hW₁, X', ⟨g', mk, t, L, e1, e2, hq, h1, hL, h2, h3⟩, st⟩ | ⟨q, vm₁, ⟨U', l2, c2, s2⟩, hW₁, X', ⟨g', mk, t, L, E, ce, e1, e2, hq, hce, hcv, hcl, h1, hL, h2, h3⟩, st⟩
  · dsimp only [Pt.U, Pt.locs, Pt.cells, Pt.slots] at X' e1 e2 h1 h2 h3 st
    subst h1; subst h2; subst h3
    exact Or.inl ⟨v, (T.setVm vm₁).calling g' mk (Value.ref b :: As).toArray, t, U', L, hT, X', hL, e1, e2, hq, st⟩
  · dsimp only [Pt.U, Pt.locs, Pt.cells, Pt.slots] at X' e1 e2 h1 h2 h3 st hcl
    subst h1; subst h2; subst h3
    exact Or.inr ⟨q, (T.setVm vm₁).calling g' mk (Value.ref b :: As).toArray, t, U', L, E, ce, hT, X', hL, e1, e2, hq, hce, hcv, vx_cls hW₁ hcl, st⟩
theorem vx_runS (S : CallFix p m c cc nL s args Ts own) (hM : vx_Met l y ws rm Pc Qc XC mc ms free) (cw : CallB R s args own index y bytes maxL ret ws rm mc ms n ∧ (Cond.static y).before args s = true) (hp : PreS s H Pc As)
    (hg : g.method = m) (hn : As.length = n) (hsize : g.locals.size = nL) (hstack : g.stack = As.reverse ++ rest) (hW : 2 * g.monitorRoom + (rest.map fun v => v.category).sum ≤ 8) (hdg : decode cc g.pc = .ok (.invokestatic index, 3)) (hf : cells + mc ≤ R.cells ∧ slots + ms ≤ R.slots) :
    vx_Run p l e R s m args below meth c H locs cells slots mc ms g rest (Qc As.toArray) XC free := by
  have hK : vx_Back l R p e below s args y 3 8 (PreOf R mc ms Pc) (PostOf Qc mc ms free) (vx_Post XC mc ms free) := vx_callBack cw.1 hM hp.1
  obtain ⟨⟨-, -, -, -, -, -, hcode, hini, hy, hlen, hl⟩, hstt⟩ := cw
  obtain ⟨hx, hb, hml, ho, -⟩ := S
  intro T hT X
  rcases vx_callS X hx (bytes := bytes) (maxL := maxL) (ret := ret) ho hl hstt hini hcode hy hK hg (hsize.trans hml.symm) (argsL := As) (rest := rest) (fun sig h => hn.trans (hlen sig h)) hstack hW (by rw [hb]; exact hdg)
    (fun vm₁ hW₁ => ⟨hf.1, hf.2, hp.2 (T.setVm vm₁) hT hW₁⟩) with ⟨v, vm₁, ⟨U', l2, c2, s2⟩, hW₁, X', ⟨g', mk, t, L, e1, e2, hq, h1, hL, h2, h3⟩, st⟩ | ⟨q, vm₁, ⟨U', l2, c2, s2⟩, hW₁, X', ⟨g', mk, t, L, E, ce, e1, e2, hq, hce, hcv, hcl, h1, hL, h2, h3⟩, st⟩
  · dsimp only [Pt.U, Pt.locs, Pt.cells, Pt.slots] at X' e1 e2 h1 h2 h3 st
    subst h1; subst h2; subst h3
    exact Or.inl ⟨v, (T.setVm vm₁).calling g' mk As.toArray, t, U', L, hT, X', hL, e1, e2, hq, st⟩
  · dsimp only [Pt.U, Pt.locs, Pt.cells, Pt.slots] at X' e1 e2 h1 h2 h3 st hcl
    subst h1; subst h2; subst h3
    exact Or.inr ⟨q, (T.setVm vm₁).calling g' mk As.toArray, t, U', L, E, ce, hT, X', hL, e1, e2, hq, hce, hcv, vx_cls hW₁ hcl, st⟩
end Runs
section Rows
variable {p : Program} {l : Launch} {e : Env} {R : Room} {s : State} {m : MethodId} {args : Array Value} {below : List Frame} {meth : Method} {c : Code} {H : Heap} {locs : List Loc} {cells slots : Nat} {Q : State → Prop}
variable {mc ms : Nat} {free : Addr → Prop} {A0 A1 : Nat → Prop} {H0 : Heap} {a : Array Value} {pc : Nat} {ls : Array Slot} {st0 rest : List Value}
theorem vx_keep {st₀ t T' : State} {L : List Loc} (h0 : st₀.heap = H) (e1 : T'.heap = t.heap) (hS : va_S A0 H0 H locs) (hA : ∀ q, q < H.size → A1 q → A0 q) (hf : ∀ q, free q → A0 q) (hL : ∀ q ∈ L, free q.base) (hF : va_F A1 st₀ t) :
    H.size ≤ T'.heap.size ∧ (∀ q : Nat, q < H.size → ¬ A1 q → T'.heap[q]? = H[q]?) ∧ va_S A0 H0 T'.heap (locs ++ L) := by
  obtain ⟨hz, hk⟩ := hF
  rw [h0] at hz hk
  exact ⟨by rw [e1]; exact hz, fun q h1 h2 => by rw [e1]; exact hk q h1 h2,
    ⟨Nat.le_trans hS.1 (by rw [e1]; exact hz), fun q h1 h2 => by rw [e1, hk q (Nat.lt_of_lt_of_le h1 hS.1) (fun z => h2 (hA q (Nat.lt_of_lt_of_le h1 hS.1) z))]; exact hS.2.1 q h1 h2, fun q hq => by
      rcases List.mem_append.mp hq with h | h
      · exact hS.2.2 q h
      · exact hf _ (hL q h)⟩⟩
theorem vx_calli {S SX : Type} {post : Int32 → S → Prop} {px : SX → Prop} {B : S → State → Prop} {BX : String → SX → State → Prop} {AX : Nat → Prop} (hr : vx_Run p l e R s m args below meth c H locs cells slots mc ms (F0 m pc ls st0) rest (va_Qi post B A1 a) (vx_X px BX AX) free) (hS : va_S A0 H0 H locs) (hA : ∀ q, q < H.size → A1 q → A0 q) (hf : ∀ q, free q → A0 q) (hAX : ∀ q, q < H.size → AX q → A0 q)
    (kx : ∀ (E : String) (ce : Cell) (q9 : Addr) (u : SX) (t : State) (H1 : Heap) (locs1 : List Loc), t.heap = H1 → s.vm.Alike t.vm → px u → BX E u t → H.size ≤ H1.size → (∀ q : Nat, q < H.size → ¬ AX q → H1[q]? = H[q]?) → va_S A0 H0 H1 locs1 → H1[q9]? = some ce → ce.vm = .none → s.vm.findClass E = some ce.cls → vx_W p l e R s m args below meth c H1 locs1 (cells + mc) (slots + ms) Q (F0 m pc ls rest) q9)
    (kk : ∀ (r : Int32) (u : S) (t : State) (H1 : Heap) (locs1 : List Loc), t.heap = H1 → s.vm.Alike t.vm → post r u → B u t → H.size ≤ H1.size → (∀ q : Nat, q < H.size → ¬ A1 q → H1[q]? = H[q]?) → va_S A0 H0 H1 locs1 → W p l e R s m args below meth c H1 locs1 (cells + mc) (slots + ms) Q (F0 m (pc + 3) ls (.int r :: rest))) : W p l e R s m args below meth c H locs cells slots Q (F0 m pc ls st0) := by
  intro T hT X
  rcases hr T hT X with ⟨v, st₀, t, T', L, h0, X', hL, e1, e2, ⟨⟨r, u, hv, hp, hb⟩, hF⟩, st⟩ | ⟨q, st₀, t, T', L, E, ce, h0, X', hL, e1, e2, ⟨u, hp, hb, hF⟩, hce, hcv, hcl, st⟩
  · cases hv
    obtain ⟨k1, k2, k3⟩ := vx_keep h0 e1 hS hA hf hL hF
    obtain ⟨t2, a1, b1⟩ := kk r u t T'.heap (locs ++ L) e1.symm (by rw [← e2]; exact X'.warmed.alike) hp hb k1 k2 k3 T' rfl X'
    exact ⟨t2, st t2 a1, b1⟩
  · obtain ⟨k1, k2, k3⟩ := vx_keep h0 e1 hS hAX hf hL hF
    obtain ⟨t2, a1, b1⟩ := kx E ce q u t T'.heap (locs ++ L) e1.symm (by rw [← e2]; exact X'.warmed.alike) hp hb k1 k2 k3 (by rw [e1]; exact hce) hcv hcl T' rfl X'
    exact ⟨t2, st.trans a1, b1⟩
theorem vx_calll {S SX : Type} {post : Int64 → S → Prop} {px : SX → Prop} {B : S → State → Prop} {BX : String → SX → State → Prop} {AX : Nat → Prop} (hr : vx_Run p l e R s m args below meth c H locs cells slots mc ms (F0 m pc ls st0) rest (va_Ql post B A1 a) (vx_X px BX AX) free) (hS : va_S A0 H0 H locs) (hA : ∀ q, q < H.size → A1 q → A0 q) (hf : ∀ q, free q → A0 q) (hAX : ∀ q, q < H.size → AX q → A0 q)
    (kx : ∀ (E : String) (ce : Cell) (q9 : Addr) (u : SX) (t : State) (H1 : Heap) (locs1 : List Loc), t.heap = H1 → s.vm.Alike t.vm → px u → BX E u t → H.size ≤ H1.size → (∀ q : Nat, q < H.size → ¬ AX q → H1[q]? = H[q]?) → va_S A0 H0 H1 locs1 → H1[q9]? = some ce → ce.vm = .none → s.vm.findClass E = some ce.cls → vx_W p l e R s m args below meth c H1 locs1 (cells + mc) (slots + ms) Q (F0 m pc ls rest) q9)
    (kk : ∀ (r : Int64) (u : S) (t : State) (H1 : Heap) (locs1 : List Loc), t.heap = H1 → s.vm.Alike t.vm → post r u → B u t → H.size ≤ H1.size → (∀ q : Nat, q < H.size → ¬ A1 q → H1[q]? = H[q]?) → va_S A0 H0 H1 locs1 → W p l e R s m args below meth c H1 locs1 (cells + mc) (slots + ms) Q (F0 m (pc + 3) ls (.long r :: rest))) : W p l e R s m args below meth c H locs cells slots Q (F0 m pc ls st0) := by
  intro T hT X
  rcases hr T hT X with ⟨v, st₀, t, T', L, h0, X', hL, e1, e2, ⟨⟨r, u, hv, hp, hb⟩, hF⟩, st⟩ | ⟨q, st₀, t, T', L, E, ce, h0, X', hL, e1, e2, ⟨u, hp, hb, hF⟩, hce, hcv, hcl, st⟩
  · cases hv
    obtain ⟨k1, k2, k3⟩ := vx_keep h0 e1 hS hA hf hL hF
    obtain ⟨t2, a1, b1⟩ := kk r u t T'.heap (locs ++ L) e1.symm (by rw [← e2]; exact X'.warmed.alike) hp hb k1 k2 k3 T' rfl X'
    exact ⟨t2, st t2 a1, b1⟩
  · obtain ⟨k1, k2, k3⟩ := vx_keep h0 e1 hS hAX hf hL hF
    obtain ⟨t2, a1, b1⟩ := kx E ce q u t T'.heap (locs ++ L) e1.symm (by rw [← e2]; exact X'.warmed.alike) hp hb k1 k2 k3 (by rw [e1]; exact hce) hcv hcl T' rfl X'
    exact ⟨t2, st.trans a1, b1⟩
theorem vx_callf {S SX : Type} {post : UInt32 → S → Prop} {px : SX → Prop} {B : S → State → Prop} {BX : String → SX → State → Prop} {AX : Nat → Prop} (hr : vx_Run p l e R s m args below meth c H locs cells slots mc ms (F0 m pc ls st0) rest (va_Qf post B A1 a) (vx_X px BX AX) free) (hS : va_S A0 H0 H locs) (hA : ∀ q, q < H.size → A1 q → A0 q) (hf : ∀ q, free q → A0 q) (hAX : ∀ q, q < H.size → AX q → A0 q)
    (kx : ∀ (E : String) (ce : Cell) (q9 : Addr) (u : SX) (t : State) (H1 : Heap) (locs1 : List Loc), t.heap = H1 → s.vm.Alike t.vm → px u → BX E u t → H.size ≤ H1.size → (∀ q : Nat, q < H.size → ¬ AX q → H1[q]? = H[q]?) → va_S A0 H0 H1 locs1 → H1[q9]? = some ce → ce.vm = .none → s.vm.findClass E = some ce.cls → vx_W p l e R s m args below meth c H1 locs1 (cells + mc) (slots + ms) Q (F0 m pc ls rest) q9)
    (kk : ∀ (r : UInt32) (u : S) (t : State) (H1 : Heap) (locs1 : List Loc), t.heap = H1 → s.vm.Alike t.vm → post r u → B u t → H.size ≤ H1.size → (∀ q : Nat, q < H.size → ¬ A1 q → H1[q]? = H[q]?) → va_S A0 H0 H1 locs1 → W p l e R s m args below meth c H1 locs1 (cells + mc) (slots + ms) Q (F0 m (pc + 3) ls (.float r :: rest))) : W p l e R s m args below meth c H locs cells slots Q (F0 m pc ls st0) := by
  intro T hT X
  rcases hr T hT X with ⟨v, st₀, t, T', L, h0, X', hL, e1, e2, ⟨⟨r, u, hv, hp, hb⟩, hF⟩, st⟩ | ⟨q, st₀, t, T', L, E, ce, h0, X', hL, e1, e2, ⟨u, hp, hb, hF⟩, hce, hcv, hcl, st⟩
  · cases hv
    obtain ⟨k1, k2, k3⟩ := vx_keep h0 e1 hS hA hf hL hF
    obtain ⟨t2, a1, b1⟩ := kk r u t T'.heap (locs ++ L) e1.symm (by rw [← e2]; exact X'.warmed.alike) hp hb k1 k2 k3 T' rfl X'
    exact ⟨t2, st t2 a1, b1⟩
  · obtain ⟨k1, k2, k3⟩ := vx_keep h0 e1 hS hAX hf hL hF
    obtain ⟨t2, a1, b1⟩ := kx E ce q u t T'.heap (locs ++ L) e1.symm (by rw [← e2]; exact X'.warmed.alike) hp hb k1 k2 k3 (by rw [e1]; exact hce) hcv hcl T' rfl X'
    exact ⟨t2, st.trans a1, b1⟩
theorem vx_calld {S SX : Type} {post : UInt64 → S → Prop} {px : SX → Prop} {B : S → State → Prop} {BX : String → SX → State → Prop} {AX : Nat → Prop} (hr : vx_Run p l e R s m args below meth c H locs cells slots mc ms (F0 m pc ls st0) rest (va_Qd post B A1 a) (vx_X px BX AX) free) (hS : va_S A0 H0 H locs) (hA : ∀ q, q < H.size → A1 q → A0 q) (hf : ∀ q, free q → A0 q) (hAX : ∀ q, q < H.size → AX q → A0 q)
    (kx : ∀ (E : String) (ce : Cell) (q9 : Addr) (u : SX) (t : State) (H1 : Heap) (locs1 : List Loc), t.heap = H1 → s.vm.Alike t.vm → px u → BX E u t → H.size ≤ H1.size → (∀ q : Nat, q < H.size → ¬ AX q → H1[q]? = H[q]?) → va_S A0 H0 H1 locs1 → H1[q9]? = some ce → ce.vm = .none → s.vm.findClass E = some ce.cls → vx_W p l e R s m args below meth c H1 locs1 (cells + mc) (slots + ms) Q (F0 m pc ls rest) q9)
    (kk : ∀ (r : UInt64) (u : S) (t : State) (H1 : Heap) (locs1 : List Loc), t.heap = H1 → s.vm.Alike t.vm → post r u → B u t → H.size ≤ H1.size → (∀ q : Nat, q < H.size → ¬ A1 q → H1[q]? = H[q]?) → va_S A0 H0 H1 locs1 → W p l e R s m args below meth c H1 locs1 (cells + mc) (slots + ms) Q (F0 m (pc + 3) ls (.double r :: rest))) : W p l e R s m args below meth c H locs cells slots Q (F0 m pc ls st0) := by
  intro T hT X
  rcases hr T hT X with ⟨v, st₀, t, T', L, h0, X', hL, e1, e2, ⟨⟨r, u, hv, hp, hb⟩, hF⟩, st⟩ | ⟨q, st₀, t, T', L, E, ce, h0, X', hL, e1, e2, ⟨u, hp, hb, hF⟩, hce, hcv, hcl, st⟩
  · cases hv
    obtain ⟨k1, k2, k3⟩ := vx_keep h0 e1 hS hA hf hL hF
    obtain ⟨t2, a1, b1⟩ := kk r u t T'.heap (locs ++ L) e1.symm (by rw [← e2]; exact X'.warmed.alike) hp hb k1 k2 k3 T' rfl X'
    exact ⟨t2, st t2 a1, b1⟩
  · obtain ⟨k1, k2, k3⟩ := vx_keep h0 e1 hS hAX hf hL hF
    obtain ⟨t2, a1, b1⟩ := kx E ce q u t T'.heap (locs ++ L) e1.symm (by rw [← e2]; exact X'.warmed.alike) hp hb k1 k2 k3 (by rw [e1]; exact hce) hcv hcl T' rfl X'
    exact ⟨t2, st.trans a1, b1⟩
theorem vx_callv {S SX : Type} {post : S → Prop} {px : SX → Prop} {B : S → State → Prop} {BX : String → SX → State → Prop} {AX : Nat → Prop} (hr : vx_Run p l e R s m args below meth c H locs cells slots mc ms (F0 m pc ls st0) rest (va_Qv post B A1 a) (vx_X px BX AX) free) (hS : va_S A0 H0 H locs) (hA : ∀ q, q < H.size → A1 q → A0 q) (hf : ∀ q, free q → A0 q) (hAX : ∀ q, q < H.size → AX q → A0 q)
    (kx : ∀ (E : String) (ce : Cell) (q9 : Addr) (u : SX) (t : State) (H1 : Heap) (locs1 : List Loc), t.heap = H1 → s.vm.Alike t.vm → px u → BX E u t → H.size ≤ H1.size → (∀ q : Nat, q < H.size → ¬ AX q → H1[q]? = H[q]?) → va_S A0 H0 H1 locs1 → H1[q9]? = some ce → ce.vm = .none → s.vm.findClass E = some ce.cls → vx_W p l e R s m args below meth c H1 locs1 (cells + mc) (slots + ms) Q (F0 m pc ls rest) q9)
    (kk : ∀ (u : S) (t : State) (H1 : Heap) (locs1 : List Loc), t.heap = H1 → s.vm.Alike t.vm → post u → B u t → H.size ≤ H1.size → (∀ q : Nat, q < H.size → ¬ A1 q → H1[q]? = H[q]?) → va_S A0 H0 H1 locs1 → W p l e R s m args below meth c H1 locs1 (cells + mc) (slots + ms) Q (F0 m (pc + 3) ls (rest))) : W p l e R s m args below meth c H locs cells slots Q (F0 m pc ls st0) := by
  intro T hT X
  rcases hr T hT X with ⟨v, st₀, t, T', L, h0, X', hL, e1, e2, ⟨⟨u, hv, hp, hb⟩, hF⟩, st⟩ | ⟨q, st₀, t, T', L, E, ce, h0, X', hL, e1, e2, ⟨u, hp, hb, hF⟩, hce, hcv, hcl, st⟩
  · cases hv
    obtain ⟨k1, k2, k3⟩ := vx_keep h0 e1 hS hA hf hL hF
    obtain ⟨t2, a1, b1⟩ := kk u t T'.heap (locs ++ L) e1.symm (by rw [← e2]; exact X'.warmed.alike) hp hb k1 k2 k3 T' rfl X'
    exact ⟨t2, st t2 a1, b1⟩
  · obtain ⟨k1, k2, k3⟩ := vx_keep h0 e1 hS hAX hf hL hF
    obtain ⟨t2, a1, b1⟩ := kx E ce q u t T'.heap (locs ++ L) e1.symm (by rw [← e2]; exact X'.warmed.alike) hp hb k1 k2 k3 (by rw [e1]; exact hce) hcv hcl T' rfl X'
    exact ⟨t2, st.trans a1, b1⟩
/-- caught by the row x of this method's table; the rows ahead don't take it -/
theorem vx_catch {own name : String} {E : String} {ce : Cell} {q : Addr} (hown : s.vm.findClass own = some m.cls) (pre : List ExceptionTableEntry) (x : ExceptionTableEntry) (suf : List ExceptionTableEntry) (hsplit : c.exceptionTable.toList = pre ++ x :: suf)
    (hpass : ∀ z ∈ pre, covers z pc = false ∨ (z.catchType ≠ 0 ∧ ∃ nm : String, (Cond.classLink own z.catchType nm).before args s = true ∧ va_Nc E nm s)) (hx : covers x pc = true) (h0 : x.catchType ≠ 0)
    (hlink : (Cond.classLink own x.catchType name).before args s = true) (hcast : (Cond.castable E name).before args s = true) (hcell : H[q]? = some ce) (hv : ce.vm = .none) (hcl : s.vm.findClass E = some ce.cls)
    (kk : W p l e R s m args below meth c H locs cells slots Q (F0 m x.handlerPc ls [.ref q])) : vx_W p l e R s m args below meth c H locs cells slots Q (F0 m pc ls rest) q := by
  intro T hT X
  have hpl : e.platform.magicAccessors = ({} : Platform).magicAccessors := by rw [X.admits.platform]
  obtain ⟨c3, c4, hc3, hc4, hasg⟩ := Cond.castable_spec hcast
  cases Option.some.inj (hc3.symm.trans hcl)
  obtain ⟨c5, hc5, hcl5⟩ := Cond.classLink_spec hown hlink e.platform hpl
  cases Option.some.inj (hc4.symm.trans hc5)
  obtain ⟨vm', X', st⟩ := X.thenCaughtThrough q (g := F0 m pc ls rest) rfl (Steps.refl _) (by rw [hT]; exact hcell) (by rw [hv]; rfl) (by obtain ⟨k9, h9, -⟩ := Vm.findClass_spec hcl; exact ⟨k9, h9⟩) pre x suf hsplit
    (fun z hz => by
      rcases hpass z hz with h | ⟨hz0, nm, hl1, hn1⟩
      · exact Or.inl h
      · obtain ⟨c6, hc6, hcl6⟩ := Cond.classLink_spec hown hl1 e.platform hpl
        obtain ⟨a8, b8, h1, h2, h3⟩ := hn1
        cases Option.some.inj (h1.symm.trans hcl)
        cases Option.some.inj (h2.symm.trans hc6)
        exact Or.inr ⟨hz0, _, hcl6, h3⟩) hx (Or.inr ⟨h0, c4, hcl5, hasg⟩)
  obtain ⟨t, a1, b1⟩ := kk (T.setVm vm') hT X'
  exact ⟨t, st.trans a1, b1⟩
end Rows
section Ends
variable {p : Program} {l : Launch} {e : Env} {R : Room} {s : State} {m : MethodId} {args : Array Value} {below : List Frame} {meth : Method} {c : Code} {H : Heap} {locs : List Loc} {cells slots : Nat} {Q : State → Prop}
variable {mc ms : Nat} {free : Addr → Prop} {A0 A1 : Nat → Prop} {H0 : Heap} {a : Array Value} {ls : Array Slot} {st0 rest : List Value}
variable {Qc : Array Value → State → Outcome → State → Prop} {XC : String → State → State → Prop}
/-- what a body that may throw owes at its end -/
def vx_MQ (below : List Frame) (Qc : Array Value → State → Outcome → State → Prop) (XC : String → State → State → Prop) (a : Array Value) (s : State) (mc ms : Nat) (free : Addr → Prop) : State → Prop := fun t =>
  ∃ o, t.status = .running ∧ Ended t below o ∧ vx_Q Qc XC mc ms free a s o t
theorem vx_ret {g : JFrame} {mc ms : Nat} (k : W p l e R s m args below meth c H locs cells slots (MQ below Qc args s mc ms free) g) : W p l e R s m args below meth c H locs cells slots (vx_MQ below Qc XC args s mc ms free) g := by
  intro T hT X
  obtain ⟨t, a1, o, b1, b2, b3, b4⟩ := k T hT X
  exact ⟨t, a1, o, b1, b2, Or.inl ⟨b3, b4⟩⟩
/-- not caught here: it goes on to the caller -/
theorem vx_widen {g : JFrame} {q : Addr} {k n : Nat} (h1 : cells ≤ k) (h2 : slots ≤ n) (kk : vx_W p l e R s m args below meth c H locs k n Q g q) : vx_W p l e R s m args below meth c H locs cells slots Q g q := fun T hT X => kk T hT (stand_widen X h1 h2)
theorem vx_out {pc : Nat} {E : String} {ce : Cell} {q : Addr} {mc ms : Nat} (hout : ∀ x ∈ c.exceptionTable.toList, covers x pc = false) (hlocks : meth.locks = false) (hcell : H[q]? = some ce) (hv : ce.vm = .none) (hcl : s.vm.findClass E = some ce.cls)
    (hx : ∀ t : State, t.heap = H → s.vm.Alike t.vm → XC E s t) (hf : ∀ z ∈ locs, free z.base) (hc : cells ≤ mc) (hs : slots ≤ ms) :
    vx_W p l e R s m args below meth c H locs cells slots (vx_MQ below Qc XC args s mc ms free) (F0 m pc ls rest) q := by
  intro T hT X
  obtain ⟨st1, hrun, hend, hW, hsm⟩ := X.leaveThrown q (g := F0 m pc ls rest) rfl rfl rfl hout hlocks
  have hcell9 : (T.setFrames (.throwing q :: below)).heap[q]? = some ce := by
    show T.heap[q]? = some ce
    rw [hT]; exact hcell
  exact ⟨_, st1, .threw q, hrun, hend, Or.inr ⟨q, rfl, E, ce, locs, hx _ hT hW.alike, hcell9, hv, hcl, hW, hsm.mono hc hs, hf⟩⟩
theorem vx_frame {U : State} {k n : Nat} (h : s.sameButNew ({ U with vm := s.vm } : State) locs k n) : s.heap.size ≤ U.heap.size ∧ ∀ q : Nat, q < s.heap.size → (∀ z ∈ locs, z.base ≠ q) → U.heap[q]? = s.heap[q]? := by
  obtain ⟨-, h2, -, -, -, h6⟩ := h
  refine ⟨h2, fun q hq hz => ?_⟩
  obtain ⟨c9, e1, e2, e3, e4⟩ := h6 q _ (Array.getElem?_eq_getElem hq)
  have hs : c9.slots = (s.heap[q]).slots := Array.ext_getElem? fun i => e4 i fun hm => hz _ hm rfl
  have h9 : c9 = s.heap[q] := by
    rw [hs] at e2
    exact e2
  have e5 : U.heap[q]? = some c9 := e1
  rw [e5, h9, Array.getElem?_eq_getElem hq]
/-- the words of a throw but the four that speak of the heap -/
def vx_no (w : Cond) : Bool := decide (w ≠ .isRef (.static Bundle.tN "UNASSIGNED_STACK" Bundle.steD)) && decide (w ≠ .isRef (.static Bundle.tN "SUPPRESSED_SENTINEL" Bundle.listD)) && decide (w ≠ .laysStatic Bundle.tN "UNASSIGNED_STACK" Bundle.steD) && decide (w ≠ .laysStatic Bundle.tN "SUPPRESSED_SENTINEL" Bundle.listD)
def vx_at0 (own : String) (ic : Nat) (X : String) (names : List String) : List Cond := (Bundle.ownAtoms0 own ic X names).filter vx_no
def vx_atS (own : String) (ic : Nat) (X : String) (names : List String) : List Cond := (Bundle.ownAtoms own ic X names).filter vx_no
/-- a word that the tables alone decide, or a good one -/
def vx_ot (w : Cond) : Bool := w.onTables || goodWord w
theorem vx_ot_at {args a' : Array Value} {s U : State} {w : Cond} (hW : s.WarmedH U.vm) (hvm : s.vm = U.vm) (hg : vx_ot w = true) (h : w.before args s = true) : w.before a' U = true := by
  simp only [vx_ot, Bool.or_eq_true] at hg
  rcases hg with hg | hg
  · exact va_tabs hg hvm h
  · exact word_at hW (good_of_word hg) h
/-- a list's words: the good ones out of the method's own list, the others by premises of their own -/
theorem vx_hat {args : Array Value} {s : State} {L B : List Cond} (h1 : ∀ w ∈ L.filter goodWord, w.before args s = true) (h2 : ∀ w ∈ L.filter (fun w => !goodWord w), w ∈ B) (h3 : ∀ w ∈ B, w.before args s = true) : ∀ w ∈ L, w.before args s = true := by
  intro w hw
  by_cases g : goodWord w = true
  · exact h1 w (List.mem_filter.mpr ⟨hw, g⟩)
  · refine h3 w (h2 w (List.mem_filter.mpr ⟨hw, ?_⟩))
    show (!goodWord w) = true
    cases hgw : goodWord w
    · rfl
    · exact absurd hgw g
theorem vx_c {args : Array Value} {s : State} {w : Cond} {B : List Cond} (h : w.before args s = true) (t : ∀ w ∈ B, w.before args s = true) : ∀ w' ∈ w :: B, w'.before args s = true := fun w' h' => (List.mem_cons.mp h').elim (fun e => by rw [e]; exact h) (t w')
theorem vx_n {args : Array Value} {s : State} : ∀ w ∈ ([] : List Cond), w.before args s = true := fun _ h => nomatch h
theorem vx_own {args : Array Value} {s : State} {L : List Cond} (h1 : ∀ w ∈ L.filter vx_no, w.before args s = true)
    (hU : (Cond.isRef (.static Bundle.tN "UNASSIGNED_STACK" Bundle.steD)).before args s = true) (hN : (Cond.isRef (.static Bundle.tN "SUPPRESSED_SENTINEL" Bundle.listD)).before args s = true)
    (lU : (Cond.laysStatic Bundle.tN "UNASSIGNED_STACK" Bundle.steD).before args s = true) (lN : (Cond.laysStatic Bundle.tN "SUPPRESSED_SENTINEL" Bundle.listD).before args s = true) : ∀ w ∈ L, w.before args s = true := by
  intro w hw
  by_cases e1 : w = .isRef (.static Bundle.tN "UNASSIGNED_STACK" Bundle.steD)
  · rw [e1]; exact hU
  · by_cases e2 : w = .isRef (.static Bundle.tN "SUPPRESSED_SENTINEL" Bundle.listD)
    · rw [e2]; exact hN
    · by_cases e3 : w = .laysStatic Bundle.tN "UNASSIGNED_STACK" Bundle.steD
      · rw [e3]; exact lU
      · by_cases e4 : w = .laysStatic Bundle.tN "SUPPRESSED_SENTINEL" Bundle.listD
        · rw [e4]; exact lN
        · exact h1 w (List.mem_filter.mpr ⟨hw, by unfold vx_no; rw [decide_eq_true e1, decide_eq_true e2, decide_eq_true e3, decide_eq_true e4]; rfl⟩)
/-- where a static field lies, its class's statics cell in H -/
def vx_L (C n d : String) (A : Nat → Prop) (U : State) (H : Heap) : Prop := ∃ (c : ClassId) (k : Class) (i : Nat) (f : Field) (a : Nat) (cell : Cell), U.vm.findClass C = some c ∧ U.fieldFound? C n d = some (c, k, i, f) ∧ f.isStatic = true ∧ k.statics = some a ∧ H[a]? = some cell ∧ cell.vm.isStatics = true ∧ cell.cls = c ∧ f.slot < cell.slots.size ∧ k.staticTypes[f.slot]? = some f.type ∧ ¬ A a
theorem vx_L.moved {C n d : String} {A : Nat → Prop} {u U : State} {H : Heap} (hvm : u.vm.Alike U.vm) (h : vx_L C n d A u H) : vx_L C n d A U H := by
  obtain ⟨c, k, i, f, a, cell, h1, h2, h3, h4, h5, h6, h7, h8, h9, h10⟩ := h
  obtain ⟨k', hi', he⟩ := State.fieldFound?_setVm hvm h2
  exact ⟨c, k', i, f, a, cell, by rw [hvm.findClass]; exact h1, hi', h3, by rw [he]; exact h4, h5, h6, h7, h8, by rw [he]; exact h9, h10⟩
theorem vx_L.kept {C n d : String} {A : Nat → Prop} {U : State} {H H1 : Heap} (h : vx_L C n d A U H) (hq : ∀ a : Nat, a < H.size → ¬ A a → H1[a]? = H[a]?) : vx_L C n d A U H1 := by
  obtain ⟨c, k, i, f, a, cell, h1, h2, h3, h4, h5, h6, h7, h8, h9, h10⟩ := h
  exact ⟨c, k, i, f, a, cell, h1, h2, h3, h4, by rw [hq a (Array.getElem?_eq_some_iff.mp h5).1 h10]; exact h5, h6, h7, h8, h9, h10⟩
theorem vx_L.narrow {C n d : String} {A B : Nat → Prop} {U : State} {H : Heap} (h : vx_L C n d A U H) (hAB : ∀ q, B q → A q) : vx_L C n d B U H := by
  obtain ⟨c, k, i, f, a, cell, h1, h2, h3, h4, h5, h6, h7, h8, h9, h10⟩ := h
  exact ⟨c, k, i, f, a, cell, h1, h2, h3, h4, h5, h6, h7, h8, h9, fun z => h10 (hAB _ z)⟩
theorem vx_L.word {C n d : String} {A : Nat → Prop} {s : State} {args : Array Value} (h : vx_L C n d A s s.heap) : (Cond.laysStatic C n d).before args s = true := by
  obtain ⟨c, k, i, f, a, cell, h1, h2, h3, h4, h5, h6, h7, h8, h9, -⟩ := h
  show (Cond.laysStatic C n d).holds args s none s [] = true
  exact Cond.laysStatic_of h1 h2 h3 h4 h5 h6 h7 h8 h9
/-- .. and what it holds: null or some reference -/
def vx_Zq (C n d : String) (A : Nat → Prop) (U : State) (H : Heap) : Prop := va_Zq C n d A U H ∧ vx_L C n d A U H
theorem vx_Zq.moved {C n d : String} {A : Nat → Prop} {u U : State} {H : Heap} (hvm : u.vm.Alike U.vm) (h : vx_Zq C n d A u H) : vx_Zq C n d A U H := ⟨va_Zq.moved hvm h.1, vx_L.moved hvm h.2⟩
theorem vx_Zq.kept {C n d : String} {A : Nat → Prop} {U : State} {H H1 : Heap} (h : vx_Zq C n d A U H) (hq : ∀ a : Nat, a < H.size → ¬ A a → H1[a]? = H[a]?) : vx_Zq C n d A U H1 := ⟨va_Zq.kept h.1 hq, vx_L.kept h.2 hq⟩
theorem vx_Zq.narrow {C n d : String} {A B : Nat → Prop} {U : State} {H : Heap} (h : vx_Zq C n d A U H) (hAB : ∀ q, B q → A q) : vx_Zq C n d B U H := ⟨va_Zq.narrow h.1 hAB, vx_L.narrow h.2 hAB⟩
theorem vx_Zqof {args : Array Value} {s : State} {C n d : String} {A : Nat → Prop} (hl : (Cond.laysStatic C n d).before args s = true) (hini : (Cond.initialized C).before args s = true) (h : (Cond.isRef (.static C n d)).before args s = true) (hA : ∀ a : Nat, a < s.heap.size → ¬ A a) : vx_Zq C n d A s s.heap := by
  refine ⟨va_Zqof hl hini h hA, ?_⟩
  obtain ⟨c, k, i, f, a, cell, h1, h2, h3, h4, h5, h6, h7, h8, h9⟩ := Cond.laysStatic_spec hl
  exact ⟨c, k, i, f, a, cell, h1, h2, h3, h4, h5, h6, h7, h8, h9, hA a (Array.getElem?_eq_some_iff.mp h5).1⟩
theorem vx_isRef {C n d : String} {v : Value} {A : Nat → Prop} {s : State} {args : Array Value} (h : va_Z C n d v A s s.heap) (hv : v.isRef = true) : (Cond.isRef (.static C n d)).before args s = true := by
  obtain ⟨cf, kf, fi, f, a, cell, h1, h2, h3, h4, h5, h6, h7, -⟩ := h
  have he : (Term.static C n d).eval args s none [] s = some v := by
    simp [Term.eval, State.fieldNamed?, h1, h2, h4, h5, h6, h7]
  simp only [Cond.before, Cond.holds, Cond.value, he]
  cases v <;> simp_all [Value.isRef]
theorem vx_isRefq {C n d : String} {A : Nat → Prop} {s : State} {args : Array Value} (h : va_Zq C n d A s s.heap) : (Cond.isRef (.static C n d)).before args s = true := by
  rcases h with h | ⟨t, h⟩
  · exact vx_isRef h rfl
  · exact vx_isRef h rfl
/-- the same frame, seen from here: as if the method were called anew in this heap -/
theorem vx_rebase {T : State} (X : Stand p l e R s m args below meth c T locs cells slots) {R' : Room} (hf : R'.frames ≤ R.frames) (hl : R'.locals ≤ R.locals) (hc : cells + R'.cells ≤ R.cells) (hs : slots + R'.slots ≤ R.slots) :
    Stand p l e R' ((T.setVm s.vm).setFrames (.invoking m args :: below)) m args below meth c T [] 0 0 := by
  have htop : (T.setVm s.vm).topJava?.isSome := X.here.top
  have hF : ((T.setVm s.vm).setFrames (.invoking m args :: below)).frames = .invoking m args :: below := State.frames_setFrames _ (State.cur_lt_of_top htop)
  obtain ⟨g₀, hg0⟩ := Option.isSome_iff_exists.mp htop
  obtain ⟨r, hr⟩ := State.topJava?_eq_some.mp hg0
  have hl9 : e.platform.stackLimits (T.setVm s.vm).me = e.platform.stackLimits s.me := X.limits
  have hb9 : (T.setVm s.vm).me.stackBytes = s.me.stackBytes := X.bytes
  refine ⟨X.admits, X.cas, X.clock, hF, ?_, X.hears, X.method, X.code, X.here, X.tail, X.warmed, ?_, ?_, ?_⟩
  · have h := X.room
    have hU : ((T.setVm s.vm).setFrames (.invoking m args :: below)).localsInUse = s.localsInUse := by
      rw [State.localsInUse_invoking hF (meth := meth) (c := c) X.method X.code, State.localsInUse_invoking X.frames X.method X.code]
    simp only [State.hasRoom, Bool.and_eq_true, decide_eq_true_eq] at h ⊢
    obtain ⟨⟨⟨⟨h1, h2, h3, h4, h5, h6⟩, h7⟩, h8⟩, h9⟩ := h
    rw [X.frames, List.length_cons] at h2 h3
    have q1 := X.heapSize
    have q2 := X.used
    simp only [hF, hU, List.length_cons, State.stackLimits_setFrames, State.stackBytes_setFrames, hl9, hb9]
    refine ⟨⟨⟨⟨by omega, by omega, by omega, by omega, by omega, h6⟩, ?_⟩, ?_⟩, X.book⟩
    · show T.heap.size + R'.cells ≤ e.platform.maxCells
      omega
    · show T.slotsUsed + R'.slots ≤ e.platform.maxSlots
      omega
  · rw [State.stackLimits_setFrames]; rfl
  · rw [State.stackBytes_setFrames]; rfl
  · refine ⟨?_, Nat.le_refl _, Nat.le_refl _, ?_, ?_, fun a c9 h9 => ⟨c9, h9, rfl, rfl, fun _ _ => rfl⟩⟩
    · obtain ⟨t, ht, -⟩ := State.frames_cons hr
      show T.setVm s.vm = { ((T.setVm s.vm).setFrames (.invoking m args :: below)).setFrames (T.setVm s.vm).frames with heap := T.heap, slotsUsed := T.slotsUsed }
      rw [State.setFrames_setFrames, State.setFrames_self ht]
      rfl
    · show T.slotsUsed = T.slotsUsed + ((T.heap.toList.drop T.heap.size).map (·.slots.size)).sum
      rw [List.drop_eq_nil_of_le (Nat.le_of_eq Array.length_toList)]
      rfl
    · show ((T.heap.toList.drop T.heap.size).map (·.slots.size)).sum ≤ 0
      rw [List.drop_eq_nil_of_le (Nat.le_of_eq Array.length_toList)]
      exact Nat.le_refl _
/-- 'throw new E()': new; dup; invokespecial; athrow -/
theorem vx_throw0 {cc : ByteArray} {pc : Nat} (hexec : p.tables.exec = Jvm.exec) (hb : c.code = cc) (hl : l.stackTraces = false) {own cls : String} {names : List String} {ik ic mc ms : Nat} {A : Nat → Prop}
    (hown : s.vm.findClass own = some m.cls) (hcls : Bundle.fit cls = true) (hnames : ∀ n ∈ names, Bundle.fit n = true)
    (hk : (Cond.classLink own ik cls).before args s = true) (hini : (Cond.initialized cls).before args s = true) (hat : ∀ w ∈ vx_at0 own ic cls names, w.before args s = true)
    (hgood : ∀ w ∈ Cond.classLink own ik cls :: Cond.initialized cls :: vx_at0 own ic cls names, vx_ot w = true)
    (hU : vx_Zq Bundle.tN "UNASSIGNED_STACK" Bundle.steD A s s.heap) (hN : vx_Zq Bundle.tN "SUPPRESSED_SENTINEL" Bundle.listD A s s.heap) (hS : va_S A s.heap H locs) (hsize : ls.size = c.maxLocals)
    (d0 : decode cc pc = .ok (.new ik, 3)) (d3 : decode cc (pc + 3) = .ok (.dup, 1)) (d4 : decode cc (pc + 4) = .ok (.invokespecial ic, 3)) (d7 : decode cc (pc + 7) = .ok (.athrow, 1))
    (hout : ∀ x ∈ c.exceptionTable.toList, covers x (pc + 7) = false)
    (hRframes : names.length + 3 < R.frames) (hRlocals : (rest.map fun v => v.category).sum + (13 * (names.length + 1) + 42) ≤ R.locals) (hRcells : cells + 1 ≤ R.cells) (hRslots : slots + 6 ≤ R.slots) (hlocks : meth.locks = false)
    (hx : ∀ t : State, s.vm.Alike t.vm → H.size ≤ t.heap.size → (∀ q : Nat, q < H.size → t.heap[q]? = H[q]?) → XC cls s t)
    (hf : ∀ z ∈ locs, free z.base) (hc : cells + 1 ≤ mc) (hs : slots + 6 ≤ ms) :
    W p l e R s m args below meth c H locs cells slots (vx_MQ below Qc XC args s mc ms free) (F0 m pc ls rest) := by
  intro T hT X
  have htr : e.platform.stackTraces = false := (show e.platform.stackTraces = l.stackTraces by rw [X.admits.platform]).trans hl
  have Y := vx_rebase X (R' := { frames := R.frames, locals := R.locals, cells := 1, slots := 6 }) (Nat.le_refl _) (Nat.le_refl _) hRcells hRslots
  obtain ⟨s', hA⟩ : ∃ z, z = (T.setVm s.vm).setFrames (.invoking m args :: below) := ⟨_, rfl⟩
  rw [← hA] at Y
  have hvm : s'.vm = s.vm := by rw [hA]; rfl
  have hhp : s'.heap = H := by rw [hA]; exact hT
  have hW0 : s.WarmedH s'.vm := by rw [hvm]; exact State.WarmedH.refl s
  have hat' : ∀ w ∈ vx_at0 own ic cls names, w.before args s' = true := fun w hw => vx_ot_at hW0 hvm.symm (hgood w (List.mem_cons_of_mem _ (List.mem_cons_of_mem _ hw))) (hat w hw)
  have hk' : (Cond.classLink own ik cls).before args s' = true := vx_ot_at hW0 hvm.symm (hgood _ List.mem_cons_self) hk
  have hini' : (Cond.initialized cls).before args s' = true := vx_ot_at hW0 hvm.symm (hgood _ (List.mem_cons_of_mem _ List.mem_cons_self)) hini
  have hU' : vx_Zq Bundle.tN "UNASSIGNED_STACK" Bundle.steD A s' s'.heap := by rw [hhp]; exact vx_Zq.moved hW0.alike (hU.kept hS.2.1)
  have hN' : vx_Zq Bundle.tN "SUPPRESSED_SENTINEL" Bundle.listD A s' s'.heap := by rw [hhp]; exact vx_Zq.moved hW0.alike (hN.kept hS.2.1)
  have h : ∀ w ∈ Bundle.ownAtoms0 own ic cls names, w.before args s' = true := vx_own hat' (vx_isRefq hU'.1) (vx_isRefq hN'.1) hU'.2.word hN'.2.word
  have hown' : s'.vm.findClass own = some m.cls := by rw [hvm]; exact hown
  have hins : (Cond.instantiable cls 6).before args s' = true := h _ (by simp [Bundle.ownAtoms0])
  obtain ⟨vm₁, cX, kX, hfX, hkX, -, -, X₁, st1⟩ := Y.newCold hexec (own := own) (C := cls) (index := ik) (n := 6) hown' hk' hins hini'
    (g := F0 m pc ls rest) rfl (by rw [hb]; exact d0) (Nat.le_refl _) (Nat.le_refl _)
  generalize hT1 : (T.setVm vm₁).pushCell { cls := cX, slots := kX.instanceTypes.map defaultValue, vm := .none } = T1 at X₁ st1
  have hcat : (Value.ref T.heap.size).category = 1 := rfl
  have hcellA : T1.heap[T.heap.size]? = some (freshCell cX kX) := by rw [← hT1]; exact State.heap_pushCell_size _ _
  have d3' : decode c.code (pc + 3) = .ok (.dup, 1) := by rw [hb]; exact d3
  obtain ⟨U, hsteps, hrun, hend, hW, hsame, ce, hce, hO⟩ := X₁.ctorThrow0 hexec htr (own := own) (cls := cls) (names := names) (ic := ic) hown' hcls hnames h (fun x hx => nomatch hx) hfX hkX hcellA (by rw [hhp, hT]; exact Nat.le_refl _)
    (g := { method := m, pc := pc + 4, locals := ls, stack := .ref T.heap.size :: .ref T.heap.size :: rest, locked := none }) rfl hsize rfl rfl (rest := rest) rfl
    (by rw [hb]; exact d4) (by rw [hb]; exact d7) hout hRframes (by simp only [List.map_cons, List.sum_cons, hcat]; omega) hlocks
  obtain ⟨f1, f2⟩ := vx_frame hsame
  rw [hhp] at f1 f2
  have hWs : s.WarmedH U.vm := State.WarmedH.trans hW0 hW
  have hcl : s.vm.findClass cls = some ce.cls := by
    have h9 := hO.cls
    rw [hvm] at h9
    exact h9
  have hall : s.sameButNew ({ U with vm := s.vm } : State) locs mc ms := by
    subst hA
    obtain ⟨e1, e2⟩ := hsame
    rw [State.setFrames_setFrames] at e1
    have h2 : (T.setVm s.vm).sameButNew ({ U with vm := s.vm } : State) [] (0 + 1) (0 + 6) := ⟨e1, e2⟩
    have h3 := X.same.trans h2
    rw [List.append_nil] at h3
    exact h3.mono hc hs
  refine ⟨U, ?_, .threw T.heap.size, hrun, hend, Or.inr ⟨T.heap.size, rfl, cls, ce, locs, hx U hWs.alike f1 (fun q hq => f2 q hq (fun z hz => nomatch hz)), hce, hO.vm, hcl, hWs, hall, hf⟩⟩
  refine st1 _ ?_
  show Steps p.tables e below (T1.setTop { method := m, pc := pc + 3, locals := ls, stack := .ref T.heap.size :: rest, locked := none }) _
  jvm_step X₁.here [X₁.here.top, hexec, d3', Value.category]
  exact hsteps
/-- 'throw new E("text")': new; dup; ldc; invokespecial; athrow -/
theorem vx_throwS {cc : ByteArray} {pc : Nat} (hexec : p.tables.exec = Jvm.exec) (hb : c.code = cc) (hl : l.stackTraces = false) {own cls text : String} {names : List String} {ik is ic mc ms sa : Nat} {A : Nat → Prop}
    (hown : s.vm.findClass own = some m.cls) (hcls : Bundle.fit cls = true) (hnames : ∀ n ∈ names, Bundle.fit n = true)
    (hk : (Cond.classLink own ik cls).before args s = true) (hini : (Cond.initialized cls).before args s = true) (hstr : vk_R own is text sa s) (hat : ∀ w ∈ vx_atS own ic cls names, w.before args s = true)
    (hgood : ∀ w ∈ Cond.classLink own ik cls :: Cond.initialized cls :: vx_atS own ic cls names, vx_ot w = true)
    (hU : vx_Zq Bundle.tN "UNASSIGNED_STACK" Bundle.steD A s s.heap) (hN : vx_Zq Bundle.tN "SUPPRESSED_SENTINEL" Bundle.listD A s s.heap) (hS : va_S A s.heap H locs) (hsize : ls.size = c.maxLocals)
    (d0 : decode cc pc = .ok (.new ik, 3)) (d3 : decode cc (pc + 3) = .ok (.dup, 1)) (d4 : decode cc (pc + 4) = .ok (.ldc is, 2)) (d6 : decode cc (pc + 6) = .ok (.invokespecial ic, 3)) (d9 : decode cc (pc + 9) = .ok (.athrow, 1))
    (hout : ∀ x ∈ c.exceptionTable.toList, covers x (pc + 9) = false)
    (hRframes : names.length + 3 < R.frames) (hRlocals : (rest.map fun v => v.category).sum + (13 * (names.length + 1) + 43) ≤ R.locals) (hRcells : cells + 1 ≤ R.cells) (hRslots : slots + 6 ≤ R.slots) (hlocks : meth.locks = false)
    (hx : ∀ t : State, s.vm.Alike t.vm → H.size ≤ t.heap.size → (∀ q : Nat, q < H.size → t.heap[q]? = H[q]?) → XC cls s t)
    (hf : ∀ z ∈ locs, free z.base) (hc : cells + 1 ≤ mc) (hs : slots + 6 ≤ ms) :
    W p l e R s m args below meth c H locs cells slots (vx_MQ below Qc XC args s mc ms free) (F0 m pc ls rest) := by
  intro T hT X
  have htr : e.platform.stackTraces = false := (show e.platform.stackTraces = l.stackTraces by rw [X.admits.platform]).trans hl
  have Y := vx_rebase X (R' := { frames := R.frames, locals := R.locals, cells := 1, slots := 6 }) (Nat.le_refl _) (Nat.le_refl _) hRcells hRslots
  obtain ⟨s', hA⟩ : ∃ z, z = (T.setVm s.vm).setFrames (.invoking m args :: below) := ⟨_, rfl⟩
  rw [← hA] at Y
  have hvm : s'.vm = s.vm := by rw [hA]; rfl
  have hhp : s'.heap = H := by rw [hA]; exact hT
  have hW0 : s.WarmedH s'.vm := by rw [hvm]; exact State.WarmedH.refl s
  have hat' : ∀ w ∈ vx_atS own ic cls names, w.before args s' = true := fun w hw => vx_ot_at hW0 hvm.symm (hgood w (List.mem_cons_of_mem _ (List.mem_cons_of_mem _ hw))) (hat w hw)
  have hk' : (Cond.classLink own ik cls).before args s' = true := vx_ot_at hW0 hvm.symm (hgood _ List.mem_cons_self) hk
  have hini' : (Cond.initialized cls).before args s' = true := vx_ot_at hW0 hvm.symm (hgood _ (List.mem_cons_of_mem _ List.mem_cons_self)) hini
  have hU' : vx_Zq Bundle.tN "UNASSIGNED_STACK" Bundle.steD A s' s'.heap := by rw [hhp]; exact vx_Zq.moved hW0.alike (hU.kept hS.2.1)
  have hN' : vx_Zq Bundle.tN "SUPPRESSED_SENTINEL" Bundle.listD A s' s'.heap := by rw [hhp]; exact vx_Zq.moved hW0.alike (hN.kept hS.2.1)
  have h : ∀ w ∈ Bundle.ownAtoms own ic cls names, w.before args s' = true := vx_own hat' (vx_isRefq hU'.1) (vx_isRefq hN'.1) hU'.2.word hN'.2.word
  have hown' : s'.vm.findClass own = some m.cls := by rw [hvm]; exact hown
  have hins : (Cond.instantiable cls 6).before args s' = true := h _ (by simp [Bundle.ownAtoms])
  obtain ⟨vm₁, cX, kX, hfX, hkX, -, -, X₁, st1⟩ := Y.newCold hexec (own := own) (C := cls) (index := ik) (n := 6) hown' hk' hins hini'
    (g := F0 m pc ls rest) rfl (by rw [hb]; exact d0) (Nat.le_refl _) (Nat.le_refl _)
  generalize hT1 : (T.setVm vm₁).pushCell { cls := cX, slots := kX.instanceTypes.map defaultValue, vm := .none } = T1 at X₁ st1
  have hcat : (Value.ref T.heap.size).category = 1 := rfl
  have hcellA : T1.heap[T.heap.size]? = some (freshCell cX kX) := by rw [← hT1]; exact State.heap_pushCell_size _ _
  have d3' : decode c.code (pc + 3) = .ok (.dup, 1) := by rw [hb]; exact d3
  have d4' : decode c.code (pc + 4) = .ok (.ldc is, 2) := by rw [hb]; exact d4
  have hstr' : vk_R own is text sa s' := vk_R.warm hW0 hstr
  obtain ⟨U, hsteps, hrun, hend, hW, hsame, ce, hce, hO⟩ := X₁.ctorThrowS hexec htr (own := own) (cls := cls) (names := names) (ic := ic) hown' hcls hnames h (fun x hx => nomatch hx) hfX hkX hcellA (by rw [hhp, hT]; exact Nat.le_refl _) (msg := .ref sa) rfl
    (g := { method := m, pc := pc + 6, locals := ls, stack := .ref sa :: .ref T.heap.size :: .ref T.heap.size :: rest, locked := none }) rfl hsize rfl rfl (rest := rest) rfl
    (by rw [hb]; exact d6) (by rw [hb]; exact d9) hout hRframes (by simp only [List.map_cons, List.sum_cons, hcat]; omega) hlocks
  obtain ⟨f1, f2⟩ := vx_frame hsame
  rw [hhp] at f1 f2
  have hWs : s.WarmedH U.vm := State.WarmedH.trans hW0 hW
  have hcl : s.vm.findClass cls = some ce.cls := by
    have h9 := hO.cls
    rw [hvm] at h9
    exact h9
  have hall : s.sameButNew ({ U with vm := s.vm } : State) locs mc ms := by
    subst hA
    obtain ⟨e1, e2⟩ := hsame
    rw [State.setFrames_setFrames] at e1
    have h2 : (T.setVm s.vm).sameButNew ({ U with vm := s.vm } : State) [] (0 + 1) (0 + 6) := ⟨e1, e2⟩
    have h3 := X.same.trans h2
    rw [List.append_nil] at h3
    exact h3.mono hc hs
  refine ⟨U, ?_, .threw T.heap.size, hrun, hend, Or.inr ⟨T.heap.size, rfl, cls, ce, locs, hx U hWs.alike f1 (fun q hq => f2 q hq (fun z hz => nomatch hz)), hce, hO.vm, hcl, hWs, hall, hf⟩⟩
  refine st1 _ ?_
  show Steps p.tables e below (T1.setTop { method := m, pc := pc + 3, locals := ls, stack := .ref T.heap.size :: rest, locked := none }) _
  jvm_step X₁.here [X₁.here.top, hexec, d3', Value.category]
  exact X₁.ldcString hexec (own := own) (text := text) (index := is) (a := sa) hown' hstr'.1 hstr'.2
    (g := { method := m, pc := pc + 4, locals := ls, stack := .ref T.heap.size :: .ref T.heap.size :: rest, locked := none }) rfl d4' _ hsteps
/-- 'throw new E("text")', the text by a wide index -/
theorem vx_throwSW {cc : ByteArray} {pc : Nat} (hexec : p.tables.exec = Jvm.exec) (hb : c.code = cc) (hl : l.stackTraces = false) {own cls text : String} {names : List String} {ik is ic mc ms sa : Nat} {A : Nat → Prop}
    (hown : s.vm.findClass own = some m.cls) (hcls : Bundle.fit cls = true) (hnames : ∀ n ∈ names, Bundle.fit n = true)
    (hk : (Cond.classLink own ik cls).before args s = true) (hini : (Cond.initialized cls).before args s = true) (hstr : vk_R own is text sa s) (hat : ∀ w ∈ vx_atS own ic cls names, w.before args s = true)
    (hgood : ∀ w ∈ Cond.classLink own ik cls :: Cond.initialized cls :: vx_atS own ic cls names, vx_ot w = true)
    (hU : vx_Zq Bundle.tN "UNASSIGNED_STACK" Bundle.steD A s s.heap) (hN : vx_Zq Bundle.tN "SUPPRESSED_SENTINEL" Bundle.listD A s s.heap) (hS : va_S A s.heap H locs) (hsize : ls.size = c.maxLocals)
    (d0 : decode cc pc = .ok (.new ik, 3)) (d3 : decode cc (pc + 3) = .ok (.dup, 1)) (d4 : decode cc (pc + 4) = .ok (.ldc_w is, 3)) (d7 : decode cc (pc + 7) = .ok (.invokespecial ic, 3)) (d10 : decode cc (pc + 10) = .ok (.athrow, 1))
    (hout : ∀ x ∈ c.exceptionTable.toList, covers x (pc + 10) = false)
    (hRframes : names.length + 3 < R.frames) (hRlocals : (rest.map fun v => v.category).sum + (13 * (names.length + 1) + 43) ≤ R.locals) (hRcells : cells + 1 ≤ R.cells) (hRslots : slots + 6 ≤ R.slots) (hlocks : meth.locks = false)
    (hx : ∀ t : State, s.vm.Alike t.vm → H.size ≤ t.heap.size → (∀ q : Nat, q < H.size → t.heap[q]? = H[q]?) → XC cls s t)
    (hf : ∀ z ∈ locs, free z.base) (hc : cells + 1 ≤ mc) (hs : slots + 6 ≤ ms) :
    W p l e R s m args below meth c H locs cells slots (vx_MQ below Qc XC args s mc ms free) (F0 m pc ls rest) := by
  intro T hT X
  have htr : e.platform.stackTraces = false := (show e.platform.stackTraces = l.stackTraces by rw [X.admits.platform]).trans hl
  have Y := vx_rebase X (R' := { frames := R.frames, locals := R.locals, cells := 1, slots := 6 }) (Nat.le_refl _) (Nat.le_refl _) hRcells hRslots
  obtain ⟨s', hA⟩ : ∃ z, z = (T.setVm s.vm).setFrames (.invoking m args :: below) := ⟨_, rfl⟩
  rw [← hA] at Y
  have hvm : s'.vm = s.vm := by rw [hA]; rfl
  have hhp : s'.heap = H := by rw [hA]; exact hT
  have hW0 : s.WarmedH s'.vm := by rw [hvm]; exact State.WarmedH.refl s
  have hat' : ∀ w ∈ vx_atS own ic cls names, w.before args s' = true := fun w hw => vx_ot_at hW0 hvm.symm (hgood w (List.mem_cons_of_mem _ (List.mem_cons_of_mem _ hw))) (hat w hw)
  have hk' : (Cond.classLink own ik cls).before args s' = true := vx_ot_at hW0 hvm.symm (hgood _ List.mem_cons_self) hk
  have hini' : (Cond.initialized cls).before args s' = true := vx_ot_at hW0 hvm.symm (hgood _ (List.mem_cons_of_mem _ List.mem_cons_self)) hini
  have hU' : vx_Zq Bundle.tN "UNASSIGNED_STACK" Bundle.steD A s' s'.heap := by rw [hhp]; exact vx_Zq.moved hW0.alike (hU.kept hS.2.1)
  have hN' : vx_Zq Bundle.tN "SUPPRESSED_SENTINEL" Bundle.listD A s' s'.heap := by rw [hhp]; exact vx_Zq.moved hW0.alike (hN.kept hS.2.1)
  have h : ∀ w ∈ Bundle.ownAtoms own ic cls names, w.before args s' = true := vx_own hat' (vx_isRefq hU'.1) (vx_isRefq hN'.1) hU'.2.word hN'.2.word
  have hown' : s'.vm.findClass own = some m.cls := by rw [hvm]; exact hown
  have hins : (Cond.instantiable cls 6).before args s' = true := h _ (by simp [Bundle.ownAtoms])
  obtain ⟨vm₁, cX, kX, hfX, hkX, -, -, X₁, st1⟩ := Y.newCold hexec (own := own) (C := cls) (index := ik) (n := 6) hown' hk' hins hini'
    (g := F0 m pc ls rest) rfl (by rw [hb]; exact d0) (Nat.le_refl _) (Nat.le_refl _)
  generalize hT1 : (T.setVm vm₁).pushCell { cls := cX, slots := kX.instanceTypes.map defaultValue, vm := .none } = T1 at X₁ st1
  have hcat : (Value.ref T.heap.size).category = 1 := rfl
  have hcellA : T1.heap[T.heap.size]? = some (freshCell cX kX) := by rw [← hT1]; exact State.heap_pushCell_size _ _
  have d3' : decode c.code (pc + 3) = .ok (.dup, 1) := by rw [hb]; exact d3
  have d4' : decode c.code (pc + 4) = .ok (.ldc_w is, 3) := by rw [hb]; exact d4
  have hstr' : vk_R own is text sa s' := vk_R.warm hW0 hstr
  obtain ⟨U, hsteps, hrun, hend, hW, hsame, ce, hce, hO⟩ := X₁.ctorThrowS hexec htr (own := own) (cls := cls) (names := names) (ic := ic) hown' hcls hnames h (fun x hx => nomatch hx) hfX hkX hcellA (by rw [hhp, hT]; exact Nat.le_refl _) (msg := .ref sa) rfl
    (g := { method := m, pc := pc + 7, locals := ls, stack := .ref sa :: .ref T.heap.size :: .ref T.heap.size :: rest, locked := none }) rfl hsize rfl rfl (rest := rest) rfl
    (by rw [hb]; exact d7) (by rw [hb]; exact d10) hout hRframes (by simp only [List.map_cons, List.sum_cons, hcat]; omega) hlocks
  obtain ⟨f1, f2⟩ := vx_frame hsame
  rw [hhp] at f1 f2
  have hWs : s.WarmedH U.vm := State.WarmedH.trans hW0 hW
  have hcl : s.vm.findClass cls = some ce.cls := by
    have h9 := hO.cls
    rw [hvm] at h9
    exact h9
  have hall : s.sameButNew ({ U with vm := s.vm } : State) locs mc ms := by
    subst hA
    obtain ⟨e1, e2⟩ := hsame
    rw [State.setFrames_setFrames] at e1
    have h2 : (T.setVm s.vm).sameButNew ({ U with vm := s.vm } : State) [] (0 + 1) (0 + 6) := ⟨e1, e2⟩
    have h3 := X.same.trans h2
    rw [List.append_nil] at h3
    exact h3.mono hc hs
  refine ⟨U, ?_, .threw T.heap.size, hrun, hend, Or.inr ⟨T.heap.size, rfl, cls, ce, locs, hx U hWs.alike f1 (fun q hq => f2 q hq (fun z hz => nomatch hz)), hce, hO.vm, hcl, hWs, hall, hf⟩⟩
  refine st1 _ ?_
  show Steps p.tables e below (T1.setTop { method := m, pc := pc + 3, locals := ls, stack := .ref T.heap.size :: rest, locked := none }) _
  jvm_step X₁.here [X₁.here.top, hexec, d3', Value.category]
  exact X₁.ldcStringW hexec (own := own) (text := text) (index := is) (a := sa) hown' hstr'.1 hstr'.2
    (g := { method := m, pc := pc + 4, locals := ls, stack := .ref T.heap.size :: .ref T.heap.size :: rest, locked := none }) rfl d4' _ hsteps
end Ends
section Bodies
variable {l : Launch}
theorem vx_ofW {y : MethodName} {ws ws' : List Cond} {rm : Room} {Pc : Array Value → State → Prop} {Qc : Array Value → State → Outcome → State → Prop} {XC : String → State → State → Prop} {mc ms : Nat} {free : Addr → Prop} {cc : ByteArray} {maxL : Nat} {ret : Option FieldType}
    (hy : plainName y.cls = true) (hw : ws = Cond.code y cc maxL ret :: ws')
    (body : ∀ p e s m args below meth c s₁, BodyLoose p l y (headSpec ws rm) cc maxL ret e s m args below meth c s₁ → c.maxLocals = maxL → (∀ x ∈ c.exceptionTable.toList, False) → Pc args s →
      W p l e (headSpec ws rm).room s m args below meth c s.heap [] 0 0 (vx_MQ below Qc XC args s mc ms free) (entryFrame m args maxL)) : vx_Met l y ws rm Pc Qc XC mc ms free := by
  refine MetFree.of_bodyS (code := cc) (maxLocals := maxL) (ret := ret) hy ?_ ?_
  · intro args s m h hn
    obtain ⟨meth, c, h1, h2, h3, h4, h5, h6, -, -⟩ := Cond.code_spec hn (atoms_spec (ws := ws) h _ (by rw [hw]; exact List.mem_cons_self))
    exact ⟨meth, c, h1, h2, h3, h4, h5, h6⟩
  · intro p e s m args below meth c s₁ B hml hP _
    have hh0 : s₁.heap = s.heap := by rw [B.state]; rfl
    have ht : ∀ x ∈ c.exceptionTable.toList, False := by
      obtain ⟨meth9, c9, h1, h2, -, -, -, -, h7, -⟩ := Cond.code_spec B.named (atoms_spec (ws := ws) B.pre _ (by rw [hw]; exact List.mem_cons_self))
      cases Option.some.inj (h1.symm.trans B.method)
      cases Option.some.inj (h2.symm.trans (Stand.of_body B).code)
      intro x hx
      rw [Array.isEmpty_iff.mp h7] at hx
      cases hx
    obtain ⟨t, a1, o, b1, b2, b3⟩ := body p e s m args below meth c s₁ B hml ht hP s₁ hh0 (Stand.of_body B)
    exact ⟨t, o, a1, b1, b2, b3⟩
/-- the table of a body with handlers -/
theorem vx_table {p : Program} {x y : MethodName} {S : Spec} {cc bytes : ByteArray} {maxL maxL' : Nat} {ret ret' : Option FieldType} {e : Env} {s s₁ : State} {m : MethodId} {args : Array Value} {below : List Frame} {meth : Method} {c : Code} {hh : List (Nat × Nat × Nat × Nat)}
    (B : BodyLoose p l y S cc maxL ret e s m args below meth c s₁) (h : (Cond.codeWith y bytes maxL' ret' hh).before args s = true) : c.exceptionTable.toList = tableOf hh := by
  obtain ⟨m9, meth9, c9, hn9, h1, h2, -, -, h6, -⟩ := Cond.codeWith_spec h
  cases Option.some.inj (hn9.symm.trans B.named)
  cases Option.some.inj (h1.symm.trans B.method)
  cases Option.some.inj (h2.symm.trans (Stand.of_body B).code)
  rw [← h6, table_eq]
end Bodies
end VXA
/-! ===== END ===== -/
/-! ===== BEGIN a static call of a method with an exception table ===== -/
section VXS
variable {p : Program} {l : Launch} {e : Env} {R : Room} {s : State} {m : MethodId} {args : Array Value} {below : List Frame} {meth : Method} {c : Code} {T : State} {H : Heap} {locs : List Loc} {cells slots : Nat}
abbrev vx_CSW (R : Room) (s : State) (args : Array Value) (own : String) (index : Nat) (y : MethodName) (bytes : ByteArray) (maxL : Nat) (ret : Option FieldType) (hh : List (Nat × Nat × Nat × Nat)) (ws : List Cond) (rm : Room) (mc ms n : Nat) : Prop :=
  (rm.cells = mc ∧ rm.slots = ms ∧ rm.frames + 1 ≤ R.frames ∧ 8 + (maxL + 11) + rm.locals ≤ R.locals ∧ (∀ w ∈ ws, ∀ (a' : Array Value) (U : State), s.WarmedH U.vm → w.before a' U = true) ∧ Cond.codeWith y bytes maxL ret hh ∈ ws) ∧
  (Cond.codeWith y bytes maxL ret hh).before args s = true ∧ (Cond.initialized y.cls).before args s = true ∧ (y.cls ≠ "java/lang/invoke/MethodHandle" ∧ y.cls ≠ "java/lang/invoke/VarHandle") ∧
  (∀ sig, parseMethodDescriptor y.desc = some sig → n = sig.parameters.length) ∧ (Cond.methodLink own index y).before args s = true ∧ (Cond.static y).before args s = true
theorem vx_cwSW {own : String} {index maxL mc ms : Nat} {y : MethodName} {bytes : ByteArray} {ret : Option FieldType} {hh : List (Nat × Nat × Nat × Nat)} {Ts ws ws' : List Cond} {rm : Room} (n : Nat) (ht : ∀ w ∈ Ts, w.before args s = true) (hT : GoodIn Ts (va_wsS own index y ws)) (hw : ws = Cond.codeWith y bytes maxL ret hh :: ws') (hrc : rm.cells = mc) (hrs : rm.slots = ms)
    (hd : y.cls ≠ "java/lang/invoke/MethodHandle" ∧ y.cls ≠ "java/lang/invoke/VarHandle" ∧ (parseMethodDescriptor y.desc).map (fun d => d.parameters.length) = some n) (hR : rm.frames + 1 ≤ R.frames ∧ 8 + (maxL + 11) + rm.locals ≤ R.locals) :
    vx_CSW R s args own index y bytes maxL ret hh ws rm mc ms n := by
  have ok : ∀ w ∈ va_wsS own index y ws, w.before args s = true := fun w h => ht w (hT w h).1
  have hG : GoodIn Ts ws := fun w h => hT w (by unfold va_wsS; exact List.mem_append_right _ h)
  have hc : Cond.codeWith y bytes maxL ret hh ∈ ws := by rw [hw]; exact List.mem_cons_self
  refine ⟨⟨hrc, hrs, hR.1, hR.2, pay_in ht hG, hc⟩, ht _ (hG _ hc).1, ok _ (by simp [va_wsS]), ⟨hd.1, hd.2.1⟩, fun sig h => ?_, ok _ (by simp [va_wsS]), ok _ (by simp [va_wsS])⟩
  have h2 := hd.2.2
  rw [h] at h2
  exact (Option.some.inj h2).symm
theorem vx_callSW (X : Stand p l e R s m args below meth c T locs cells slots) (hexec : p.tables.exec = Jvm.exec) {own : String} {index : Nat} {y : MethodName} {bytes : ByteArray} {maxL : Nat} {ret : Option FieldType} {hh : List (Nat × Nat × Nat × Nat)}
    (hown : s.vm.findClass own = some m.cls) (hlink : (Cond.methodLink own index y).before args s = true) (hstat : (Cond.static y).before args s = true) (hinit : (Cond.initialized y.cls).before args s = true)
    (hcode : (Cond.codeWith y bytes maxL ret hh).before args s = true) (hy : y.cls ≠ "java/lang/invoke/MethodHandle" ∧ y.cls ≠ "java/lang/invoke/VarHandle")
    {W9 : Nat} {Pre : Pt → Array Value → Prop} {Post : Pt → Array Value → Option Value → Pt → Prop} (hK : Back l R p e below s args y 3 W9 Pre Post)
    {g : JFrame} (hg : g.method = m) (hsize : g.locals.size = c.maxLocals) {argsL rest : List Value} (hlen : ∀ sig, parseMethodDescriptor y.desc = some sig → argsL.length = sig.parameters.length)
    (hstack : g.stack = argsL.reverse ++ rest) (hW : 2 * g.monitorRoom + (rest.map fun v => v.category).sum ≤ W9) (hdg : decode c.code g.pc = .ok (.invokestatic index, 3))
    (hpre : ∀ vm₁, s.WarmedH vm₁ → Pre ⟨T.setVm vm₁, locs, cells, slots⟩ argsL.toArray) :
    ∃ (v : Option Value) (vm₁ : Vm) (B : Pt), s.WarmedH vm₁ ∧ Stand p l e R s m args below meth c B.U B.locs B.cells B.slots ∧ Post ⟨T.setVm vm₁, locs, cells, slots⟩ argsL.toArray v B ∧
      ∀ target, Steps p.tables e below (B.U.setTop { g with pc := g.pc + 3, stack := v.toList ++ rest }) target → Steps p.tables e below (T.setTop g) target := by
  obtain ⟨mk, methM, cM, hnamed, hmethM, -, -, -, -, -, -, hsigM⟩ := Cond.codeWith_spec hcode
  have hstatic : methM.isStatic = true := Cond.static_spec hnamed hmethM hstat
  obtain ⟨kP, hkP, -⟩ := className_of_methodNamed hnamed
  have hinitP : kP.init = .initialized := Cond.initialized_spec (findClass_of_methodNamed hnamed) hkP hinit
  obtain ⟨vm₁, X₁, hstep₁⟩ := X.invokestatic hexec hown hlink hnamed hmethM hstatic hkP hinitP hy (g := g) hg (argsL := argsL) (rest := rest) (hlen _ hsigM) hstack hdg
  obtain ⟨v, B, X', hpost, hsteps⟩ := hK m meth c ⟨T.setVm vm₁, locs, cells, slots⟩ { g with stack := rest } (.invokestatic index) mk argsL.toArray X₁ hg hsize hdg hW (X₁.named hnamed) (hpre vm₁ X₁.warmed)
  exact ⟨v, vm₁, B, X₁.warmed, X', hpost, fun target h => hstep₁ _ fun acts => by rw [doInvoke_state]; exact hsteps.trans h⟩
theorem vx_runSW {y : MethodName} {bytes cc : ByteArray} {maxL nL mc ms n index : Nat} {ret : Option FieldType} {hh : List (Nat × Nat × Nat × Nat)} {ws : List Cond} {rm : Room} {Pc : Array Value → State → Prop} {Qc : Array Value → State → Outcome → State → Prop} {free : Addr → Prop} {Ts : List Cond} {own : String} {As rest : List Value} {g : JFrame}
    (S : CallFix p m c cc nL s args Ts own) (hM : Met l y ws rm Pc Qc mc ms free) (cw : vx_CSW R s args own index y bytes maxL ret hh ws rm mc ms n) (hp : PreS s H Pc As)
    (hg : g.method = m) (hn : As.length = n) (hsize : g.locals.size = nL) (hstack : g.stack = As.reverse ++ rest) (hW : 2 * g.monitorRoom + (rest.map fun v => v.category).sum ≤ 8) (hdg : decode cc g.pc = .ok (.invokestatic index, 3)) (hf : cells + mc ≤ R.cells ∧ slots + ms ≤ R.slots) :
    va_Run p l e R s m args below meth c H locs cells slots mc ms g rest (Qc As.toArray) (free) := by
  obtain ⟨⟨hrc, hrs, hfr, hlo, hws, hcw⟩, hcode, hini, hy, hlen, hl, hstt⟩ := cw
  have hK : Back l R p e below s args y 3 8 (PreOf R mc ms Pc) (PostOf Qc mc ms free) := va_backW (hh := hh) (bytes := bytes) (maxL := maxL) (ret := ret) hM hp.1 hrc hrs hfr hlo hws hcw (fun a' U hW => word_at hW (Or.inl (by first | rfl | simp [Cond.onTables, Cond.keeps, Cond.steady])) hini)
  obtain ⟨hx, hb, hml, ho, -⟩ := S
  intro T hT X
  obtain ⟨v, vm₁, ⟨U', l2, c2, s2⟩, hW₁, X', ⟨g', mk, t, L, e1, e2, hq, h1, hL, h2, h3⟩, st⟩ := vx_callSW X hx (hh := hh) (bytes := bytes) (maxL := maxL) (ret := ret) ho hl hstt hini hcode hy hK hg (hsize.trans hml.symm) (argsL := As) (rest := rest) (fun sig h => hn.trans (hlen sig h)) hstack hW (by rw [hb]; exact hdg)
    (fun vm₁ hW₁ => ⟨hf.1, hf.2, hp.2 (T.setVm vm₁) hT hW₁⟩)
  dsimp only [Pt.U, Pt.locs, Pt.cells, Pt.slots] at X' e1 e2 h1 h2 h3 st
  subst h1; subst h2; subst h3
  exact ⟨v, (T.setVm vm₁).calling g' mk As.toArray, t, U', L, hT, X', hL, e1, e2, hq, st⟩
/-- not caught here, past rows that name other classes: it goes on to the caller -/
theorem vx_outP {p : Program} {l : Launch} {e : Env} {R : Room} {s : State} {m : MethodId} {args : Array Value} {below : List Frame} {meth : Method} {c : Code} {H : Heap} {locs : List Loc} {cells slots : Nat} {free : Addr → Prop} {ls : Array Slot} {rest : List Value} {Qc : Array Value → State → Outcome → State → Prop} {XC : String → State → State → Prop}
    {pc : Nat} {own E : String} {ce : Cell} {q : Addr} {mc ms : Nat} (hown : s.vm.findClass own = some m.cls) (hlocks : meth.locks = false)
    (hpass : ∀ z ∈ c.exceptionTable.toList, covers z pc = false ∨ (z.catchType ≠ 0 ∧ ∃ nm : String, (Cond.classLink own z.catchType nm).before args s = true ∧ va_Nc E nm s)) (hcell : H[q]? = some ce) (hv : ce.vm = .none) (hcl : s.vm.findClass E = some ce.cls)
    (hx : ∀ t : State, t.heap = H → s.vm.Alike t.vm → XC E s t) (hf : ∀ z ∈ locs, free z.base) (hc : cells ≤ mc) (hs : slots ≤ ms) :
    vx_W p l e R s m args below meth c H locs cells slots (vx_MQ below Qc XC args s mc ms free) (F0 m pc ls rest) q := by
  intro T hT X
  have hpl : e.platform.magicAccessors = ({} : Platform).magicAccessors := by rw [X.admits.platform]
  obtain ⟨vm', hW', X', st⟩ := X.outThrough hlocks q (g := F0 m pc ls rest) rfl rfl rfl (cell := ce) (by rw [hT]; exact hcell) (by rw [hv]; rfl)
    (by obtain ⟨k9, h9, -⟩ := Vm.findClass_spec hcl; exact ⟨k9, h9⟩) (fun z hz => by
      rcases hpass z hz with h | ⟨hz0, nm, hl1, hn1⟩
      · exact Or.inl h
      · obtain ⟨c6, hc6, hcl6⟩ := Cond.classLink_spec hown hl1 e.platform hpl
        obtain ⟨a8, b8, h1, h2, h3⟩ := hn1
        cases Option.some.inj (h1.symm.trans hcl)
        cases Option.some.inj (h2.symm.trans hc6)
        exact Or.inr ⟨hz0, _, hcl6, h3⟩)
  obtain ⟨g₀, hfr⟩ := X'.frames_eq
  have hcell9 : ((T.setVm vm').setFrames (.throwing q :: below)).heap[q]? = some ce := by
    show T.heap[q]? = some ce
    rw [hT]; exact hcell
  have hend : Ended ((T.setVm vm').setFrames (.throwing q :: below)) below (.threw q) := State.frames_setFrames _ (State.cur_lt_of_frames hfr)
  refine ⟨(T.setVm vm').setFrames (.throwing q :: below), ?_, .threw q, X'.here.running, hend, Or.inr ⟨q, rfl, E, ce, locs, hx _ hT (X'.ends _).1.alike, hcell9, hv, hcl, (X'.ends _).1, (X'.ends _).2.mono hc hs, hf⟩⟩
  rw [X.pushThrowing_eq]
  exact st
/-- a thing of a world lies in the heap -/
theorem vx_lt {D : va_G} {cl : List vw_C} {ws : va_W} {H1 : Heap} (h : va_P D cl ws H1) {k : Nat} {q : Nat × va_E} (hk : ws[k]? = some q) : q.1 < H1.size := (h k q hk).lt
end VXS
/-! ===== END ===== -/
/-! ===== BEGIN methods with a table of their own: called by a name, returning or throwing ===== -/
section VXH
/-! vx_backW, vx_callVX, vx_callSX, vx_callVW, vx_runVW, vx_runVX, vx_runSX, vx_ofWH follow the same proofs as their sisters above (Free/Laws.lean, Shelf42/LK1.lean); vx_outP calls Shelf42/NT130.lean (outThrough). -/
section
variable {l : Launch} {R : Room} {p : Program} {e : Env} {below : List Frame} {s : State} {sargs : Array Value} {y : MethodName} {len W9 : Nat}
theorem vx_backW {ws : List Cond} {rm : Room} {Pc : Array Value → State → Prop} {Qc : Array Value → State → Outcome → State → Prop} {XC : String → State → State → Prop} {mc ms : Nat} {free : Addr → Prop} {bytes : ByteArray} {maxL : Nat} {ret : Option FieldType} {hh : List (Nat × Nat × Nat × Nat)}
    (hM : vx_Met l y ws rm Pc Qc XC mc ms free) (hblind : FrameBlind Pc) (hrc : rm.cells = mc) (hrs : rm.slots = ms)
    (hframes : rm.frames + 1 ≤ R.frames) (hlocals : W9 + (maxL + 11) + rm.locals ≤ R.locals)
    (hws : ∀ w ∈ ws, ∀ a' U, s.WarmedH U.vm → w.before a' U = true) (hcode : Cond.codeWith y bytes maxL ret hh ∈ ws) (hinit : ∀ a' U, s.WarmedH U.vm → (Cond.initialized y.cls).before a' U = true) :
    vx_Back l R p e below s sargs y len W9 (PreOf R mc ms Pc) (PostOf Qc mc ms free) (vx_Post XC mc ms free) := by
  intro m meth c A g ig mk a X hg hsize hdg hW hn hp
  have h1 : (headSpec ws rm).pre.before a A.U = true := atoms_intro fun w hw => hws w hw _ _ X.warmed
  have h2 : (Cond.codeWith y bytes maxL ret hh).before a A.U = true := hws _ hcode _ _ X.warmed
  have h3 : (Cond.initialized y.cls).before a A.U = true := hinit _ _ X.warmed
  have h4 : A.cells + (headSpec ws rm).room.cells ≤ R.cells := by rw [show (headSpec ws rm).room.cells = mc from hrc]; exact hp.1
  have h5 : A.slots + (headSpec ws rm).room.slots ≤ R.slots := by rw [show (headSpec ws rm).room.slots = ms from hrs]; exact hp.2.1
  have hPc : Pc a (A.U.calling g mk a) := hblind _ _ _ _ hp.2.2
  obtain ⟨U, Ls, c0, s0⟩ := A
  dsimp only [Pt.U, Pt.locs, Pt.cells, Pt.slots] at h1 h2 h3 h4 h5 X hn hPc ⊢
  obtain ⟨m9, methY, cY, hn9, hmY, hcY, -, hlY, -⟩ := Cond.codeWith_spec h2
  cases Option.some.inj (hn9.symm.trans hn)
  obtain ⟨kY, hkY, -⟩ := className_of_methodNamed hn
  have hinitY : kY.init = .initialized := Cond.initialized_spec (findClass_of_methodNamed hn) hkY h3
  have h : At U g.method c below := by rw [hg]; exact X.here
  have hlocals9 : W9 + (maxL + 11) + (headSpec ws rm).room.locals ≤ R.locals := hlocals
  have happ : (headSpec ws rm).appliesLoose y e.platform (U.calling g mk a) = true :=
    Spec.appliesLoose_calling (g := g) h hdg hn hkY hinitY
      (X.room_calling (g := g) (R' := (headSpec ws rm).room) hsize hmY hcY hframes (by rw [hlY]; omega) h4 h5) h1
  obtain ⟨mid, hmid⟩ := h.above
  have hfr : (U.setTop g).frames = (.java g :: mid) ++ below := by rw [State.frames_setTop' g h.top, hmid]; rfl
  obtain ⟨o, s₂, hsteps, -, hend, hq⟩ := Steps.callFree hM p X.admits X.cas X.clock (acts := []) hfr happ hPc trivial
  have hq' : vx_Q Qc XC mc ms free a (U.calling g mk a) o s₂ := hq
  rw [State.frames_setTop' g h.top] at hend
  obtain ⟨g₀, hg0⟩ := Option.isSome_iff_exists.mp h.top
  obtain ⟨r, hr⟩ := State.topJava?_eq_some.mp hg0
  have hr' : (({ U with heap := s₂.heap, slotsUsed := s₂.slotsUsed } : State).setVm s₂.vm).frames = .java g₀ :: r := hr
  rcases hq' with ⟨hqc, L, hfe, hL⟩ | ⟨q, rfl, E, ce, L, hx, hce, hcv, hcl, hW₂, hsm, hL⟩
  · obtain ⟨⟨v, rfl⟩, hW₂, e2, q2, q3, q4, q5, q6⟩ := id hfe
    have e3 : s₂ = ({ (U.calling g mk a).setFrames s₂.frames with heap := s₂.heap, slotsUsed := s₂.slotsUsed } : State).setVm s₂.vm := by
      have : s₂ = ({ s₂ with vm := (U.calling g mk a).vm } : State).setVm s₂.vm := rfl
      rw [e2] at this
      exact this
    obtain ⟨c₂, i₂, len₂, hc₂, hd₂, hf₂⟩ := hend
    have hW' : U.WarmedH s₂.vm := hW₂
    have hcc : c₂ = c := by
      have h1 : s₂.code? g.method = U.code? g.method := by
        rw [State.code?_eq, State.code?_eq, hW'.alike.method?]
      exact Option.some.inj (hc₂.symm.trans (h1.trans h.code))
    subst hcc
    have hlen : len₂ = len := by rw [hdg] at hd₂; cases hd₂; rfl
    subst hlen
    have hs₂ : s₂ = (({ U with heap := s₂.heap, slotsUsed := s₂.slotsUsed } : State).setVm s₂.vm).setTop { g with pc := g.pc + len₂, stack := v.toList ++ g.stack } := by
      refine e3.trans ?_
      rw [hf₂, State.calling_eq h.top, State.setFrames_setFrames, State.setTop_of_frames _ hr', hr]
      rfl
    have hsame : U.sameButNew ({ U with heap := s₂.heap, slotsUsed := s₂.slotsUsed } : State) L mc ms := by
      refine ⟨?_, q2, q3, q4, q5, q6⟩
      obtain ⟨t, ht, -⟩ := State.frames_cons hr
      show ({ U with heap := s₂.heap, slotsUsed := s₂.slotsUsed } : State) = { U.setFrames U.frames with heap := s₂.heap, slotsUsed := s₂.slotsUsed }
      rw [State.setFrames_self ht]
    subst hg
    refine Or.inl ⟨v, ⟨(({ U with heap := s₂.heap, slotsUsed := s₂.slotsUsed } : State).setVm s₂.vm), Ls ++ L, c0 + mc, s0 + ms⟩,
      ⟨X.admits, X.cas, X.clock, X.frames, X.room, X.hears, X.method, X.code, (X.here.setHeapUsed s₂.heap s₂.slotsUsed).setVm hW'.alike, X.tail, State.WarmedH.trans X.warmed hW', X.limits, X.bytes, X.same.trans (hsame.setVm s.vm)⟩,
      ⟨g, mk, s₂, L, rfl, rfl, hqc, rfl, hL, rfl, rfl⟩, ?_⟩
    show Steps p.tables e below _ ((({ U with heap := s₂.heap, slotsUsed := s₂.slotsUsed } : State).setVm s₂.vm).setTop { g with pc := g.pc + len₂, stack := v.toList ++ g.stack })
    rw [← hs₂]
    exact hsteps
  · obtain ⟨e2, q2, q3, q4, q5, q6⟩ := id hsm
    have e3 : s₂ = ({ (U.calling g mk a).setFrames s₂.frames with heap := s₂.heap, slotsUsed := s₂.slotsUsed } : State).setVm s₂.vm := by
      have : s₂ = ({ s₂ with vm := (U.calling g mk a).vm } : State).setVm s₂.vm := rfl
      rw [e2] at this
      exact this
    have hf₂ : s₂.frames = .throwing q :: .java g :: U.frames.tail := hend
    have hW' : U.WarmedH s₂.vm := hW₂
    have hs₂ : s₂ = ((({ U with heap := s₂.heap, slotsUsed := s₂.slotsUsed } : State).setVm s₂.vm).setTop g).pushFrame (.throwing q) := by
      refine e3.trans ?_
      rw [hf₂, State.calling_eq h.top, State.setFrames_setFrames, State.pushFrame, State.frames_setTop _ hr', State.setTop_of_frames _ hr', State.setFrames_setFrames, hr]
      rfl
    have hsame : U.sameButNew ({ U with heap := s₂.heap, slotsUsed := s₂.slotsUsed } : State) L mc ms := by
      refine ⟨?_, q2, q3, q4, q5, q6⟩
      obtain ⟨t, ht, -⟩ := State.frames_cons hr
      show ({ U with heap := s₂.heap, slotsUsed := s₂.slotsUsed } : State) = { U.setFrames U.frames with heap := s₂.heap, slotsUsed := s₂.slotsUsed }
      rw [State.setFrames_self ht]
    subst hg
    refine Or.inr ⟨q, ⟨(({ U with heap := s₂.heap, slotsUsed := s₂.slotsUsed } : State).setVm s₂.vm), Ls ++ L, c0 + mc, s0 + ms⟩,
      ⟨X.admits, X.cas, X.clock, X.frames, X.room, X.hears, X.method, X.code, (X.here.setHeapUsed s₂.heap s₂.slotsUsed).setVm hW'.alike, X.tail, State.WarmedH.trans X.warmed hW', X.limits, X.bytes, X.same.trans (hsame.setVm s.vm)⟩,
      ⟨g, mk, s₂, L, E, ce, rfl, rfl, hx, hce, hcv, hcl, rfl, hL, rfl, rfl⟩, ?_⟩
    show Steps p.tables e below _ (((({ U with heap := s₂.heap, slotsUsed := s₂.slotsUsed } : State).setVm s₂.vm).setTop g).pushFrame (.throwing q))
    rw [← hs₂]
    exact hsteps
end
variable {p : Program} {l : Launch} {e : Env} {R : Room} {s : State} {m : MethodId} {args : Array Value} {below : List Frame} {meth : Method} {c : Code} {T : State} {H : Heap} {locs : List Loc} {cells slots : Nat}
theorem vx_callVX (X : Stand p l e R s m args below meth c T locs cells slots) (hexec : p.tables.exec = Jvm.exec) {own C : String} {index : Nat} {y : MethodName} {bytes : ByteArray} {maxL : Nat} {ret : Option FieldType} {hh : List (Nat × Nat × Nat × Nat)}
    (hown : s.vm.findClass own = some m.cls) (hlink : (Cond.methodLink own index y).before args s = true) (hinst : (Cond.instanceMethod y).before args s = true) (hsel : (Cond.selects C y y).before args s = true)
    (hcode : (Cond.codeWith y bytes maxL ret hh).before args s = true) (hy : y.cls ≠ "java/lang/invoke/MethodHandle" ∧ y.cls ≠ "java/lang/invoke/VarHandle")
    {W9 : Nat} {Pre : Pt → Array Value → Prop} {Post : Pt → Array Value → Option Value → Pt → Prop} {PostX : Pt → Array Value → Addr → Pt → Prop} (hK : vx_Back l R p e below s args y 3 W9 Pre Post PostX)
    {b : Addr} {cellB : Cell} (hcell : T.heap[b]? = some cellB) (hobj : cellB.vm.isStatics = false) (hcls : s.vm.findClass C = some cellB.cls)
    {g : JFrame} (hg : g.method = m) (hsize : g.locals.size = c.maxLocals) {argsL rest : List Value} (hlen : ∀ sig, parseMethodDescriptor y.desc = some sig → argsL.length = sig.parameters.length)
    (hstack : g.stack = argsL.reverse ++ .ref b :: rest) (hW : 2 * g.monitorRoom + (rest.map fun v => v.category).sum ≤ W9) (hdg : decode c.code g.pc = .ok (.invokevirtual index, 3))
    (hpre : ∀ vm₁, s.WarmedH vm₁ → Pre ⟨T.setVm vm₁, locs, cells, slots⟩ (Value.ref b :: argsL).toArray) :
    (∃ (v : Option Value) (vm₁ : Vm) (B : Pt), s.WarmedH vm₁ ∧ Stand p l e R s m args below meth c B.U B.locs B.cells B.slots ∧ Post ⟨T.setVm vm₁, locs, cells, slots⟩ (Value.ref b :: argsL).toArray v B ∧
      ∀ target, Steps p.tables e below (B.U.setTop { g with pc := g.pc + 3, stack := v.toList ++ rest }) target → Steps p.tables e below (T.setTop g) target) ∨
    (∃ (q : Addr) (vm₁ : Vm) (B : Pt), s.WarmedH vm₁ ∧ Stand p l e R s m args below meth c B.U B.locs B.cells B.slots ∧ PostX ⟨T.setVm vm₁, locs, cells, slots⟩ (Value.ref b :: argsL).toArray q B ∧
      Steps p.tables e below (T.setTop g) ((B.U.setTop { g with stack := rest }).pushFrame (.throwing q))) := by
  obtain ⟨mk, methM, hnamed, hmethM, hstM, habM⟩ := Cond.instanceMethod_spec hinst
  obtain ⟨m8, methM', cM, hn8, hmethM', -, -, -, -, -, -, hsigM⟩ := Cond.codeWith_spec hcode
  cases Option.some.inj (hn8.symm.trans hnamed)
  cases hmethM.symm.trans hmethM'
  obtain ⟨c2, r2, m2, q1, q2, q3, q4, kP, hkP, hkPi⟩ := Cond.selects_spec hsel
  cases hcls.symm.trans q1
  cases (State.methodFound?_of_named hnamed hy).symm.trans q2
  cases hnamed.symm.trans q3
  have hselP : selectMethod e.platform s.vm cellB.cls mk = .method mk := by rw [Launch.admits_selectMethod X.admits]; exact q4
  obtain ⟨vm₁, X₁, hstep₁⟩ := X.invokevirtual hexec hown hlink hnamed hmethM hstM hkP hkPi hy (a := b) (cell := cellB) hcell
    (fun z h => by rw [h] at hobj; cases hobj) hselP hmethM habM hkP hkPi (g := g) hg (argsL := argsL) (rest := rest) (hlen _ hsigM) hstack hdg
  rcases hK m meth c ⟨T.setVm vm₁, locs, cells, slots⟩ { g with stack := rest } (.invokevirtual index) mk (Value.ref b :: argsL).toArray X₁ hg hsize hdg hW (X₁.named hnamed) (hpre vm₁ X₁.warmed) with ⟨v, B, X', hpost, hsteps⟩ | ⟨q, B, X', hpost, hsteps⟩
  · exact Or.inl ⟨v, vm₁, B, X₁.warmed, X', hpost, fun target h => hstep₁ _ fun acts => by rw [doInvoke_state]; exact hsteps.trans h⟩
  · exact Or.inr ⟨q, vm₁, B, X₁.warmed, X', hpost, hstep₁ _ fun acts => by rw [doInvoke_state]; exact hsteps⟩
theorem vx_callSX (X : Stand p l e R s m args below meth c T locs cells slots) (hexec : p.tables.exec = Jvm.exec) {own : String} {index : Nat} {y : MethodName} {bytes : ByteArray} {maxL : Nat} {ret : Option FieldType} {hh : List (Nat × Nat × Nat × Nat)}
    (hown : s.vm.findClass own = some m.cls) (hlink : (Cond.methodLink own index y).before args s = true) (hstat : (Cond.static y).before args s = true) (hinit : (Cond.initialized y.cls).before args s = true)
    (hcode : (Cond.codeWith y bytes maxL ret hh).before args s = true) (hy : y.cls ≠ "java/lang/invoke/MethodHandle" ∧ y.cls ≠ "java/lang/invoke/VarHandle")
    {W9 : Nat} {Pre : Pt → Array Value → Prop} {Post : Pt → Array Value → Option Value → Pt → Prop} {PostX : Pt → Array Value → Addr → Pt → Prop} (hK : vx_Back l R p e below s args y 3 W9 Pre Post PostX)
    {g : JFrame} (hg : g.method = m) (hsize : g.locals.size = c.maxLocals) {argsL rest : List Value} (hlen : ∀ sig, parseMethodDescriptor y.desc = some sig → argsL.length = sig.parameters.length)
    (hstack : g.stack = argsL.reverse ++ rest) (hW : 2 * g.monitorRoom + (rest.map fun v => v.category).sum ≤ W9) (hdg : decode c.code g.pc = .ok (.invokestatic index, 3))
    (hpre : ∀ vm₁, s.WarmedH vm₁ → Pre ⟨T.setVm vm₁, locs, cells, slots⟩ argsL.toArray) :
    (∃ (v : Option Value) (vm₁ : Vm) (B : Pt), s.WarmedH vm₁ ∧ Stand p l e R s m args below meth c B.U B.locs B.cells B.slots ∧ Post ⟨T.setVm vm₁, locs, cells, slots⟩ argsL.toArray v B ∧
      ∀ target, Steps p.tables e below (B.U.setTop { g with pc := g.pc + 3, stack := v.toList ++ rest }) target → Steps p.tables e below (T.setTop g) target) ∨
    (∃ (q : Addr) (vm₁ : Vm) (B : Pt), s.WarmedH vm₁ ∧ Stand p l e R s m args below meth c B.U B.locs B.cells B.slots ∧ PostX ⟨T.setVm vm₁, locs, cells, slots⟩ argsL.toArray q B ∧
      Steps p.tables e below (T.setTop g) ((B.U.setTop { g with stack := rest }).pushFrame (.throwing q))) := by
  obtain ⟨mk, methM, cM, hnamed, hmethM, -, -, -, -, -, -, hsigM⟩ := Cond.codeWith_spec hcode
  have hstatic : methM.isStatic = true := Cond.static_spec hnamed hmethM hstat
  obtain ⟨kP, hkP, -⟩ := className_of_methodNamed hnamed
  have hinitP : kP.init = .initialized := Cond.initialized_spec (findClass_of_methodNamed hnamed) hkP hinit
  obtain ⟨vm₁, X₁, hstep₁⟩ := X.invokestatic hexec hown hlink hnamed hmethM hstatic hkP hinitP hy (g := g) hg (argsL := argsL) (rest := rest) (hlen _ hsigM) hstack hdg
  rcases hK m meth c ⟨T.setVm vm₁, locs, cells, slots⟩ { g with stack := rest } (.invokestatic index) mk argsL.toArray X₁ hg hsize hdg hW (X₁.named hnamed) (hpre vm₁ X₁.warmed) with ⟨v, B, X', hpost, hsteps⟩ | ⟨q, B, X', hpost, hsteps⟩
  · exact Or.inl ⟨v, vm₁, B, X₁.warmed, X', hpost, fun target h => hstep₁ _ fun acts => by rw [doInvoke_state]; exact hsteps.trans h⟩
  · exact Or.inr ⟨q, vm₁, B, X₁.warmed, X', hpost, hstep₁ _ fun acts => by rw [doInvoke_state]; exact hsteps⟩
theorem vx_callVW (X : Stand p l e R s m args below meth c T locs cells slots) (hexec : p.tables.exec = Jvm.exec) {own C : String} {index : Nat} {y : MethodName} {bytes : ByteArray} {maxL : Nat} {ret : Option FieldType} {hh : List (Nat × Nat × Nat × Nat)}
    (hown : s.vm.findClass own = some m.cls) (hlink : (Cond.methodLink own index y).before args s = true) (hinst : (Cond.instanceMethod y).before args s = true) (hsel : (Cond.selects C y y).before args s = true)
    (hcode : (Cond.codeWith y bytes maxL ret hh).before args s = true) (hy : y.cls ≠ "java/lang/invoke/MethodHandle" ∧ y.cls ≠ "java/lang/invoke/VarHandle")
    {W9 : Nat} {Pre : Pt → Array Value → Prop} {Post : Pt → Array Value → Option Value → Pt → Prop} (hK : Back l R p e below s args y 3 W9 Pre Post)
    {b : Addr} {cellB : Cell} (hcell : T.heap[b]? = some cellB) (hobj : cellB.vm.isStatics = false) (hcls : s.vm.findClass C = some cellB.cls)
    {g : JFrame} (hg : g.method = m) (hsize : g.locals.size = c.maxLocals) {argsL rest : List Value} (hlen : ∀ sig, parseMethodDescriptor y.desc = some sig → argsL.length = sig.parameters.length)
    (hstack : g.stack = argsL.reverse ++ .ref b :: rest) (hW : 2 * g.monitorRoom + (rest.map fun v => v.category).sum ≤ W9) (hdg : decode c.code g.pc = .ok (.invokevirtual index, 3))
    (hpre : ∀ vm₁, s.WarmedH vm₁ → Pre ⟨T.setVm vm₁, locs, cells, slots⟩ (Value.ref b :: argsL).toArray) :
    ∃ (v : Option Value) (vm₁ : Vm) (B : Pt), s.WarmedH vm₁ ∧ Stand p l e R s m args below meth c B.U B.locs B.cells B.slots ∧ Post ⟨T.setVm vm₁, locs, cells, slots⟩ (Value.ref b :: argsL).toArray v B ∧
      ∀ target, Steps p.tables e below (B.U.setTop { g with pc := g.pc + 3, stack := v.toList ++ rest }) target → Steps p.tables e below (T.setTop g) target := by
  obtain ⟨mk, methM, hnamed, hmethM, hstM, habM⟩ := Cond.instanceMethod_spec hinst
  obtain ⟨m8, methM', cM, hn8, hmethM', -, -, -, -, -, -, hsigM⟩ := Cond.codeWith_spec hcode
  cases Option.some.inj (hn8.symm.trans hnamed)
  cases hmethM.symm.trans hmethM'
  obtain ⟨c2, r2, m2, q1, q2, q3, q4, kP, hkP, hkPi⟩ := Cond.selects_spec hsel
  cases hcls.symm.trans q1
  cases (State.methodFound?_of_named hnamed hy).symm.trans q2
  cases hnamed.symm.trans q3
  have hselP : selectMethod e.platform s.vm cellB.cls mk = .method mk := by rw [Launch.admits_selectMethod X.admits]; exact q4
  obtain ⟨vm₁, X₁, hstep₁⟩ := X.invokevirtual hexec hown hlink hnamed hmethM hstM hkP hkPi hy (a := b) (cell := cellB) hcell
    (fun z h => by rw [h] at hobj; cases hobj) hselP hmethM habM hkP hkPi (g := g) hg (argsL := argsL) (rest := rest) (hlen _ hsigM) hstack hdg
  obtain ⟨v, B, X', hpost, hsteps⟩ := hK m meth c ⟨T.setVm vm₁, locs, cells, slots⟩ { g with stack := rest } (.invokevirtual index) mk (Value.ref b :: argsL).toArray X₁ hg hsize hdg hW (X₁.named hnamed) (hpre vm₁ X₁.warmed)
  exact ⟨v, vm₁, B, X₁.warmed, X', hpost, fun target h => hstep₁ _ fun acts => by rw [doInvoke_state]; exact hsteps.trans h⟩
abbrev vx_CVW (R : Room) (s : State) (args : Array Value) (own C : String) (index : Nat) (y : MethodName) (bytes : ByteArray) (maxL : Nat) (ret : Option FieldType) (hh : List (Nat × Nat × Nat × Nat)) (ws : List Cond) (rm : Room) (mc ms n : Nat) : Prop :=
  (rm.cells = mc ∧ rm.slots = ms ∧ rm.frames + 1 ≤ R.frames ∧ 8 + (maxL + 11) + rm.locals ≤ R.locals ∧ (∀ w ∈ ws, ∀ (a' : Array Value) (U : State), s.WarmedH U.vm → w.before a' U = true) ∧ Cond.codeWith y bytes maxL ret hh ∈ ws) ∧
  (Cond.codeWith y bytes maxL ret hh).before args s = true ∧ (Cond.initialized y.cls).before args s = true ∧ (y.cls ≠ "java/lang/invoke/MethodHandle" ∧ y.cls ≠ "java/lang/invoke/VarHandle") ∧
  (∀ sig, parseMethodDescriptor y.desc = some sig → n = sig.parameters.length) ∧ (Cond.methodLink own index y).before args s = true ∧ (Cond.instanceMethod y).before args s = true ∧ (Cond.selects C y y).before args s = true
theorem vx_cwVW {own C : String} {index maxL mc ms : Nat} {y : MethodName} {bytes : ByteArray} {ret : Option FieldType} {hh : List (Nat × Nat × Nat × Nat)} {Ts ws ws' : List Cond} {rm : Room} (n : Nat) (ht : ∀ w ∈ Ts, w.before args s = true) (hT : GoodIn Ts (wsV own index C y ws)) (hw : ws = Cond.codeWith y bytes maxL ret hh :: ws') (hrc : rm.cells = mc) (hrs : rm.slots = ms)
    (hd : y.cls = C ∧ y.cls ≠ "java/lang/invoke/MethodHandle" ∧ y.cls ≠ "java/lang/invoke/VarHandle" ∧ (parseMethodDescriptor y.desc).map (fun d => d.parameters.length) = some n) (hR : rm.frames + 1 ≤ R.frames ∧ 8 + (maxL + 11) + rm.locals ≤ R.locals) :
    vx_CVW R s args own C index y bytes maxL ret hh ws rm mc ms n := by
  obtain ⟨hC, hd⟩ := hd
  subst hC
  have ok : ∀ w ∈ wsV own index y.cls y ws, w.before args s = true := fun w h => ht w (hT w h).1
  have hG : GoodIn Ts ws := fun w h => hT w (by unfold wsV; exact List.mem_append_right _ h)
  have hc : Cond.codeWith y bytes maxL ret hh ∈ ws := by rw [hw]; exact List.mem_cons_self
  refine ⟨⟨hrc, hrs, hR.1, hR.2, pay_in ht hG, hc⟩, ht _ (hG _ hc).1, ok _ (by simp [wsV]), ⟨hd.1, hd.2.1⟩, fun sig h => ?_, ok _ (by simp [wsV]), ok _ (by simp [wsV]), ok _ (by simp [wsV])⟩
  have h2 := hd.2.2
  rw [h] at h2
  exact (Option.some.inj h2).symm
theorem vx_runVW {y : MethodName} {bytes cc : ByteArray} {maxL nL mc ms n index : Nat} {ret : Option FieldType} {hh : List (Nat × Nat × Nat × Nat)} {ws : List Cond} {rm : Room} {Pc : Array Value → State → Prop} {Qc : Array Value → State → Outcome → State → Prop} {free : Addr → Prop} {Ts : List Cond} {own C : String} {b : Addr} {As rest : List Value} {g : JFrame}
    (S : CallFix p m c cc nL s args Ts own) (hM : Met l y ws rm Pc Qc mc ms free) (cw : vx_CVW R s args own C index y bytes maxL ret hh ws rm mc ms n) (hp : PreV s H C b Pc As)
    (hg : g.method = m) (hn : As.length = n) (hsize : g.locals.size = nL) (hstack : g.stack = As.reverse ++ .ref b :: rest) (hW : 2 * g.monitorRoom + (rest.map fun v => v.category).sum ≤ 8) (hdg : decode cc g.pc = .ok (.invokevirtual index, 3)) (hf : cells + mc ≤ R.cells ∧ slots + ms ≤ R.slots) :
    va_Run p l e R s m args below meth c H locs cells slots mc ms g rest (Qc (Value.ref b :: As).toArray) free := by
  obtain ⟨⟨hrc, hrs, hfr, hlo, hws, hcw⟩, hcode, hini, hy, hlen, hl, hin, hse⟩ := cw
  have hK : Back l R p e below s args y 3 8 (PreOf R mc ms Pc) (PostOf Qc mc ms free) := va_backW (hh := hh) (bytes := bytes) (maxL := maxL) (ret := ret) hM hp.1 hrc hrs hfr hlo hws hcw (fun a' U hW => word_at hW (Or.inl (by first | rfl | simp [Cond.onTables, Cond.keeps, Cond.steady])) hini)
  obtain ⟨hx, hb, hml, ho, -⟩ := S
  obtain ⟨-, ⟨cellB, hcB, hoB, hclB⟩, hPc⟩ := hp
  intro T hT X
  obtain ⟨v, vm₁, ⟨U', l2, c2, s2⟩, hW₁, X', ⟨g', mk, t, L, e1, e2, hq, h1, hL, h2, h3⟩, st⟩ := vx_callVW X hx (C := C) (hh := hh) (bytes := bytes) (maxL := maxL) (ret := ret) ho hl hin hse hcode hy hK (by rw [hT]; exact hcB) hoB hclB hg (hsize.trans hml.symm) (argsL := As) (rest := rest) (fun sig h => hn.trans (hlen sig h)) hstack hW (by rw [hb]; exact hdg)
    (fun vm₁ hW₁ => ⟨hf.1, hf.2, hPc (T.setVm vm₁) hT hW₁⟩)
  dsimp only [Pt.U, Pt.locs, Pt.cells, Pt.slots] at X' e1 e2 h1 h2 h3 st
  subst h1; subst h2; subst h3
  exact ⟨v, (T.setVm vm₁).calling g' mk (Value.ref b :: As).toArray, t, U', L, hT, X', hL, e1, e2, hq, st⟩
section
variable {y : MethodName} {bytes cc : ByteArray} {maxL nL mc ms n index : Nat} {ret : Option FieldType} {ws : List Cond} {rm : Room} {Pc : Array Value → State → Prop} {Qc : Array Value → State → Outcome → State → Prop} {XC : String → State → State → Prop} {free : Addr → Prop} {Ts : List Cond} {own C : String} {b : Addr} {As rest : List Value} {g : JFrame}
theorem vx_runVX {hh : List (Nat × Nat × Nat × Nat)} (S : CallFix p m c cc nL s args Ts own) (hM : vx_Met l y ws rm Pc Qc XC mc ms free) (cw : vx_CVW R s args own C index y bytes maxL ret hh ws rm mc ms n) (hp : PreV s H C b Pc As)
    (hg : g.method = m) (hn : As.length = n) (hsize : g.locals.size = nL) (hstack : g.stack = As.reverse ++ .ref b :: rest) (hW : 2 * g.monitorRoom + (rest.map fun v => v.category).sum ≤ 8) (hdg : decode cc g.pc = .ok (.invokevirtual index, 3)) (hf : cells + mc ≤ R.cells ∧ slots + ms ≤ R.slots) :
    vx_Run p l e R s m args below meth c H locs cells slots mc ms g rest (Qc (Value.ref b :: As).toArray) XC free := by
  obtain ⟨⟨hrc, hrs, hfr, hlo, hws, hcw⟩, hcode, hini, hy, hlen, hl, hin, hse⟩ := cw
  have hK : vx_Back l R p e below s args y 3 8 (PreOf R mc ms Pc) (PostOf Qc mc ms free) (vx_Post XC mc ms free) := vx_backW (hh := hh) (bytes := bytes) (maxL := maxL) (ret := ret) hM hp.1 hrc hrs hfr hlo hws hcw (fun a' U hW => word_at hW (Or.inl (by first | rfl | simp [Cond.onTables, Cond.keeps, Cond.steady])) hini)
  obtain ⟨hx, hb, hml, ho, -⟩ := S
  obtain ⟨-, ⟨cellB, hcB, hoB, hclB⟩, hPc⟩ := hp
  intro T hT X
  rcases vx_callVX X hx (C := C) (hh := hh) (bytes := bytes) (maxL := maxL) (ret := ret) ho hl hin hse hcode hy hK (by rw [hT]; exact hcB) hoB hclB hg (hsize.trans hml.symm) (argsL := As) (rest := rest) (fun sig h => hn.trans (hlen sig h)) hstack hW (by rw [hb]; exact hdg)
    (fun vm₁ hW₁ => ⟨hf.1, hf.2, hPc (T.setVm vm₁) hT hW₁⟩) with ⟨v, vm₁, ⟨U', l2, c2, s2⟩, hW₁, X', ⟨g', mk, t, L, e1, e2, hq, h1, hL, h2, h3⟩, st⟩ | ⟨q, vm₁, ⟨U', l2, c2, s2⟩, hW₁, X', ⟨g', mk, t, L, E, ce, e1, e2, hq, hce, hcv, hcl, h1, hL, h2, h3⟩, st⟩
  · dsimp only [Pt.U, Pt.locs, Pt.cells, Pt.slots] at X' e1 e2 h1 h2 h3 st
    subst h1; subst h2; subst h3
    exact Or.inl ⟨v, (T.setVm vm₁).calling g' mk (Value.ref b :: As).toArray, t, U', L, hT, X', hL, e1, e2, hq, st⟩
  · dsimp only [Pt.U, Pt.locs, Pt.cells, Pt.slots] at X' e1 e2 h1 h2 h3 st hcl
    subst h1; subst h2; subst h3
    exact Or.inr ⟨q, (T.setVm vm₁).calling g' mk (Value.ref b :: As).toArray, t, U', L, E, ce, hT, X', hL, e1, e2, hq, hce, hcv, vx_cls hW₁ hcl, st⟩
theorem vx_runSX {hh : List (Nat × Nat × Nat × Nat)} (S : CallFix p m c cc nL s args Ts own) (hM : vx_Met l y ws rm Pc Qc XC mc ms free) (cw : vx_CSW R s args own index y bytes maxL ret hh ws rm mc ms n) (hp : PreS s H Pc As)
    (hg : g.method = m) (hn : As.length = n) (hsize : g.locals.size = nL) (hstack : g.stack = As.reverse ++ rest) (hW : 2 * g.monitorRoom + (rest.map fun v => v.category).sum ≤ 8) (hdg : decode cc g.pc = .ok (.invokestatic index, 3)) (hf : cells + mc ≤ R.cells ∧ slots + ms ≤ R.slots) :
    vx_Run p l e R s m args below meth c H locs cells slots mc ms g rest (Qc As.toArray) XC free := by
  obtain ⟨⟨hrc, hrs, hfr, hlo, hws, hcw⟩, hcode, hini, hy, hlen, hl, hstt⟩ := cw
  have hK : vx_Back l R p e below s args y 3 8 (PreOf R mc ms Pc) (PostOf Qc mc ms free) (vx_Post XC mc ms free) := vx_backW (hh := hh) (bytes := bytes) (maxL := maxL) (ret := ret) hM hp.1 hrc hrs hfr hlo hws hcw (fun a' U hW => word_at hW (Or.inl (by first | rfl | simp [Cond.onTables, Cond.keeps, Cond.steady])) hini)
  obtain ⟨hx, hb, hml, ho, -⟩ := S
  intro T hT X
  rcases vx_callSX X hx (hh := hh) (bytes := bytes) (maxL := maxL) (ret := ret) ho hl hstt hini hcode hy hK hg (hsize.trans hml.symm) (argsL := As) (rest := rest) (fun sig h => hn.trans (hlen sig h)) hstack hW (by rw [hb]; exact hdg)
    (fun vm₁ hW₁ => ⟨hf.1, hf.2, hp.2 (T.setVm vm₁) hT hW₁⟩) with ⟨v, vm₁, ⟨U', l2, c2, s2⟩, hW₁, X', ⟨g', mk, t, L, e1, e2, hq, h1, hL, h2, h3⟩, st⟩ | ⟨q, vm₁, ⟨U', l2, c2, s2⟩, hW₁, X', ⟨g', mk, t, L, E, ce, e1, e2, hq, hce, hcv, hcl, h1, hL, h2, h3⟩, st⟩
  · dsimp only [Pt.U, Pt.locs, Pt.cells, Pt.slots] at X' e1 e2 h1 h2 h3 st
    subst h1; subst h2; subst h3
    exact Or.inl ⟨v, (T.setVm vm₁).calling g' mk As.toArray, t, U', L, hT, X', hL, e1, e2, hq, st⟩
  · dsimp only [Pt.U, Pt.locs, Pt.cells, Pt.slots] at X' e1 e2 h1 h2 h3 st hcl
    subst h1; subst h2; subst h3
    exact Or.inr ⟨q, (T.setVm vm₁).calling g' mk As.toArray, t, U', L, E, ce, hT, X', hL, e1, e2, hq, hce, hcv, vx_cls hW₁ hcl, st⟩
end
end VXH
theorem vx_ofWH {l : Launch} {y : MethodName} {ws ws' : List Cond} {rm : Room} {Pc : Array Value → State → Prop} {Qc : Array Value → State → Outcome → State → Prop} {XC : String → State → State → Prop} {mc ms : Nat} {free : Addr → Prop} {cc : ByteArray} {maxL : Nat} {ret : Option FieldType} {hh : List (Nat × Nat × Nat × Nat)}
    (hy : plainName y.cls = true) (hw : ws = Cond.codeWith y cc maxL ret hh :: ws')
    (body : ∀ p e s m args below meth c s₁, BodyLoose p l y (headSpec ws rm) cc maxL ret e s m args below meth c s₁ → c.maxLocals = maxL → Pc args s →
      W p l e (headSpec ws rm).room s m args below meth c s.heap [] 0 0 (vx_MQ below Qc XC args s mc ms free) (entryFrame m args maxL)) : vx_Met l y ws rm Pc Qc XC mc ms free := by
  refine MetFree.of_bodyS (code := cc) (maxLocals := maxL) (ret := ret) hy ?_ ?_
  · intro args s m h hn
    obtain ⟨m9, meth, c, hn9, h1, h2, h3, h4, -, h5, h6, -⟩ := Cond.codeWith_spec (atoms_spec (ws := ws) h _ (by rw [hw]; exact List.mem_cons_self))
    cases hn.symm.trans hn9
    exact ⟨meth, c, h1, h2, h3, h4, h5, h6⟩
  · intro p e s m args below meth c s₁ B hml hP _
    have hh0 : s₁.heap = s.heap := by rw [B.state]; rfl
    obtain ⟨t, a1, o, b1, b2, b3⟩ := body p e s m args below meth c s₁ B hml hP s₁ hh0 (Stand.of_body B)
    exact ⟨t, o, a1, b1, b2, b3⟩
/-! ===== END ===== -/
end
section
/-! ===== BEGIN printed: names, fields, word lists, decode rows ===== -/
def RX0 : String := "SplicedTalk"
def TX0 : u_T := fun k => match k with
  | 0 => ("SplicedTalk", "speakers", "[I", true)
  | 1 => ("SplicedTalk", "topics", "[I", true)
  | 2 => ("SplicedTalk", "ties", "[I", true)
  | 3 => ("SplicedTalk", "remarkCount", "I", false)
  | 4 => ("SplicedTalk", "wordPlaces", "[I", true)
  | 5 => ("SplicedTalk", "wordThreads", "[I", true)
  | 6 => ("SplicedTalk", "wordCount", "I", false)
  | 7 => ("SplicedTalk", "threadCount", "I", false)
  | 8 => ("SplicedTalk", "patienceLeft", "I", false)
  | _ => ("SplicedTalk", "patienceSpent", "I", false)
def tyX0 : Nat → FieldType := fun k => match k with
  | 0 => .array .int
  | 1 => .array .int
  | 2 => .array .int
  | 3 => .int
  | 4 => .array .int
  | 5 => .array .int
  | 6 => .int
  | 7 => .int
  | 8 => .int
  | _ => .int
abbrev wsX00 : List Cond := u_ws RX0 TX0 10
theorem nmX0 : ∀ a, a < 10 → ∀ b, b < 10 → a ≠ b → (TX0 a).2.1 ≠ (TX0 b).2.1 := by decide +kernel
theorem tyX0_ok : ∀ k, k < 10 → parseFieldDescriptor (TX0 k).2.2.1 = some (tyX0 k) := by decide +kernel
abbrev cX0_init : ByteArray := prog_1_method_1_code
def yX0_init : MethodName := ⟨RX0, "<init>", "()V"⟩
abbrev cX0_say : ByteArray := prog_1_method_2_code
def yX0_say : MethodName := ⟨RX0, "say", "(II)I"⟩
abbrev cX0_cough : ByteArray := prog_1_method_3_code
def yX0_cough : MethodName := ⟨RX0, "cough", "(I)I"⟩
abbrev cX0_removeCough : ByteArray := prog_1_method_4_code
def yX0_removeCough : MethodName := ⟨RX0, "removeCough", "(I)I"⟩
abbrev cX0_tie : ByteArray := prog_1_method_5_code
def yX0_tie : MethodName := ⟨RX0, "tie", "(I)I"⟩
abbrev cX0_splice : ByteArray := prog_1_method_6_code
def yX0_splice : MethodName := ⟨RX0, "splice", "(I)I"⟩
abbrev cX0_rest : ByteArray := prog_1_method_7_code
def yX0_rest : MethodName := ⟨RX0, "rest", "(I)I"⟩
abbrev cX0_remarks : ByteArray := prog_1_method_8_code
def yX0_remarks : MethodName := ⟨RX0, "remarks", "()I"⟩
abbrev cX0_words : ByteArray := prog_1_method_9_code
def yX0_words : MethodName := ⟨RX0, "words", "()I"⟩
abbrev cX0_coughs : ByteArray := prog_1_method_10_code
def yX0_coughs : MethodName := ⟨RX0, "coughs", "()I"⟩
abbrev cX0_patience : ByteArray := prog_1_method_11_code
def yX0_patience : MethodName := ⟨RX0, "patience", "()I"⟩
abbrev cX0_spent : ByteArray := prog_1_method_12_code
def yX0_spent : MethodName := ⟨RX0, "spent", "()I"⟩
abbrev cX0_isCough : ByteArray := prog_1_method_13_code
def yX0_isCough : MethodName := ⟨RX0, "isCough", "(I)Z"⟩
abbrev cX0_speakerAt : ByteArray := prog_1_method_14_code
def yX0_speakerAt : MethodName := ⟨RX0, "speakerAt", "(I)I"⟩
abbrev cX0_placeOf : ByteArray := prog_1_method_15_code
def yX0_placeOf : MethodName := ⟨RX0, "placeOf", "(I)I"⟩
abbrev cX0_topicOf : ByteArray := prog_1_method_16_code
def yX0_topicOf : MethodName := ⟨RX0, "topicOf", "(I)I"⟩
abbrev cX0_wordsOf : ByteArray := prog_1_method_17_code
def yX0_wordsOf : MethodName := ⟨RX0, "wordsOf", "(I)I"⟩
abbrev cX0_coughsIn : ByteArray := prog_1_method_18_code
def yX0_coughsIn : MethodName := ⟨RX0, "coughsIn", "(I)I"⟩
abbrev cX0_strainOf : ByteArray := prog_1_method_19_code
def yX0_strainOf : MethodName := ⟨RX0, "strainOf", "(I)I"⟩
abbrev cX0_isTied : ByteArray := prog_1_method_20_code
def yX0_isTied : MethodName := ⟨RX0, "isTied", "(I)Z"⟩
abbrev cX0_isSmooth : ByteArray := prog_1_method_21_code
def yX0_isSmooth : MethodName := ⟨RX0, "isSmooth", "(I)Z"⟩
abbrev cX0_isPolite : ByteArray := prog_1_method_22_code
def yX0_isPolite : MethodName := ⟨RX0, "isPolite", "(I)Z"⟩
abbrev cX0_isBroken : ByteArray := prog_1_method_23_code
def yX0_isBroken : MethodName := ⟨RX0, "isBroken", "(I)Z"⟩
abbrev cX0_brokenGaps : ByteArray := prog_1_method_24_code
def yX0_brokenGaps : MethodName := ⟨RX0, "brokenGaps", "()I"⟩
abbrev cX0_politeGaps : ByteArray := prog_1_method_25_code
def yX0_politeGaps : MethodName := ⟨RX0, "politeGaps", "()I"⟩
abbrev cX0_threads : ByteArray := prog_1_method_26_code
def yX0_threads : MethodName := ⟨RX0, "threads", "()I"⟩
abbrev cX0_threadOf : ByteArray := prog_1_method_27_code
def yX0_threadOf : MethodName := ⟨RX0, "threadOf", "(I)I"⟩
abbrev cX0_lengthOf : ByteArray := prog_1_method_28_code
def yX0_lengthOf : MethodName := ⟨RX0, "lengthOf", "(I)I"⟩
abbrev cX0_longestThread : ByteArray := prog_1_method_29_code
def yX0_longestThread : MethodName := ⟨RX0, "longestThread", "()I"⟩
abbrev cX0_threadsOf : ByteArray := prog_1_method_30_code
def yX0_threadsOf : MethodName := ⟨RX0, "threadsOf", "(I)I"⟩
abbrev cX0_topicsIn : ByteArray := prog_1_method_31_code
def yX0_topicsIn : MethodName := ⟨RX0, "topicsIn", "(I)I"⟩
abbrev cX0_costOfMending : ByteArray := prog_1_method_32_code
def yX0_costOfMending : MethodName := ⟨RX0, "costOfMending", "(I)I"⟩
abbrev cX0_costOfAll : ByteArray := prog_1_method_33_code
def yX0_costOfAll : MethodName := ⟨RX0, "costOfAll", "()I"⟩
abbrev cX0_meanStrain : ByteArray := prog_1_method_37_code
def yX0_meanStrain : MethodName := ⟨RX0, "meanStrain", "()D"⟩
abbrev cX0_requireSpeaker : ByteArray := prog_1_method_39_code
def yX0_requireSpeaker : MethodName := ⟨RX0, "requireSpeaker", "(I)V"⟩
abbrev cX0_requireTopic : ByteArray := prog_1_method_40_code
def yX0_requireTopic : MethodName := ⟨RX0, "requireTopic", "(I)V"⟩
abbrev cX0_requireRoom : ByteArray := prog_1_method_41_code
def yX0_requireRoom : MethodName := ⟨RX0, "requireRoom", "()V"⟩
abbrev cX0_requirePatience : ByteArray := prog_1_method_42_code
def yX0_requirePatience : MethodName := ⟨RX0, "requirePatience", "(I)V"⟩
abbrev cX0_requirePlace : ByteArray := prog_1_method_43_code
def yX0_requirePlace : MethodName := ⟨RX0, "requirePlace", "(I)V"⟩
abbrev cX0_requireWord : ByteArray := prog_1_method_44_code
def yX0_requireWord : MethodName := ⟨RX0, "requireWord", "(I)V"⟩
abbrev cX0_requireGap : ByteArray := prog_1_method_45_code
def yX0_requireGap : MethodName := ⟨RX0, "requireGap", "(I)V"⟩
abbrev cX0_requireUntied : ByteArray := prog_1_method_46_code
def yX0_requireUntied : MethodName := ⟨RX0, "requireUntied", "(I)V"⟩
abbrev cX0_requireThread : ByteArray := prog_1_method_47_code
def yX0_requireThread : MethodName := ⟨RX0, "requireThread", "(I)V"⟩
abbrev cX0_append : ByteArray := prog_1_method_48_code
def yX0_append : MethodName := ⟨RX0, "append", "(II)I"⟩
abbrev cX0_put : ByteArray := prog_1_method_49_code
def yX0_put : MethodName := ⟨RX0, "put", "(III)V"⟩
abbrev cX0_moveUpBehind : ByteArray := prog_1_method_50_code
def yX0_moveUpBehind : MethodName := ⟨RX0, "moveUpBehind", "(I)V"⟩
abbrev cX0_makeRoomAt : ByteArray := prog_1_method_51_code
def yX0_makeRoomAt : MethodName := ⟨RX0, "makeRoomAt", "(I)V"⟩
abbrev cX0_copyRemark : ByteArray := prog_1_method_52_code
def yX0_copyRemark : MethodName := ⟨RX0, "copyRemark", "(II)V"⟩
abbrev cX0_pay : ByteArray := prog_1_method_53_code
def yX0_pay : MethodName := ⟨RX0, "pay", "(I)V"⟩
abbrev cX0_recount : ByteArray := prog_1_method_54_code
def yX0_recount : MethodName := ⟨RX0, "recount", "()V"⟩
abbrev cX0_coughStandsAt : ByteArray := prog_1_method_55_code
def yX0_coughStandsAt : MethodName := ⟨RX0, "coughStandsAt", "(I)Z"⟩
abbrev cX0_speakerOfWord : ByteArray := prog_1_method_56_code
def yX0_speakerOfWord : MethodName := ⟨RX0, "speakerOfWord", "(I)I"⟩
abbrev cX0_topicOfWord : ByteArray := prog_1_method_57_code
def yX0_topicOfWord : MethodName := ⟨RX0, "topicOfWord", "(I)I"⟩
abbrev cX0_threadOfWord : ByteArray := prog_1_method_58_code
def yX0_threadOfWord : MethodName := ⟨RX0, "threadOfWord", "(I)I"⟩
abbrev cX0_wordsInThread : ByteArray := prog_1_method_59_code
def yX0_wordsInThread : MethodName := ⟨RX0, "wordsInThread", "(I)I"⟩
abbrev cX0_gapCount : ByteArray := prog_1_method_60_code
def yX0_gapCount : MethodName := ⟨RX0, "gapCount", "()I"⟩
abbrev cX0_gapTied : ByteArray := prog_1_method_61_code
def yX0_gapTied : MethodName := ⟨RX0, "gapTied", "(I)Z"⟩
abbrev cX0_ofOneSpeaker : ByteArray := prog_1_method_62_code
def yX0_ofOneSpeaker : MethodName := ⟨RX0, "ofOneSpeaker", "(I)Z"⟩
abbrev cX0_coughsOfGap : ByteArray := prog_1_method_63_code
def yX0_coughsOfGap : MethodName := ⟨RX0, "coughsOfGap", "(I)I"⟩
abbrev cX0_strainOfGap : ByteArray := prog_1_method_64_code
def yX0_strainOfGap : MethodName := ⟨RX0, "strainOfGap", "(I)I"⟩
abbrev cX0_kindOfGap : ByteArray := prog_1_method_65_code
def yX0_kindOfGap : MethodName := ⟨RX0, "kindOfGap", "(I)I"⟩
abbrev cX0_gapsOfKind : ByteArray := prog_1_method_66_code
def yX0_gapsOfKind : MethodName := ⟨RX0, "gapsOfKind", "(I)I"⟩
abbrev cX0_mendingCost : ByteArray := prog_1_method_67_code
def yX0_mendingCost : MethodName := ⟨RX0, "mendingCost", "(I)I"⟩
abbrev cX0_topicDistance : ByteArray := prog_1_method_69_code
def yX0_topicDistance : MethodName := ⟨RX0, "topicDistance", "(II)I"⟩
abbrev cX0_topicBetween : ByteArray := prog_1_method_70_code
def yX0_topicBetween : MethodName := ⟨RX0, "topicBetween", "(II)I"⟩
abbrev cX0_mostUnbrokenStrain : ByteArray := prog_1_method_71_code
def yX0_mostUnbrokenStrain : MethodName := ⟨RX0, "mostUnbrokenStrain", "(Z)I"⟩
abbrev cX0_kindOf : ByteArray := prog_1_method_72_code
def yX0_kindOf : MethodName := ⟨RX0, "kindOf", "(ZIZ)I"⟩
abbrev cX0_read : ByteArray := prog_1_method_78_code
def yX0_read : MethodName := ⟨RX0, "read", "([II)I"⟩
abbrev cX0_write : ByteArray := prog_1_method_79_code
def yX0_write : MethodName := ⟨RX0, "write", "([III)V"⟩
def RX1 : String := "SplicedTalkLaw$Sim"
def TX1 : u_T := fun k => match k with
  | 0 => ("SplicedTalkLaw$Sim", "patience", "I", false)
  | 1 => ("SplicedTalkLaw$Sim", "spent", "I", false)
  | _ => ("SplicedTalkLaw$Sim", "rows", "[[I", false)
def tyX1 : Nat → FieldType := fun k => match k with
  | 0 => .int
  | 1 => .int
  | _ => .array (.array .int)
abbrev wsX10 : List Cond := u_ws RX1 TX1 3
theorem nmX1 : ∀ a, a < 3 → ∀ b, b < 3 → a ≠ b → (TX1 a).2.1 ≠ (TX1 b).2.1 := by decide +kernel
theorem tyX1_ok : ∀ k, k < 3 → parseFieldDescriptor (TX1 k).2.2.1 = some (tyX1 k) := by decide +kernel
abbrev cX1_init : ByteArray := prog_3_method_1_code
def yX1_init : MethodName := ⟨RX1, "<init>", "()V"⟩
abbrev cX1_words : ByteArray := prog_3_method_2_code
def yX1_words : MethodName := ⟨RX1, "words", "()[[I"⟩
abbrev cX1_apart : ByteArray := prog_3_method_3_code
def yX1_apart : MethodName := ⟨RX1, "apart", "(II)I"⟩
abbrev cX1_sort : ByteArray := prog_3_method_4_code
def yX1_sort : MethodName := ⟨RX1, "sort", "(IZZ)I"⟩
abbrev cX1_strain : ByteArray := prog_3_method_5_code
def yX1_strain : MethodName := ⟨RX1, "strain", "([[II)I"⟩
abbrev cX1_sort_ : ByteArray := prog_3_method_6_code
def yX1_sort_ : MethodName := ⟨RX1, "sort", "([[II)I"⟩
abbrev cX1_broken : ByteArray := prog_3_method_7_code
def yX1_broken : MethodName := ⟨RX1, "broken", "([[I)I"⟩
abbrev cX1_insert : ByteArray := prog_3_method_8_code
def yX1_insert : MethodName := ⟨RX1, "insert", "(I[I)V"⟩
abbrev cX1_remove : ByteArray := prog_3_method_9_code
def yX1_remove : MethodName := ⟨RX1, "remove", "(I)V"⟩
abbrev cX1_between : ByteArray := prog_3_method_10_code
def yX1_between : MethodName := ⟨RX1, "between", "(II)I"⟩
abbrev cX1_splice : ByteArray := prog_3_method_11_code
def yX1_splice : MethodName := ⟨RX1, "splice", "(I)I"⟩
abbrev cX1_mends : ByteArray := prog_3_method_13_code
def yX1_mends : MethodName := ⟨RX1, "mends", "([[II)I"⟩
abbrev cX1_isSame : ByteArray := prog_3_method_14_code
def yX1_isSame : MethodName := ⟨RX1, "isSame", "(LSplicedTalk;)Z"⟩
def RX2 : String := "SplicedTalkModel"
def TX2 : u_T := fun k => match k with
  | _ => ("", "", "", false)
def tyX2 : Nat → FieldType := fun k => match k with
  | _ => .int
abbrev wsX20 : List Cond := u_ws RX2 TX2 0
theorem nmX2 : ∀ a, a < 0 → ∀ b, b < 0 → a ≠ b → (TX2 a).2.1 ≠ (TX2 b).2.1 := by decide +kernel
theorem tyX2_ok : ∀ k, k < 0 → parseFieldDescriptor (TX2 k).2.2.1 = some (tyX2 k) := by decide +kernel
def RJ6 : String := "java/lang/Integer"
def TJ6 : u_T := fun k => match k with
  | _ => ("", "", "", false)
def tyJ6 : Nat → FieldType := fun k => match k with
  | _ => .int
abbrev wsJ60 : List Cond := u_ws RJ6 TJ6 0
theorem nmJ6 : ∀ a, a < 0 → ∀ b, b < 0 → a ≠ b → (TJ6 a).2.1 ≠ (TJ6 b).2.1 := by decide +kernel
theorem tyJ6_ok : ∀ k, k < 0 → parseFieldDescriptor (TJ6 k).2.2.1 = some (tyJ6 k) := by decide +kernel
abbrev cJ6_bitCount_0f7a4 : ByteArray := prog_9_method_49_code
def yJ6_bitCount_0f7a4 : MethodName := ⟨RJ6, "bitCount", "(I)I"⟩
def RJ9 : String := "java/lang/Math"
def TJ9 : u_T := fun k => match k with
  | _ => ("", "", "", false)
def tyJ9 : Nat → FieldType := fun k => match k with
  | _ => .int
abbrev wsJ90 : List Cond := u_ws RJ9 TJ9 0
theorem nmJ9 : ∀ a, a < 0 → ∀ b, b < 0 → a ≠ b → (TJ9 a).2.1 ≠ (TJ9 b).2.1 := by decide +kernel
theorem tyJ9_ok : ∀ k, k < 0 → parseFieldDescriptor (TJ9 k).2.2.1 = some (tyJ9 k) := by decide +kernel
abbrev cJ9_floorMod_7cf53 : ByteArray := prog_10_method_50_code
def yJ9_floorMod_7cf53 : MethodName := ⟨RJ9, "floorMod", "(II)I"⟩
abbrev cJ9_abs_0f7a4 : ByteArray := prog_10_method_59_code
def yJ9_abs_0f7a4 : MethodName := ⟨RJ9, "abs", "(I)I"⟩
abbrev cJ9_max_7cf53 : ByteArray := prog_10_method_65_code
def yJ9_max_7cf53 : MethodName := ⟨RJ9, "max", "(II)I"⟩
abbrev cJ9_min_7cf53 : ByteArray := prog_10_method_69_code
def yJ9_min_7cf53 : MethodName := ⟨RJ9, "min", "(II)I"⟩
def RJ0 : String := "java/lang/String"
def TJ0 : u_T := fun k => match k with
  | _ => ("", "", "", false)
def tyJ0 : Nat → FieldType := fun k => match k with
  | _ => .int
abbrev wsJ00 : List Cond := u_ws RJ0 TJ0 0
theorem nmJ0 : ∀ a, a < 0 → ∀ b, b < 0 → a ≠ b → (TJ0 a).2.1 ≠ (TJ0 b).2.1 := by decide +kernel
theorem tyJ0_ok : ∀ k, k < 0 → parseFieldDescriptor (TJ0 k).2.2.1 = some (tyJ0 k) := by decide +kernel
def RL : String := "SplicedTalkLaw"
abbrev cL_below : ByteArray := method_2_code
def yL_below : MethodName := ⟨RL, "below", "(II)I"⟩
abbrev cL_cell : ByteArray := method_3_code
def yL_cell : MethodName := ⟨RL, "cell", "([II)I"⟩
abbrev cL_act : ByteArray := method_4_code
def yL_act : MethodName := ⟨RL, "act", "(LSplicedTalk;LSplicedTalkLaw$Sim;I)Z"⟩
abbrev cL_build : ByteArray := method_5_code
def yL_build : MethodName := ⟨RL, "build", "(LSplicedTalk;[I)LSplicedTalkLaw$Sim;"⟩
abbrev cL_law : ByteArray := code
def yL_law : MethodName := ⟨RL, "law", "([I)Z"⟩
def wsX0_init : List Cond := .code yX0_init cX0_init 1 none :: ([.methodLink RX0 1 objectInit, .instanceMethod objectInit, .code objectInit ⟨#[0xb1]⟩ 1 none, .arrayClass .int, .fieldLink RX0 9 "SplicedTalk" "speakers" "[I", .fieldLink RX0 13 "SplicedTalk" "topics" "[I", .fieldLink RX0 16 "SplicedTalk" "ties" "[I", .fieldLink RX0 19 "SplicedTalk" "wordPlaces" "[I", .fieldLink RX0 22 "SplicedTalk" "wordThreads" "[I", .fieldLink RX0 25 "SplicedTalk" "patienceLeft" "I"] ++ wsX00)
def wsX0_requireSpeaker : List Cond := .code yX0_requireSpeaker cX0_requireSpeaker 1 none :: ([.classLink RX0 196 "java/lang/IndexOutOfBoundsException", .initialized "java/lang/IndexOutOfBoundsException"] ++ (vx_atS RX0 200 "java/lang/IndexOutOfBoundsException" ["java/lang/RuntimeException", "java/lang/Exception"]).filter goodWord)
def wsX0_requireTopic : List Cond := .code yX0_requireTopic cX0_requireTopic 1 none :: ([.classLink RX0 106 "java/lang/IllegalArgumentException", .initialized "java/lang/IllegalArgumentException"] ++ (vx_atS RX0 110 "java/lang/IllegalArgumentException" ["java/lang/RuntimeException", "java/lang/Exception"]).filter goodWord)
def wsX0_requireRoom : List Cond := .code yX0_requireRoom cX0_requireRoom 1 none :: ([.classLink RX0 50 "java/lang/IllegalStateException", .initialized "java/lang/IllegalStateException", .fieldLink RX0 69 "SplicedTalk" "remarkCount" "I"] ++ wsX00 ++ (vx_atS RX0 54 "java/lang/IllegalStateException" ["java/lang/RuntimeException", "java/lang/Exception"]).filter goodWord)
def wsX0_write : List Cond := .code yX0_write cX0_write 3 none :: ([])
def wsX0_put : List Cond := .code yX0_put cX0_put 4 none :: ([.fieldLink RX0 9 "SplicedTalk" "speakers" "[I", .fieldLink RX0 13 "SplicedTalk" "topics" "[I", .fieldLink RX0 16 "SplicedTalk" "ties" "[I", .methodLink RX0 82 yX0_write, .static yX0_write, .initialized RX0, .code yX0_write cX0_write 3 none] ++ wsX00)
def wsX0_read : List Cond := .code yX0_read cX0_read 2 (some .int) :: ([])
def wsX0_coughStandsAt : List Cond := .code yX0_coughStandsAt cX0_coughStandsAt 2 (some .boolean) :: ([.fieldLink RX0 13 "SplicedTalk" "topics" "[I", .methodLink RX0 78 yX0_read, .static yX0_read, .initialized RX0, .code yX0_read cX0_read 2 (some .int)] ++ wsX00)
def wsX0_gapTied : List Cond := .code yX0_gapTied cX0_gapTied 2 (some .boolean) :: ([.fieldLink RX0 16 "SplicedTalk" "ties" "[I", .fieldLink RX0 19 "SplicedTalk" "wordPlaces" "[I", .methodLink RX0 78 yX0_read, .static yX0_read, .initialized RX0, .code yX0_read cX0_read 2 (some .int)] ++ wsX00)
def wsX0_topicOfWord : List Cond := .code yX0_topicOfWord cX0_topicOfWord 2 (some .int) :: ([.fieldLink RX0 13 "SplicedTalk" "topics" "[I", .fieldLink RX0 19 "SplicedTalk" "wordPlaces" "[I", .methodLink RX0 78 yX0_read, .static yX0_read, .initialized RX0, .code yX0_read cX0_read 2 (some .int)] ++ wsX00)
def wsX0_topicDistance : List Cond := .code yX0_topicDistance cX0_topicDistance 3 (some .int) :: ([.methodLink RX0 228 Lib.Math.abs.name, .static Lib.Math.abs.name, .initialized "java/lang/Math", .code Lib.Math.abs.name Lib.Math.abs.code 1 (some .int), .methodLink RX0 111 Lib.Math.min.name, .static Lib.Math.min.name, .code Lib.Math.min.name Lib.Math.min.code 2 (some .int)])
def wsX0_coughsOfGap : List Cond := .code yX0_coughsOfGap cX0_coughsOfGap 2 (some .int) :: ([.fieldLink RX0 19 "SplicedTalk" "wordPlaces" "[I", .methodLink RX0 78 yX0_read, .static yX0_read, .initialized RX0, .code yX0_read cX0_read 2 (some .int)] ++ wsX00)
def wsX0_strainOfGap : List Cond := .code yX0_strainOfGap cX0_strainOfGap 2 (some .int) :: ([.methodLink RX0 93 yX0_topicOfWord, .instanceMethod yX0_topicOfWord, .selects RX0 yX0_topicOfWord yX0_topicOfWord, .initialized RX0, .code yX0_topicOfWord cX0_topicOfWord 2 (some .int), .fieldLink RX0 13 "SplicedTalk" "topics" "[I", .fieldLink RX0 19 "SplicedTalk" "wordPlaces" "[I", .methodLink RX0 78 yX0_read, .static yX0_read, .code yX0_read cX0_read 2 (some .int), .methodLink RX0 164 yX0_topicDistance, .static yX0_topicDistance, .code yX0_topicDistance cX0_topicDistance 3 (some .int), .methodLink RX0 228 Lib.Math.abs.name, .static Lib.Math.abs.name, .initialized "java/lang/Math", .code Lib.Math.abs.name Lib.Math.abs.code 1 (some .int), .methodLink RX0 111 Lib.Math.min.name, .static Lib.Math.min.name, .code Lib.Math.min.name Lib.Math.min.code 2 (some .int), .methodLink RX0 125 yX0_coughsOfGap, .instanceMethod yX0_coughsOfGap, .selects RX0 yX0_coughsOfGap yX0_coughsOfGap, .code yX0_coughsOfGap cX0_coughsOfGap 2 (some .int)] ++ wsX00)
def wsX0_speakerOfWord : List Cond := .code yX0_speakerOfWord cX0_speakerOfWord 2 (some .int) :: ([.fieldLink RX0 9 "SplicedTalk" "speakers" "[I", .fieldLink RX0 19 "SplicedTalk" "wordPlaces" "[I", .methodLink RX0 78 yX0_read, .static yX0_read, .initialized RX0, .code yX0_read cX0_read 2 (some .int)] ++ wsX00)
def wsX0_ofOneSpeaker : List Cond := .code yX0_ofOneSpeaker cX0_ofOneSpeaker 2 (some .boolean) :: ([.methodLink RX0 89 yX0_speakerOfWord, .instanceMethod yX0_speakerOfWord, .selects RX0 yX0_speakerOfWord yX0_speakerOfWord, .initialized RX0, .code yX0_speakerOfWord cX0_speakerOfWord 2 (some .int), .fieldLink RX0 9 "SplicedTalk" "speakers" "[I", .fieldLink RX0 19 "SplicedTalk" "wordPlaces" "[I", .methodLink RX0 78 yX0_read, .static yX0_read, .code yX0_read cX0_read 2 (some .int)] ++ wsX00)
def wsX0_mostUnbrokenStrain : List Cond := .code yX0_mostUnbrokenStrain cX0_mostUnbrokenStrain 1 (some .int) :: ([])
def wsX0_kindOf : List Cond := .code yX0_kindOf cX0_kindOf 3 (some .int) :: ([.methodLink RX0 224 yX0_mostUnbrokenStrain, .static yX0_mostUnbrokenStrain, .initialized RX0, .code yX0_mostUnbrokenStrain cX0_mostUnbrokenStrain 1 (some .int)])
def wsX0_kindOfGap_r1 : List Cond := [Cond.methodLink RX0 131 yX0_gapTied, Cond.instanceMethod yX0_gapTied, Cond.selects RX0 yX0_gapTied yX0_gapTied, Cond.initialized RX0, Cond.code yX0_gapTied cX0_gapTied 2 (some .boolean), Cond.fieldLink RX0 16 "SplicedTalk" "ties" "[I", Cond.fieldLink RX0 19 "SplicedTalk" "wordPlaces" "[I", Cond.methodLink RX0 78 yX0_read, Cond.static yX0_read, Cond.code yX0_read cX0_read 2 (some .int), Cond.methodLink RX0 128 yX0_strainOfGap, Cond.instanceMethod yX0_strainOfGap, Cond.selects RX0 yX0_strainOfGap yX0_strainOfGap, Cond.code yX0_strainOfGap cX0_strainOfGap 2 (some .int), Cond.methodLink RX0 93 yX0_topicOfWord, Cond.instanceMethod yX0_topicOfWord, Cond.selects RX0 yX0_topicOfWord yX0_topicOfWord, Cond.code yX0_topicOfWord cX0_topicOfWord 2 (some .int), Cond.fieldLink RX0 13 "SplicedTalk" "topics" "[I", Cond.methodLink RX0 164 yX0_topicDistance, Cond.static yX0_topicDistance, Cond.code yX0_topicDistance cX0_topicDistance 3 (some .int), Cond.methodLink RX0 228 Lib.Math.abs.name, Cond.static Lib.Math.abs.name]
def wsX0_kindOfGap_r2 : List Cond := [Cond.initialized "java/lang/Math", Cond.code Lib.Math.abs.name Lib.Math.abs.code 1 (some .int), Cond.methodLink RX0 111 Lib.Math.min.name, Cond.static Lib.Math.min.name, Cond.code Lib.Math.min.name Lib.Math.min.code 2 (some .int), Cond.methodLink RX0 125 yX0_coughsOfGap, Cond.instanceMethod yX0_coughsOfGap, Cond.selects RX0 yX0_coughsOfGap yX0_coughsOfGap, Cond.code yX0_coughsOfGap cX0_coughsOfGap 2 (some .int), Cond.methodLink RX0 221 yX0_ofOneSpeaker, Cond.instanceMethod yX0_ofOneSpeaker, Cond.selects RX0 yX0_ofOneSpeaker yX0_ofOneSpeaker, Cond.code yX0_ofOneSpeaker cX0_ofOneSpeaker 2 (some .boolean), Cond.methodLink RX0 89 yX0_speakerOfWord, Cond.instanceMethod yX0_speakerOfWord, Cond.selects RX0 yX0_speakerOfWord yX0_speakerOfWord, Cond.code yX0_speakerOfWord cX0_speakerOfWord 2 (some .int), Cond.fieldLink RX0 9 "SplicedTalk" "speakers" "[I", Cond.methodLink RX0 167 yX0_kindOf, Cond.static yX0_kindOf, Cond.code yX0_kindOf cX0_kindOf 3 (some .int), Cond.methodLink RX0 224 yX0_mostUnbrokenStrain, Cond.static yX0_mostUnbrokenStrain, Cond.code yX0_mostUnbrokenStrain cX0_mostUnbrokenStrain 1 (some .int)]
def wsX0_kindOfGap : List Cond := .code yX0_kindOfGap cX0_kindOfGap 2 (some .int) :: ((wsX0_kindOfGap_r1 ++ wsX0_kindOfGap_r2) ++ wsX00)
def wsX0_recount_r1 : List Cond := [Cond.fieldLink RX0 116 "SplicedTalk" "wordCount" "I", Cond.fieldLink RX0 69 "SplicedTalk" "remarkCount" "I", Cond.fieldLink RX0 19 "SplicedTalk" "wordPlaces" "[I", Cond.fieldLink RX0 86 "SplicedTalk" "threadCount" "I", Cond.fieldLink RX0 22 "SplicedTalk" "wordThreads" "[I", Cond.methodLink RX0 46 yX0_coughStandsAt, Cond.instanceMethod yX0_coughStandsAt, Cond.selects RX0 yX0_coughStandsAt yX0_coughStandsAt, Cond.initialized RX0, Cond.code yX0_coughStandsAt cX0_coughStandsAt 2 (some .boolean), Cond.fieldLink RX0 13 "SplicedTalk" "topics" "[I", Cond.methodLink RX0 78 yX0_read, Cond.static yX0_read, Cond.code yX0_read cX0_read 2 (some .int), Cond.methodLink RX0 82 yX0_write, Cond.static yX0_write, Cond.code yX0_write cX0_write 3 none, Cond.methodLink RX0 134 yX0_kindOfGap, Cond.instanceMethod yX0_kindOfGap, Cond.selects RX0 yX0_kindOfGap yX0_kindOfGap, Cond.code yX0_kindOfGap cX0_kindOfGap 2 (some .int), Cond.methodLink RX0 131 yX0_gapTied, Cond.instanceMethod yX0_gapTied, Cond.selects RX0 yX0_gapTied yX0_gapTied]
def wsX0_recount_r2 : List Cond := [Cond.code yX0_gapTied cX0_gapTied 2 (some .boolean), Cond.fieldLink RX0 16 "SplicedTalk" "ties" "[I", Cond.methodLink RX0 128 yX0_strainOfGap, Cond.instanceMethod yX0_strainOfGap, Cond.selects RX0 yX0_strainOfGap yX0_strainOfGap, Cond.code yX0_strainOfGap cX0_strainOfGap 2 (some .int), Cond.methodLink RX0 93 yX0_topicOfWord, Cond.instanceMethod yX0_topicOfWord, Cond.selects RX0 yX0_topicOfWord yX0_topicOfWord, Cond.code yX0_topicOfWord cX0_topicOfWord 2 (some .int), Cond.methodLink RX0 164 yX0_topicDistance, Cond.static yX0_topicDistance, Cond.code yX0_topicDistance cX0_topicDistance 3 (some .int), Cond.methodLink RX0 228 Lib.Math.abs.name, Cond.static Lib.Math.abs.name, Cond.initialized "java/lang/Math", Cond.code Lib.Math.abs.name Lib.Math.abs.code 1 (some .int), Cond.methodLink RX0 111 Lib.Math.min.name, Cond.static Lib.Math.min.name, Cond.code Lib.Math.min.name Lib.Math.min.code 2 (some .int), Cond.methodLink RX0 125 yX0_coughsOfGap, Cond.instanceMethod yX0_coughsOfGap, Cond.selects RX0 yX0_coughsOfGap yX0_coughsOfGap, Cond.code yX0_coughsOfGap cX0_coughsOfGap 2 (some .int)]
def wsX0_recount_r3 : List Cond := [Cond.methodLink RX0 221 yX0_ofOneSpeaker, Cond.instanceMethod yX0_ofOneSpeaker, Cond.selects RX0 yX0_ofOneSpeaker yX0_ofOneSpeaker, Cond.code yX0_ofOneSpeaker cX0_ofOneSpeaker 2 (some .boolean), Cond.methodLink RX0 89 yX0_speakerOfWord, Cond.instanceMethod yX0_speakerOfWord, Cond.selects RX0 yX0_speakerOfWord yX0_speakerOfWord, Cond.code yX0_speakerOfWord cX0_speakerOfWord 2 (some .int), Cond.fieldLink RX0 9 "SplicedTalk" "speakers" "[I", Cond.methodLink RX0 167 yX0_kindOf, Cond.static yX0_kindOf, Cond.code yX0_kindOf cX0_kindOf 3 (some .int), Cond.methodLink RX0 224 yX0_mostUnbrokenStrain, Cond.static yX0_mostUnbrokenStrain, Cond.code yX0_mostUnbrokenStrain cX0_mostUnbrokenStrain 1 (some .int)]
def wsX0_recount : List Cond := .code yX0_recount cX0_recount 2 none :: ((wsX0_recount_r1 ++ (wsX0_recount_r2 ++ wsX0_recount_r3)) ++ wsX00)
def wsX0_append_r1 : List Cond := [Cond.fieldLink RX0 69 "SplicedTalk" "remarkCount" "I", Cond.methodLink RX0 102 yX0_put, Cond.instanceMethod yX0_put, Cond.selects RX0 yX0_put yX0_put, Cond.initialized RX0, Cond.code yX0_put cX0_put 4 none, Cond.fieldLink RX0 9 "SplicedTalk" "speakers" "[I", Cond.fieldLink RX0 13 "SplicedTalk" "topics" "[I", Cond.fieldLink RX0 16 "SplicedTalk" "ties" "[I", Cond.methodLink RX0 82 yX0_write, Cond.static yX0_write, Cond.code yX0_write cX0_write 3 none, Cond.methodLink RX0 66 yX0_recount, Cond.instanceMethod yX0_recount, Cond.selects RX0 yX0_recount yX0_recount, Cond.code yX0_recount cX0_recount 2 none, Cond.fieldLink RX0 116 "SplicedTalk" "wordCount" "I", Cond.fieldLink RX0 19 "SplicedTalk" "wordPlaces" "[I", Cond.fieldLink RX0 86 "SplicedTalk" "threadCount" "I", Cond.fieldLink RX0 22 "SplicedTalk" "wordThreads" "[I", Cond.methodLink RX0 46 yX0_coughStandsAt, Cond.instanceMethod yX0_coughStandsAt, Cond.selects RX0 yX0_coughStandsAt yX0_coughStandsAt, Cond.code yX0_coughStandsAt cX0_coughStandsAt 2 (some .boolean)]
def wsX0_append_r2 : List Cond := [Cond.methodLink RX0 78 yX0_read, Cond.static yX0_read, Cond.code yX0_read cX0_read 2 (some .int), Cond.methodLink RX0 134 yX0_kindOfGap, Cond.instanceMethod yX0_kindOfGap, Cond.selects RX0 yX0_kindOfGap yX0_kindOfGap, Cond.code yX0_kindOfGap cX0_kindOfGap 2 (some .int), Cond.methodLink RX0 131 yX0_gapTied, Cond.instanceMethod yX0_gapTied, Cond.selects RX0 yX0_gapTied yX0_gapTied, Cond.code yX0_gapTied cX0_gapTied 2 (some .boolean), Cond.methodLink RX0 128 yX0_strainOfGap, Cond.instanceMethod yX0_strainOfGap, Cond.selects RX0 yX0_strainOfGap yX0_strainOfGap, Cond.code yX0_strainOfGap cX0_strainOfGap 2 (some .int), Cond.methodLink RX0 93 yX0_topicOfWord, Cond.instanceMethod yX0_topicOfWord, Cond.selects RX0 yX0_topicOfWord yX0_topicOfWord, Cond.code yX0_topicOfWord cX0_topicOfWord 2 (some .int), Cond.methodLink RX0 164 yX0_topicDistance, Cond.static yX0_topicDistance, Cond.code yX0_topicDistance cX0_topicDistance 3 (some .int), Cond.methodLink RX0 228 Lib.Math.abs.name, Cond.static Lib.Math.abs.name]
def wsX0_append_r3 : List Cond := [Cond.initialized "java/lang/Math", Cond.code Lib.Math.abs.name Lib.Math.abs.code 1 (some .int), Cond.methodLink RX0 111 Lib.Math.min.name, Cond.static Lib.Math.min.name, Cond.code Lib.Math.min.name Lib.Math.min.code 2 (some .int), Cond.methodLink RX0 125 yX0_coughsOfGap, Cond.instanceMethod yX0_coughsOfGap, Cond.selects RX0 yX0_coughsOfGap yX0_coughsOfGap, Cond.code yX0_coughsOfGap cX0_coughsOfGap 2 (some .int), Cond.methodLink RX0 221 yX0_ofOneSpeaker, Cond.instanceMethod yX0_ofOneSpeaker, Cond.selects RX0 yX0_ofOneSpeaker yX0_ofOneSpeaker, Cond.code yX0_ofOneSpeaker cX0_ofOneSpeaker 2 (some .boolean), Cond.methodLink RX0 89 yX0_speakerOfWord, Cond.instanceMethod yX0_speakerOfWord, Cond.selects RX0 yX0_speakerOfWord yX0_speakerOfWord, Cond.code yX0_speakerOfWord cX0_speakerOfWord 2 (some .int), Cond.methodLink RX0 167 yX0_kindOf, Cond.static yX0_kindOf, Cond.code yX0_kindOf cX0_kindOf 3 (some .int), Cond.methodLink RX0 224 yX0_mostUnbrokenStrain, Cond.static yX0_mostUnbrokenStrain, Cond.code yX0_mostUnbrokenStrain cX0_mostUnbrokenStrain 1 (some .int)]
def wsX0_append : List Cond := .code yX0_append cX0_append 4 (some .int) :: ((wsX0_append_r1 ++ (wsX0_append_r2 ++ wsX0_append_r3)) ++ wsX00)
def wsX0_say_r1 : List Cond := [Cond.methodLink RX0 29 yX0_requireSpeaker, Cond.static yX0_requireSpeaker, Cond.initialized RX0, Cond.code yX0_requireSpeaker cX0_requireSpeaker 1 none, Cond.classLink RX0 196 "java/lang/IndexOutOfBoundsException", Cond.initialized "java/lang/IndexOutOfBoundsException", Cond.methodLink RX0 33 yX0_requireTopic, Cond.static yX0_requireTopic, Cond.code yX0_requireTopic cX0_requireTopic 1 none, Cond.classLink RX0 106 "java/lang/IllegalArgumentException", Cond.initialized "java/lang/IllegalArgumentException", Cond.methodLink RX0 36 yX0_requireRoom, Cond.instanceMethod yX0_requireRoom, Cond.selects RX0 yX0_requireRoom yX0_requireRoom, Cond.code yX0_requireRoom cX0_requireRoom 1 none, Cond.classLink RX0 50 "java/lang/IllegalStateException", Cond.initialized "java/lang/IllegalStateException", Cond.fieldLink RX0 69 "SplicedTalk" "remarkCount" "I", Cond.methodLink RX0 39 yX0_append, Cond.instanceMethod yX0_append, Cond.selects RX0 yX0_append yX0_append, Cond.code yX0_append cX0_append 4 (some .int), Cond.methodLink RX0 102 yX0_put, Cond.instanceMethod yX0_put]
def wsX0_say_r2 : List Cond := [Cond.selects RX0 yX0_put yX0_put, Cond.code yX0_put cX0_put 4 none, Cond.fieldLink RX0 9 "SplicedTalk" "speakers" "[I", Cond.fieldLink RX0 13 "SplicedTalk" "topics" "[I", Cond.fieldLink RX0 16 "SplicedTalk" "ties" "[I", Cond.methodLink RX0 82 yX0_write, Cond.static yX0_write, Cond.code yX0_write cX0_write 3 none, Cond.methodLink RX0 66 yX0_recount, Cond.instanceMethod yX0_recount, Cond.selects RX0 yX0_recount yX0_recount, Cond.code yX0_recount cX0_recount 2 none, Cond.fieldLink RX0 116 "SplicedTalk" "wordCount" "I", Cond.fieldLink RX0 19 "SplicedTalk" "wordPlaces" "[I", Cond.fieldLink RX0 86 "SplicedTalk" "threadCount" "I", Cond.fieldLink RX0 22 "SplicedTalk" "wordThreads" "[I", Cond.methodLink RX0 46 yX0_coughStandsAt, Cond.instanceMethod yX0_coughStandsAt, Cond.selects RX0 yX0_coughStandsAt yX0_coughStandsAt, Cond.code yX0_coughStandsAt cX0_coughStandsAt 2 (some .boolean), Cond.methodLink RX0 78 yX0_read, Cond.static yX0_read, Cond.code yX0_read cX0_read 2 (some .int), Cond.methodLink RX0 134 yX0_kindOfGap]
def wsX0_say_r3 : List Cond := [Cond.instanceMethod yX0_kindOfGap, Cond.selects RX0 yX0_kindOfGap yX0_kindOfGap, Cond.code yX0_kindOfGap cX0_kindOfGap 2 (some .int), Cond.methodLink RX0 131 yX0_gapTied, Cond.instanceMethod yX0_gapTied, Cond.selects RX0 yX0_gapTied yX0_gapTied, Cond.code yX0_gapTied cX0_gapTied 2 (some .boolean), Cond.methodLink RX0 128 yX0_strainOfGap, Cond.instanceMethod yX0_strainOfGap, Cond.selects RX0 yX0_strainOfGap yX0_strainOfGap, Cond.code yX0_strainOfGap cX0_strainOfGap 2 (some .int), Cond.methodLink RX0 93 yX0_topicOfWord, Cond.instanceMethod yX0_topicOfWord, Cond.selects RX0 yX0_topicOfWord yX0_topicOfWord, Cond.code yX0_topicOfWord cX0_topicOfWord 2 (some .int), Cond.methodLink RX0 164 yX0_topicDistance, Cond.static yX0_topicDistance, Cond.code yX0_topicDistance cX0_topicDistance 3 (some .int), Cond.methodLink RX0 228 Lib.Math.abs.name, Cond.static Lib.Math.abs.name, Cond.initialized "java/lang/Math", Cond.code Lib.Math.abs.name Lib.Math.abs.code 1 (some .int), Cond.methodLink RX0 111 Lib.Math.min.name, Cond.static Lib.Math.min.name]
def wsX0_say_r4 : List Cond := [Cond.code Lib.Math.min.name Lib.Math.min.code 2 (some .int), Cond.methodLink RX0 125 yX0_coughsOfGap, Cond.instanceMethod yX0_coughsOfGap, Cond.selects RX0 yX0_coughsOfGap yX0_coughsOfGap, Cond.code yX0_coughsOfGap cX0_coughsOfGap 2 (some .int), Cond.methodLink RX0 221 yX0_ofOneSpeaker, Cond.instanceMethod yX0_ofOneSpeaker, Cond.selects RX0 yX0_ofOneSpeaker yX0_ofOneSpeaker, Cond.code yX0_ofOneSpeaker cX0_ofOneSpeaker 2 (some .boolean), Cond.methodLink RX0 89 yX0_speakerOfWord, Cond.instanceMethod yX0_speakerOfWord, Cond.selects RX0 yX0_speakerOfWord yX0_speakerOfWord, Cond.code yX0_speakerOfWord cX0_speakerOfWord 2 (some .int), Cond.methodLink RX0 167 yX0_kindOf, Cond.static yX0_kindOf, Cond.code yX0_kindOf cX0_kindOf 3 (some .int), Cond.methodLink RX0 224 yX0_mostUnbrokenStrain, Cond.static yX0_mostUnbrokenStrain, Cond.code yX0_mostUnbrokenStrain cX0_mostUnbrokenStrain 1 (some .int)]
def wsX0_say : List Cond := .code yX0_say cX0_say 3 (some .int) :: ((wsX0_say_r1 ++ (wsX0_say_r2 ++ (wsX0_say_r3 ++ wsX0_say_r4))) ++ wsX00 ++ (vx_atS RX0 200 "java/lang/IndexOutOfBoundsException" ["java/lang/RuntimeException", "java/lang/Exception"]).filter goodWord ++ (vx_atS RX0 110 "java/lang/IllegalArgumentException" ["java/lang/RuntimeException", "java/lang/Exception"]).filter goodWord ++ (vx_atS RX0 54 "java/lang/IllegalStateException" ["java/lang/RuntimeException", "java/lang/Exception"]).filter goodWord)
def wsX0_cough_r1 : List Cond := [Cond.methodLink RX0 29 yX0_requireSpeaker, Cond.static yX0_requireSpeaker, Cond.initialized RX0, Cond.code yX0_requireSpeaker cX0_requireSpeaker 1 none, Cond.classLink RX0 196 "java/lang/IndexOutOfBoundsException", Cond.initialized "java/lang/IndexOutOfBoundsException", Cond.methodLink RX0 36 yX0_requireRoom, Cond.instanceMethod yX0_requireRoom, Cond.selects RX0 yX0_requireRoom yX0_requireRoom, Cond.code yX0_requireRoom cX0_requireRoom 1 none, Cond.classLink RX0 50 "java/lang/IllegalStateException", Cond.initialized "java/lang/IllegalStateException", Cond.fieldLink RX0 69 "SplicedTalk" "remarkCount" "I", Cond.methodLink RX0 39 yX0_append, Cond.instanceMethod yX0_append, Cond.selects RX0 yX0_append yX0_append, Cond.code yX0_append cX0_append 4 (some .int), Cond.methodLink RX0 102 yX0_put, Cond.instanceMethod yX0_put, Cond.selects RX0 yX0_put yX0_put, Cond.code yX0_put cX0_put 4 none, Cond.fieldLink RX0 9 "SplicedTalk" "speakers" "[I", Cond.fieldLink RX0 13 "SplicedTalk" "topics" "[I", Cond.fieldLink RX0 16 "SplicedTalk" "ties" "[I"]
def wsX0_cough_r2 : List Cond := [Cond.methodLink RX0 82 yX0_write, Cond.static yX0_write, Cond.code yX0_write cX0_write 3 none, Cond.methodLink RX0 66 yX0_recount, Cond.instanceMethod yX0_recount, Cond.selects RX0 yX0_recount yX0_recount, Cond.code yX0_recount cX0_recount 2 none, Cond.fieldLink RX0 116 "SplicedTalk" "wordCount" "I", Cond.fieldLink RX0 19 "SplicedTalk" "wordPlaces" "[I", Cond.fieldLink RX0 86 "SplicedTalk" "threadCount" "I", Cond.fieldLink RX0 22 "SplicedTalk" "wordThreads" "[I", Cond.methodLink RX0 46 yX0_coughStandsAt, Cond.instanceMethod yX0_coughStandsAt, Cond.selects RX0 yX0_coughStandsAt yX0_coughStandsAt, Cond.code yX0_coughStandsAt cX0_coughStandsAt 2 (some .boolean), Cond.methodLink RX0 78 yX0_read, Cond.static yX0_read, Cond.code yX0_read cX0_read 2 (some .int), Cond.methodLink RX0 134 yX0_kindOfGap, Cond.instanceMethod yX0_kindOfGap, Cond.selects RX0 yX0_kindOfGap yX0_kindOfGap, Cond.code yX0_kindOfGap cX0_kindOfGap 2 (some .int), Cond.methodLink RX0 131 yX0_gapTied, Cond.instanceMethod yX0_gapTied]
def wsX0_cough_r3 : List Cond := [Cond.selects RX0 yX0_gapTied yX0_gapTied, Cond.code yX0_gapTied cX0_gapTied 2 (some .boolean), Cond.methodLink RX0 128 yX0_strainOfGap, Cond.instanceMethod yX0_strainOfGap, Cond.selects RX0 yX0_strainOfGap yX0_strainOfGap, Cond.code yX0_strainOfGap cX0_strainOfGap 2 (some .int), Cond.methodLink RX0 93 yX0_topicOfWord, Cond.instanceMethod yX0_topicOfWord, Cond.selects RX0 yX0_topicOfWord yX0_topicOfWord, Cond.code yX0_topicOfWord cX0_topicOfWord 2 (some .int), Cond.methodLink RX0 164 yX0_topicDistance, Cond.static yX0_topicDistance, Cond.code yX0_topicDistance cX0_topicDistance 3 (some .int), Cond.methodLink RX0 228 Lib.Math.abs.name, Cond.static Lib.Math.abs.name, Cond.initialized "java/lang/Math", Cond.code Lib.Math.abs.name Lib.Math.abs.code 1 (some .int), Cond.methodLink RX0 111 Lib.Math.min.name, Cond.static Lib.Math.min.name, Cond.code Lib.Math.min.name Lib.Math.min.code 2 (some .int), Cond.methodLink RX0 125 yX0_coughsOfGap, Cond.instanceMethod yX0_coughsOfGap, Cond.selects RX0 yX0_coughsOfGap yX0_coughsOfGap, Cond.code yX0_coughsOfGap cX0_coughsOfGap 2 (some .int)]
def wsX0_cough_r4 : List Cond := [Cond.methodLink RX0 221 yX0_ofOneSpeaker, Cond.instanceMethod yX0_ofOneSpeaker, Cond.selects RX0 yX0_ofOneSpeaker yX0_ofOneSpeaker, Cond.code yX0_ofOneSpeaker cX0_ofOneSpeaker 2 (some .boolean), Cond.methodLink RX0 89 yX0_speakerOfWord, Cond.instanceMethod yX0_speakerOfWord, Cond.selects RX0 yX0_speakerOfWord yX0_speakerOfWord, Cond.code yX0_speakerOfWord cX0_speakerOfWord 2 (some .int), Cond.methodLink RX0 167 yX0_kindOf, Cond.static yX0_kindOf, Cond.code yX0_kindOf cX0_kindOf 3 (some .int), Cond.methodLink RX0 224 yX0_mostUnbrokenStrain, Cond.static yX0_mostUnbrokenStrain, Cond.code yX0_mostUnbrokenStrain cX0_mostUnbrokenStrain 1 (some .int)]
def wsX0_cough : List Cond := .code yX0_cough cX0_cough 2 (some .int) :: ((wsX0_cough_r1 ++ (wsX0_cough_r2 ++ (wsX0_cough_r3 ++ wsX0_cough_r4))) ++ wsX00 ++ (vx_atS RX0 200 "java/lang/IndexOutOfBoundsException" ["java/lang/RuntimeException", "java/lang/Exception"]).filter goodWord ++ (vx_atS RX0 54 "java/lang/IllegalStateException" ["java/lang/RuntimeException", "java/lang/Exception"]).filter goodWord)
def wsX0_requirePlace : List Cond := .code yX0_requirePlace cX0_requirePlace 2 none :: ([.classLink RX0 196 "java/lang/IndexOutOfBoundsException", .initialized "java/lang/IndexOutOfBoundsException", .fieldLink RX0 69 "SplicedTalk" "remarkCount" "I"] ++ wsX00 ++ (vx_atS RX0 200 "java/lang/IndexOutOfBoundsException" ["java/lang/RuntimeException", "java/lang/Exception"]).filter goodWord)
def wsX0_requirePatience : List Cond := .code yX0_requirePatience cX0_requirePatience 2 none :: ([.classLink RX0 50 "java/lang/IllegalStateException", .initialized "java/lang/IllegalStateException", .fieldLink RX0 25 "SplicedTalk" "patienceLeft" "I"] ++ wsX00 ++ (vx_atS RX0 54 "java/lang/IllegalStateException" ["java/lang/RuntimeException", "java/lang/Exception"]).filter goodWord)
def wsX0_pay : List Cond := .code yX0_pay cX0_pay 2 none :: ([.fieldLink RX0 25 "SplicedTalk" "patienceLeft" "I", .fieldLink RX0 119 "SplicedTalk" "patienceSpent" "I"] ++ wsX00)
def wsX0_copyRemark : List Cond := .code yX0_copyRemark cX0_copyRemark 3 none :: ([.fieldLink RX0 9 "SplicedTalk" "speakers" "[I", .fieldLink RX0 13 "SplicedTalk" "topics" "[I", .fieldLink RX0 16 "SplicedTalk" "ties" "[I", .methodLink RX0 78 yX0_read, .static yX0_read, .initialized RX0, .code yX0_read cX0_read 2 (some .int), .methodLink RX0 82 yX0_write, .static yX0_write, .code yX0_write cX0_write 3 none] ++ wsX00)
def wsX0_moveUpBehind : List Cond := .code yX0_moveUpBehind cX0_moveUpBehind 3 none :: ([.fieldLink RX0 69 "SplicedTalk" "remarkCount" "I", .methodLink RX0 217 yX0_copyRemark, .instanceMethod yX0_copyRemark, .selects RX0 yX0_copyRemark yX0_copyRemark, .initialized RX0, .code yX0_copyRemark cX0_copyRemark 3 none, .fieldLink RX0 9 "SplicedTalk" "speakers" "[I", .fieldLink RX0 13 "SplicedTalk" "topics" "[I", .fieldLink RX0 16 "SplicedTalk" "ties" "[I", .methodLink RX0 78 yX0_read, .static yX0_read, .code yX0_read cX0_read 2 (some .int), .methodLink RX0 82 yX0_write, .static yX0_write, .code yX0_write cX0_write 3 none] ++ wsX00)
def wsX0_removeCough_r1 : List Cond := [Cond.classLink RX0 50 "java/lang/IllegalStateException", Cond.initialized "java/lang/IllegalStateException", Cond.fieldLink RX0 69 "SplicedTalk" "remarkCount" "I", Cond.methodLink RX0 43 yX0_requirePlace, Cond.instanceMethod yX0_requirePlace, Cond.selects RX0 yX0_requirePlace yX0_requirePlace, Cond.initialized RX0, Cond.code yX0_requirePlace cX0_requirePlace 2 none, Cond.classLink RX0 196 "java/lang/IndexOutOfBoundsException", Cond.initialized "java/lang/IndexOutOfBoundsException", Cond.methodLink RX0 46 yX0_coughStandsAt, Cond.instanceMethod yX0_coughStandsAt, Cond.selects RX0 yX0_coughStandsAt yX0_coughStandsAt, Cond.code yX0_coughStandsAt cX0_coughStandsAt 2 (some .boolean), Cond.fieldLink RX0 13 "SplicedTalk" "topics" "[I", Cond.methodLink RX0 78 yX0_read, Cond.static yX0_read, Cond.code yX0_read cX0_read 2 (some .int), Cond.methodLink RX0 57 yX0_requirePatience, Cond.instanceMethod yX0_requirePatience, Cond.selects RX0 yX0_requirePatience yX0_requirePatience, Cond.code yX0_requirePatience cX0_requirePatience 2 none, Cond.fieldLink RX0 25 "SplicedTalk" "patienceLeft" "I", Cond.methodLink RX0 60 yX0_pay]
def wsX0_removeCough_r2 : List Cond := [Cond.instanceMethod yX0_pay, Cond.selects RX0 yX0_pay yX0_pay, Cond.code yX0_pay cX0_pay 2 none, Cond.fieldLink RX0 119 "SplicedTalk" "patienceSpent" "I", Cond.methodLink RX0 63 yX0_moveUpBehind, Cond.instanceMethod yX0_moveUpBehind, Cond.selects RX0 yX0_moveUpBehind yX0_moveUpBehind, Cond.code yX0_moveUpBehind cX0_moveUpBehind 3 none, Cond.methodLink RX0 217 yX0_copyRemark, Cond.instanceMethod yX0_copyRemark, Cond.selects RX0 yX0_copyRemark yX0_copyRemark, Cond.code yX0_copyRemark cX0_copyRemark 3 none, Cond.fieldLink RX0 9 "SplicedTalk" "speakers" "[I", Cond.fieldLink RX0 16 "SplicedTalk" "ties" "[I", Cond.methodLink RX0 82 yX0_write, Cond.static yX0_write, Cond.code yX0_write cX0_write 3 none, Cond.methodLink RX0 66 yX0_recount, Cond.instanceMethod yX0_recount, Cond.selects RX0 yX0_recount yX0_recount, Cond.code yX0_recount cX0_recount 2 none, Cond.fieldLink RX0 116 "SplicedTalk" "wordCount" "I", Cond.fieldLink RX0 19 "SplicedTalk" "wordPlaces" "[I", Cond.fieldLink RX0 86 "SplicedTalk" "threadCount" "I"]
def wsX0_removeCough_r3 : List Cond := [Cond.fieldLink RX0 22 "SplicedTalk" "wordThreads" "[I", Cond.methodLink RX0 134 yX0_kindOfGap, Cond.instanceMethod yX0_kindOfGap, Cond.selects RX0 yX0_kindOfGap yX0_kindOfGap, Cond.code yX0_kindOfGap cX0_kindOfGap 2 (some .int), Cond.methodLink RX0 131 yX0_gapTied, Cond.instanceMethod yX0_gapTied, Cond.selects RX0 yX0_gapTied yX0_gapTied, Cond.code yX0_gapTied cX0_gapTied 2 (some .boolean), Cond.methodLink RX0 128 yX0_strainOfGap, Cond.instanceMethod yX0_strainOfGap, Cond.selects RX0 yX0_strainOfGap yX0_strainOfGap, Cond.code yX0_strainOfGap cX0_strainOfGap 2 (some .int), Cond.methodLink RX0 93 yX0_topicOfWord, Cond.instanceMethod yX0_topicOfWord, Cond.selects RX0 yX0_topicOfWord yX0_topicOfWord, Cond.code yX0_topicOfWord cX0_topicOfWord 2 (some .int), Cond.methodLink RX0 164 yX0_topicDistance, Cond.static yX0_topicDistance, Cond.code yX0_topicDistance cX0_topicDistance 3 (some .int), Cond.methodLink RX0 228 Lib.Math.abs.name, Cond.static Lib.Math.abs.name, Cond.initialized "java/lang/Math", Cond.code Lib.Math.abs.name Lib.Math.abs.code 1 (some .int)]
def wsX0_removeCough_r4 : List Cond := [Cond.methodLink RX0 111 Lib.Math.min.name, Cond.static Lib.Math.min.name, Cond.code Lib.Math.min.name Lib.Math.min.code 2 (some .int), Cond.methodLink RX0 125 yX0_coughsOfGap, Cond.instanceMethod yX0_coughsOfGap, Cond.selects RX0 yX0_coughsOfGap yX0_coughsOfGap, Cond.code yX0_coughsOfGap cX0_coughsOfGap 2 (some .int), Cond.methodLink RX0 221 yX0_ofOneSpeaker, Cond.instanceMethod yX0_ofOneSpeaker, Cond.selects RX0 yX0_ofOneSpeaker yX0_ofOneSpeaker, Cond.code yX0_ofOneSpeaker cX0_ofOneSpeaker 2 (some .boolean), Cond.methodLink RX0 89 yX0_speakerOfWord, Cond.instanceMethod yX0_speakerOfWord, Cond.selects RX0 yX0_speakerOfWord yX0_speakerOfWord, Cond.code yX0_speakerOfWord cX0_speakerOfWord 2 (some .int), Cond.methodLink RX0 167 yX0_kindOf, Cond.static yX0_kindOf, Cond.code yX0_kindOf cX0_kindOf 3 (some .int), Cond.methodLink RX0 224 yX0_mostUnbrokenStrain, Cond.static yX0_mostUnbrokenStrain, Cond.code yX0_mostUnbrokenStrain cX0_mostUnbrokenStrain 1 (some .int)]
def wsX0_removeCough : List Cond := .code yX0_removeCough cX0_removeCough 2 (some .int) :: ((wsX0_removeCough_r1 ++ (wsX0_removeCough_r2 ++ (wsX0_removeCough_r3 ++ wsX0_removeCough_r4))) ++ wsX00 ++ (vx_atS RX0 54 "java/lang/IllegalStateException" ["java/lang/RuntimeException", "java/lang/Exception"]).filter goodWord ++ (vx_atS RX0 200 "java/lang/IndexOutOfBoundsException" ["java/lang/RuntimeException", "java/lang/Exception"]).filter goodWord)
def wsX0_gapCount : List Cond := .code yX0_gapCount cX0_gapCount 1 (some .int) :: ([.fieldLink RX0 116 "SplicedTalk" "wordCount" "I"] ++ wsX00)
def wsX0_requireGap : List Cond := .code yX0_requireGap cX0_requireGap 2 none :: ([.classLink RX0 196 "java/lang/IndexOutOfBoundsException", .initialized "java/lang/IndexOutOfBoundsException", .methodLink RX0 157 yX0_gapCount, .instanceMethod yX0_gapCount, .selects RX0 yX0_gapCount yX0_gapCount, .initialized RX0, .code yX0_gapCount cX0_gapCount 1 (some .int), .fieldLink RX0 116 "SplicedTalk" "wordCount" "I"] ++ wsX00 ++ (vx_atS RX0 200 "java/lang/IndexOutOfBoundsException" ["java/lang/RuntimeException", "java/lang/Exception"]).filter goodWord)
def wsX0_requireUntied : List Cond := .code yX0_requireUntied cX0_requireUntied 2 none :: ([.classLink RX0 50 "java/lang/IllegalStateException", .initialized "java/lang/IllegalStateException", .methodLink RX0 131 yX0_gapTied, .instanceMethod yX0_gapTied, .selects RX0 yX0_gapTied yX0_gapTied, .initialized RX0, .code yX0_gapTied cX0_gapTied 2 (some .boolean), .fieldLink RX0 16 "SplicedTalk" "ties" "[I", .fieldLink RX0 19 "SplicedTalk" "wordPlaces" "[I", .methodLink RX0 78 yX0_read, .static yX0_read, .code yX0_read cX0_read 2 (some .int)] ++ wsX00 ++ (vx_atS RX0 54 "java/lang/IllegalStateException" ["java/lang/RuntimeException", "java/lang/Exception"]).filter goodWord)
def wsX0_tie_r1 : List Cond := [Cond.fieldLink RX0 16 "SplicedTalk" "ties" "[I", Cond.fieldLink RX0 19 "SplicedTalk" "wordPlaces" "[I", Cond.fieldLink RX0 86 "SplicedTalk" "threadCount" "I", Cond.methodLink RX0 72 yX0_requireGap, Cond.instanceMethod yX0_requireGap, Cond.selects RX0 yX0_requireGap yX0_requireGap, Cond.initialized RX0, Cond.code yX0_requireGap cX0_requireGap 2 none, Cond.classLink RX0 196 "java/lang/IndexOutOfBoundsException", Cond.initialized "java/lang/IndexOutOfBoundsException", Cond.methodLink RX0 157 yX0_gapCount, Cond.instanceMethod yX0_gapCount, Cond.selects RX0 yX0_gapCount yX0_gapCount, Cond.code yX0_gapCount cX0_gapCount 1 (some .int), Cond.fieldLink RX0 116 "SplicedTalk" "wordCount" "I", Cond.methodLink RX0 75 yX0_requireUntied, Cond.instanceMethod yX0_requireUntied, Cond.selects RX0 yX0_requireUntied yX0_requireUntied, Cond.code yX0_requireUntied cX0_requireUntied 2 none, Cond.classLink RX0 50 "java/lang/IllegalStateException", Cond.initialized "java/lang/IllegalStateException", Cond.methodLink RX0 131 yX0_gapTied, Cond.instanceMethod yX0_gapTied, Cond.selects RX0 yX0_gapTied yX0_gapTied]
def wsX0_tie_r2 : List Cond := [Cond.code yX0_gapTied cX0_gapTied 2 (some .boolean), Cond.methodLink RX0 78 yX0_read, Cond.static yX0_read, Cond.code yX0_read cX0_read 2 (some .int), Cond.methodLink RX0 57 yX0_requirePatience, Cond.instanceMethod yX0_requirePatience, Cond.selects RX0 yX0_requirePatience yX0_requirePatience, Cond.code yX0_requirePatience cX0_requirePatience 2 none, Cond.fieldLink RX0 25 "SplicedTalk" "patienceLeft" "I", Cond.methodLink RX0 60 yX0_pay, Cond.instanceMethod yX0_pay, Cond.selects RX0 yX0_pay yX0_pay, Cond.code yX0_pay cX0_pay 2 none, Cond.fieldLink RX0 119 "SplicedTalk" "patienceSpent" "I", Cond.methodLink RX0 82 yX0_write, Cond.static yX0_write, Cond.code yX0_write cX0_write 3 none, Cond.methodLink RX0 66 yX0_recount, Cond.instanceMethod yX0_recount, Cond.selects RX0 yX0_recount yX0_recount, Cond.code yX0_recount cX0_recount 2 none, Cond.fieldLink RX0 69 "SplicedTalk" "remarkCount" "I", Cond.fieldLink RX0 22 "SplicedTalk" "wordThreads" "[I", Cond.methodLink RX0 46 yX0_coughStandsAt]
def wsX0_tie_r3 : List Cond := [Cond.instanceMethod yX0_coughStandsAt, Cond.selects RX0 yX0_coughStandsAt yX0_coughStandsAt, Cond.code yX0_coughStandsAt cX0_coughStandsAt 2 (some .boolean), Cond.fieldLink RX0 13 "SplicedTalk" "topics" "[I", Cond.methodLink RX0 134 yX0_kindOfGap, Cond.instanceMethod yX0_kindOfGap, Cond.selects RX0 yX0_kindOfGap yX0_kindOfGap, Cond.code yX0_kindOfGap cX0_kindOfGap 2 (some .int), Cond.methodLink RX0 128 yX0_strainOfGap, Cond.instanceMethod yX0_strainOfGap, Cond.selects RX0 yX0_strainOfGap yX0_strainOfGap, Cond.code yX0_strainOfGap cX0_strainOfGap 2 (some .int), Cond.methodLink RX0 93 yX0_topicOfWord, Cond.instanceMethod yX0_topicOfWord, Cond.selects RX0 yX0_topicOfWord yX0_topicOfWord, Cond.code yX0_topicOfWord cX0_topicOfWord 2 (some .int), Cond.methodLink RX0 164 yX0_topicDistance, Cond.static yX0_topicDistance, Cond.code yX0_topicDistance cX0_topicDistance 3 (some .int), Cond.methodLink RX0 228 Lib.Math.abs.name, Cond.static Lib.Math.abs.name, Cond.initialized "java/lang/Math", Cond.code Lib.Math.abs.name Lib.Math.abs.code 1 (some .int), Cond.methodLink RX0 111 Lib.Math.min.name]
def wsX0_tie_r4 : List Cond := [Cond.static Lib.Math.min.name, Cond.code Lib.Math.min.name Lib.Math.min.code 2 (some .int), Cond.methodLink RX0 125 yX0_coughsOfGap, Cond.instanceMethod yX0_coughsOfGap, Cond.selects RX0 yX0_coughsOfGap yX0_coughsOfGap, Cond.code yX0_coughsOfGap cX0_coughsOfGap 2 (some .int), Cond.methodLink RX0 221 yX0_ofOneSpeaker, Cond.instanceMethod yX0_ofOneSpeaker, Cond.selects RX0 yX0_ofOneSpeaker yX0_ofOneSpeaker, Cond.code yX0_ofOneSpeaker cX0_ofOneSpeaker 2 (some .boolean), Cond.methodLink RX0 89 yX0_speakerOfWord, Cond.instanceMethod yX0_speakerOfWord, Cond.selects RX0 yX0_speakerOfWord yX0_speakerOfWord, Cond.code yX0_speakerOfWord cX0_speakerOfWord 2 (some .int), Cond.fieldLink RX0 9 "SplicedTalk" "speakers" "[I", Cond.methodLink RX0 167 yX0_kindOf, Cond.static yX0_kindOf, Cond.code yX0_kindOf cX0_kindOf 3 (some .int), Cond.methodLink RX0 224 yX0_mostUnbrokenStrain, Cond.static yX0_mostUnbrokenStrain, Cond.code yX0_mostUnbrokenStrain cX0_mostUnbrokenStrain 1 (some .int)]
def wsX0_tie : List Cond := .code yX0_tie cX0_tie 2 (some .int) :: ((wsX0_tie_r1 ++ (wsX0_tie_r2 ++ (wsX0_tie_r3 ++ wsX0_tie_r4))) ++ wsX00 ++ (vx_atS RX0 200 "java/lang/IndexOutOfBoundsException" ["java/lang/RuntimeException", "java/lang/Exception"]).filter goodWord ++ (vx_atS RX0 54 "java/lang/IllegalStateException" ["java/lang/RuntimeException", "java/lang/Exception"]).filter goodWord)
def wsJ9_floorMod_7cf53 : List Cond := .code yJ9_floorMod_7cf53 cJ9_floorMod_7cf53 3 (some .int) :: ([])
def wsX0_topicBetween : List Cond := .code yX0_topicBetween cX0_topicBetween 4 (some .int) :: ([.methodLink RX0 164 yX0_topicDistance, .static yX0_topicDistance, .initialized RX0, .code yX0_topicDistance cX0_topicDistance 3 (some .int), .methodLink RX0 228 Lib.Math.abs.name, .static Lib.Math.abs.name, .initialized "java/lang/Math", .code Lib.Math.abs.name Lib.Math.abs.code 1 (some .int), .methodLink RX0 111 Lib.Math.min.name, .static Lib.Math.min.name, .code Lib.Math.min.name Lib.Math.min.code 2 (some .int), .methodLink RX0 231 yJ9_floorMod_7cf53, .static yJ9_floorMod_7cf53, .initialized RJ9, .code yJ9_floorMod_7cf53 cJ9_floorMod_7cf53 3 (some .int)])
def wsX0_makeRoomAt : List Cond := .code yX0_makeRoomAt cX0_makeRoomAt 3 none :: ([.fieldLink RX0 69 "SplicedTalk" "remarkCount" "I", .methodLink RX0 217 yX0_copyRemark, .instanceMethod yX0_copyRemark, .selects RX0 yX0_copyRemark yX0_copyRemark, .initialized RX0, .code yX0_copyRemark cX0_copyRemark 3 none, .fieldLink RX0 9 "SplicedTalk" "speakers" "[I", .fieldLink RX0 13 "SplicedTalk" "topics" "[I", .fieldLink RX0 16 "SplicedTalk" "ties" "[I", .methodLink RX0 78 yX0_read, .static yX0_read, .code yX0_read cX0_read 2 (some .int), .methodLink RX0 82 yX0_write, .static yX0_write, .code yX0_write cX0_write 3 none] ++ wsX00)
def wsX0_splice_r1 : List Cond := [Cond.fieldLink RX0 19 "SplicedTalk" "wordPlaces" "[I", Cond.methodLink RX0 72 yX0_requireGap, Cond.instanceMethod yX0_requireGap, Cond.selects RX0 yX0_requireGap yX0_requireGap, Cond.initialized RX0, Cond.code yX0_requireGap cX0_requireGap 2 none, Cond.classLink RX0 196 "java/lang/IndexOutOfBoundsException", Cond.initialized "java/lang/IndexOutOfBoundsException", Cond.methodLink RX0 157 yX0_gapCount, Cond.instanceMethod yX0_gapCount, Cond.selects RX0 yX0_gapCount yX0_gapCount, Cond.code yX0_gapCount cX0_gapCount 1 (some .int), Cond.fieldLink RX0 116 "SplicedTalk" "wordCount" "I", Cond.methodLink RX0 75 yX0_requireUntied, Cond.instanceMethod yX0_requireUntied, Cond.selects RX0 yX0_requireUntied yX0_requireUntied, Cond.code yX0_requireUntied cX0_requireUntied 2 none, Cond.classLink RX0 50 "java/lang/IllegalStateException", Cond.initialized "java/lang/IllegalStateException", Cond.methodLink RX0 131 yX0_gapTied, Cond.instanceMethod yX0_gapTied, Cond.selects RX0 yX0_gapTied yX0_gapTied, Cond.code yX0_gapTied cX0_gapTied 2 (some .boolean), Cond.fieldLink RX0 16 "SplicedTalk" "ties" "[I"]
def wsX0_splice_r2 : List Cond := [Cond.methodLink RX0 78 yX0_read, Cond.static yX0_read, Cond.code yX0_read cX0_read 2 (some .int), Cond.methodLink RX0 36 yX0_requireRoom, Cond.instanceMethod yX0_requireRoom, Cond.selects RX0 yX0_requireRoom yX0_requireRoom, Cond.code yX0_requireRoom cX0_requireRoom 1 none, Cond.fieldLink RX0 69 "SplicedTalk" "remarkCount" "I", Cond.methodLink RX0 57 yX0_requirePatience, Cond.instanceMethod yX0_requirePatience, Cond.selects RX0 yX0_requirePatience yX0_requirePatience, Cond.code yX0_requirePatience cX0_requirePatience 2 none, Cond.fieldLink RX0 25 "SplicedTalk" "patienceLeft" "I", Cond.methodLink RX0 60 yX0_pay, Cond.instanceMethod yX0_pay, Cond.selects RX0 yX0_pay yX0_pay, Cond.code yX0_pay cX0_pay 2 none, Cond.fieldLink RX0 119 "SplicedTalk" "patienceSpent" "I", Cond.methodLink RX0 89 yX0_speakerOfWord, Cond.instanceMethod yX0_speakerOfWord, Cond.selects RX0 yX0_speakerOfWord yX0_speakerOfWord, Cond.code yX0_speakerOfWord cX0_speakerOfWord 2 (some .int), Cond.fieldLink RX0 9 "SplicedTalk" "speakers" "[I", Cond.methodLink RX0 93 yX0_topicOfWord]
def wsX0_splice_r3 : List Cond := [Cond.instanceMethod yX0_topicOfWord, Cond.selects RX0 yX0_topicOfWord yX0_topicOfWord, Cond.code yX0_topicOfWord cX0_topicOfWord 2 (some .int), Cond.fieldLink RX0 13 "SplicedTalk" "topics" "[I", Cond.methodLink RX0 96 yX0_topicBetween, Cond.static yX0_topicBetween, Cond.code yX0_topicBetween cX0_topicBetween 4 (some .int), Cond.methodLink RX0 164 yX0_topicDistance, Cond.static yX0_topicDistance, Cond.code yX0_topicDistance cX0_topicDistance 3 (some .int), Cond.methodLink RX0 228 Lib.Math.abs.name, Cond.static Lib.Math.abs.name, Cond.initialized "java/lang/Math", Cond.code Lib.Math.abs.name Lib.Math.abs.code 1 (some .int), Cond.methodLink RX0 111 Lib.Math.min.name, Cond.static Lib.Math.min.name, Cond.code Lib.Math.min.name Lib.Math.min.code 2 (some .int), Cond.methodLink RX0 231 yJ9_floorMod_7cf53, Cond.static yJ9_floorMod_7cf53, Cond.initialized RJ9, Cond.code yJ9_floorMod_7cf53 cJ9_floorMod_7cf53 3 (some .int), Cond.methodLink RX0 99 yX0_makeRoomAt, Cond.instanceMethod yX0_makeRoomAt, Cond.selects RX0 yX0_makeRoomAt yX0_makeRoomAt]
def wsX0_splice_r4 : List Cond := [Cond.code yX0_makeRoomAt cX0_makeRoomAt 3 none, Cond.methodLink RX0 217 yX0_copyRemark, Cond.instanceMethod yX0_copyRemark, Cond.selects RX0 yX0_copyRemark yX0_copyRemark, Cond.code yX0_copyRemark cX0_copyRemark 3 none, Cond.methodLink RX0 82 yX0_write, Cond.static yX0_write, Cond.code yX0_write cX0_write 3 none, Cond.methodLink RX0 102 yX0_put, Cond.instanceMethod yX0_put, Cond.selects RX0 yX0_put yX0_put, Cond.code yX0_put cX0_put 4 none, Cond.methodLink RX0 66 yX0_recount, Cond.instanceMethod yX0_recount, Cond.selects RX0 yX0_recount yX0_recount, Cond.code yX0_recount cX0_recount 2 none, Cond.fieldLink RX0 86 "SplicedTalk" "threadCount" "I", Cond.fieldLink RX0 22 "SplicedTalk" "wordThreads" "[I", Cond.methodLink RX0 46 yX0_coughStandsAt, Cond.instanceMethod yX0_coughStandsAt, Cond.selects RX0 yX0_coughStandsAt yX0_coughStandsAt, Cond.code yX0_coughStandsAt cX0_coughStandsAt 2 (some .boolean), Cond.methodLink RX0 134 yX0_kindOfGap, Cond.instanceMethod yX0_kindOfGap]
def wsX0_splice_r5 : List Cond := [Cond.selects RX0 yX0_kindOfGap yX0_kindOfGap, Cond.code yX0_kindOfGap cX0_kindOfGap 2 (some .int), Cond.methodLink RX0 128 yX0_strainOfGap, Cond.instanceMethod yX0_strainOfGap, Cond.selects RX0 yX0_strainOfGap yX0_strainOfGap, Cond.code yX0_strainOfGap cX0_strainOfGap 2 (some .int), Cond.methodLink RX0 125 yX0_coughsOfGap, Cond.instanceMethod yX0_coughsOfGap, Cond.selects RX0 yX0_coughsOfGap yX0_coughsOfGap, Cond.code yX0_coughsOfGap cX0_coughsOfGap 2 (some .int), Cond.methodLink RX0 221 yX0_ofOneSpeaker, Cond.instanceMethod yX0_ofOneSpeaker, Cond.selects RX0 yX0_ofOneSpeaker yX0_ofOneSpeaker, Cond.code yX0_ofOneSpeaker cX0_ofOneSpeaker 2 (some .boolean), Cond.methodLink RX0 167 yX0_kindOf, Cond.static yX0_kindOf, Cond.code yX0_kindOf cX0_kindOf 3 (some .int), Cond.methodLink RX0 224 yX0_mostUnbrokenStrain, Cond.static yX0_mostUnbrokenStrain, Cond.code yX0_mostUnbrokenStrain cX0_mostUnbrokenStrain 1 (some .int)]
def wsX0_splice : List Cond := .code yX0_splice cX0_splice 5 (some .int) :: ((wsX0_splice_r1 ++ (wsX0_splice_r2 ++ (wsX0_splice_r3 ++ (wsX0_splice_r4 ++ wsX0_splice_r5)))) ++ wsX00 ++ (vx_atS RX0 200 "java/lang/IndexOutOfBoundsException" ["java/lang/RuntimeException", "java/lang/Exception"]).filter goodWord ++ (vx_atS RX0 54 "java/lang/IllegalStateException" ["java/lang/RuntimeException", "java/lang/Exception"]).filter goodWord)
def wsX0_rest : List Cond := .code yX0_rest cX0_rest 2 (some .int) :: ([.classLink RX0 106 "java/lang/IllegalArgumentException", .initialized "java/lang/IllegalArgumentException", .fieldLink RX0 25 "SplicedTalk" "patienceLeft" "I", .methodLink RX0 111 Lib.Math.min.name, .static Lib.Math.min.name, .initialized "java/lang/Math", .code Lib.Math.min.name Lib.Math.min.code 2 (some .int)] ++ wsX00 ++ (vx_atS RX0 110 "java/lang/IllegalArgumentException" ["java/lang/RuntimeException", "java/lang/Exception"]).filter goodWord)
def wsX0_remarks : List Cond := .code yX0_remarks cX0_remarks 1 (some .int) :: ([.fieldLink RX0 69 "SplicedTalk" "remarkCount" "I"] ++ wsX00)
def wsX0_words : List Cond := .code yX0_words cX0_words 1 (some .int) :: ([.fieldLink RX0 116 "SplicedTalk" "wordCount" "I"] ++ wsX00)
def wsX0_coughs : List Cond := .code yX0_coughs cX0_coughs 1 (some .int) :: ([.fieldLink RX0 69 "SplicedTalk" "remarkCount" "I", .fieldLink RX0 116 "SplicedTalk" "wordCount" "I"] ++ wsX00)
def wsX0_patience : List Cond := .code yX0_patience cX0_patience 1 (some .int) :: ([.fieldLink RX0 25 "SplicedTalk" "patienceLeft" "I"] ++ wsX00)
def wsX0_spent : List Cond := .code yX0_spent cX0_spent 1 (some .int) :: ([.fieldLink RX0 119 "SplicedTalk" "patienceSpent" "I"] ++ wsX00)
def wsX0_isCough : List Cond := .code yX0_isCough cX0_isCough 2 (some .boolean) :: ([.methodLink RX0 43 yX0_requirePlace, .instanceMethod yX0_requirePlace, .selects RX0 yX0_requirePlace yX0_requirePlace, .initialized RX0, .code yX0_requirePlace cX0_requirePlace 2 none, .classLink RX0 196 "java/lang/IndexOutOfBoundsException", .initialized "java/lang/IndexOutOfBoundsException", .fieldLink RX0 69 "SplicedTalk" "remarkCount" "I", .methodLink RX0 46 yX0_coughStandsAt, .instanceMethod yX0_coughStandsAt, .selects RX0 yX0_coughStandsAt yX0_coughStandsAt, .code yX0_coughStandsAt cX0_coughStandsAt 2 (some .boolean), .fieldLink RX0 13 "SplicedTalk" "topics" "[I", .methodLink RX0 78 yX0_read, .static yX0_read, .code yX0_read cX0_read 2 (some .int)] ++ wsX00 ++ (vx_atS RX0 200 "java/lang/IndexOutOfBoundsException" ["java/lang/RuntimeException", "java/lang/Exception"]).filter goodWord)
def wsX0_speakerAt : List Cond := .code yX0_speakerAt cX0_speakerAt 2 (some .int) :: ([.fieldLink RX0 9 "SplicedTalk" "speakers" "[I", .methodLink RX0 43 yX0_requirePlace, .instanceMethod yX0_requirePlace, .selects RX0 yX0_requirePlace yX0_requirePlace, .initialized RX0, .code yX0_requirePlace cX0_requirePlace 2 none, .classLink RX0 196 "java/lang/IndexOutOfBoundsException", .initialized "java/lang/IndexOutOfBoundsException", .fieldLink RX0 69 "SplicedTalk" "remarkCount" "I", .methodLink RX0 78 yX0_read, .static yX0_read, .code yX0_read cX0_read 2 (some .int)] ++ wsX00 ++ (vx_atS RX0 200 "java/lang/IndexOutOfBoundsException" ["java/lang/RuntimeException", "java/lang/Exception"]).filter goodWord)
def wsX0_requireWord : List Cond := .code yX0_requireWord cX0_requireWord 2 none :: ([.classLink RX0 196 "java/lang/IndexOutOfBoundsException", .initialized "java/lang/IndexOutOfBoundsException", .fieldLink RX0 116 "SplicedTalk" "wordCount" "I"] ++ wsX00 ++ (vx_atS RX0 200 "java/lang/IndexOutOfBoundsException" ["java/lang/RuntimeException", "java/lang/Exception"]).filter goodWord)
def wsX0_placeOf : List Cond := .code yX0_placeOf cX0_placeOf 2 (some .int) :: ([.fieldLink RX0 19 "SplicedTalk" "wordPlaces" "[I", .methodLink RX0 122 yX0_requireWord, .instanceMethod yX0_requireWord, .selects RX0 yX0_requireWord yX0_requireWord, .initialized RX0, .code yX0_requireWord cX0_requireWord 2 none, .classLink RX0 196 "java/lang/IndexOutOfBoundsException", .initialized "java/lang/IndexOutOfBoundsException", .fieldLink RX0 116 "SplicedTalk" "wordCount" "I", .methodLink RX0 78 yX0_read, .static yX0_read, .code yX0_read cX0_read 2 (some .int)] ++ wsX00 ++ (vx_atS RX0 200 "java/lang/IndexOutOfBoundsException" ["java/lang/RuntimeException", "java/lang/Exception"]).filter goodWord)
def wsX0_topicOf : List Cond := .code yX0_topicOf cX0_topicOf 2 (some .int) :: ([.methodLink RX0 122 yX0_requireWord, .instanceMethod yX0_requireWord, .selects RX0 yX0_requireWord yX0_requireWord, .initialized RX0, .code yX0_requireWord cX0_requireWord 2 none, .classLink RX0 196 "java/lang/IndexOutOfBoundsException", .initialized "java/lang/IndexOutOfBoundsException", .fieldLink RX0 116 "SplicedTalk" "wordCount" "I", .methodLink RX0 93 yX0_topicOfWord, .instanceMethod yX0_topicOfWord, .selects RX0 yX0_topicOfWord yX0_topicOfWord, .code yX0_topicOfWord cX0_topicOfWord 2 (some .int), .fieldLink RX0 13 "SplicedTalk" "topics" "[I", .fieldLink RX0 19 "SplicedTalk" "wordPlaces" "[I", .methodLink RX0 78 yX0_read, .static yX0_read, .code yX0_read cX0_read 2 (some .int)] ++ wsX00 ++ (vx_atS RX0 200 "java/lang/IndexOutOfBoundsException" ["java/lang/RuntimeException", "java/lang/Exception"]).filter goodWord)
def wsX0_wordsOf : List Cond := .code yX0_wordsOf cX0_wordsOf 4 (some .int) :: ([.fieldLink RX0 116 "SplicedTalk" "wordCount" "I", .methodLink RX0 29 yX0_requireSpeaker, .static yX0_requireSpeaker, .initialized RX0, .code yX0_requireSpeaker cX0_requireSpeaker 1 none, .classLink RX0 196 "java/lang/IndexOutOfBoundsException", .initialized "java/lang/IndexOutOfBoundsException", .methodLink RX0 89 yX0_speakerOfWord, .instanceMethod yX0_speakerOfWord, .selects RX0 yX0_speakerOfWord yX0_speakerOfWord, .code yX0_speakerOfWord cX0_speakerOfWord 2 (some .int), .fieldLink RX0 9 "SplicedTalk" "speakers" "[I", .fieldLink RX0 19 "SplicedTalk" "wordPlaces" "[I", .methodLink RX0 78 yX0_read, .static yX0_read, .code yX0_read cX0_read 2 (some .int)] ++ wsX00 ++ (vx_atS RX0 200 "java/lang/IndexOutOfBoundsException" ["java/lang/RuntimeException", "java/lang/Exception"]).filter goodWord)
def wsX0_coughsIn : List Cond := .code yX0_coughsIn cX0_coughsIn 2 (some .int) :: ([.methodLink RX0 72 yX0_requireGap, .instanceMethod yX0_requireGap, .selects RX0 yX0_requireGap yX0_requireGap, .initialized RX0, .code yX0_requireGap cX0_requireGap 2 none, .classLink RX0 196 "java/lang/IndexOutOfBoundsException", .initialized "java/lang/IndexOutOfBoundsException", .methodLink RX0 157 yX0_gapCount, .instanceMethod yX0_gapCount, .selects RX0 yX0_gapCount yX0_gapCount, .code yX0_gapCount cX0_gapCount 1 (some .int), .fieldLink RX0 116 "SplicedTalk" "wordCount" "I", .methodLink RX0 125 yX0_coughsOfGap, .instanceMethod yX0_coughsOfGap, .selects RX0 yX0_coughsOfGap yX0_coughsOfGap, .code yX0_coughsOfGap cX0_coughsOfGap 2 (some .int), .fieldLink RX0 19 "SplicedTalk" "wordPlaces" "[I", .methodLink RX0 78 yX0_read, .static yX0_read, .code yX0_read cX0_read 2 (some .int)] ++ wsX00 ++ (vx_atS RX0 200 "java/lang/IndexOutOfBoundsException" ["java/lang/RuntimeException", "java/lang/Exception"]).filter goodWord)
def wsX0_strainOf_r1 : List Cond := [Cond.methodLink RX0 72 yX0_requireGap, Cond.instanceMethod yX0_requireGap, Cond.selects RX0 yX0_requireGap yX0_requireGap, Cond.initialized RX0, Cond.code yX0_requireGap cX0_requireGap 2 none, Cond.classLink RX0 196 "java/lang/IndexOutOfBoundsException", Cond.initialized "java/lang/IndexOutOfBoundsException", Cond.methodLink RX0 157 yX0_gapCount, Cond.instanceMethod yX0_gapCount, Cond.selects RX0 yX0_gapCount yX0_gapCount, Cond.code yX0_gapCount cX0_gapCount 1 (some .int), Cond.fieldLink RX0 116 "SplicedTalk" "wordCount" "I", Cond.methodLink RX0 128 yX0_strainOfGap, Cond.instanceMethod yX0_strainOfGap, Cond.selects RX0 yX0_strainOfGap yX0_strainOfGap, Cond.code yX0_strainOfGap cX0_strainOfGap 2 (some .int), Cond.methodLink RX0 93 yX0_topicOfWord, Cond.instanceMethod yX0_topicOfWord, Cond.selects RX0 yX0_topicOfWord yX0_topicOfWord, Cond.code yX0_topicOfWord cX0_topicOfWord 2 (some .int), Cond.fieldLink RX0 13 "SplicedTalk" "topics" "[I", Cond.fieldLink RX0 19 "SplicedTalk" "wordPlaces" "[I", Cond.methodLink RX0 78 yX0_read, Cond.static yX0_read]
def wsX0_strainOf_r2 : List Cond := [Cond.code yX0_read cX0_read 2 (some .int), Cond.methodLink RX0 164 yX0_topicDistance, Cond.static yX0_topicDistance, Cond.code yX0_topicDistance cX0_topicDistance 3 (some .int), Cond.methodLink RX0 228 Lib.Math.abs.name, Cond.static Lib.Math.abs.name, Cond.initialized "java/lang/Math", Cond.code Lib.Math.abs.name Lib.Math.abs.code 1 (some .int), Cond.methodLink RX0 111 Lib.Math.min.name, Cond.static Lib.Math.min.name, Cond.code Lib.Math.min.name Lib.Math.min.code 2 (some .int), Cond.methodLink RX0 125 yX0_coughsOfGap, Cond.instanceMethod yX0_coughsOfGap, Cond.selects RX0 yX0_coughsOfGap yX0_coughsOfGap, Cond.code yX0_coughsOfGap cX0_coughsOfGap 2 (some .int)]
def wsX0_strainOf : List Cond := .code yX0_strainOf cX0_strainOf 2 (some .int) :: ((wsX0_strainOf_r1 ++ wsX0_strainOf_r2) ++ wsX00 ++ (vx_atS RX0 200 "java/lang/IndexOutOfBoundsException" ["java/lang/RuntimeException", "java/lang/Exception"]).filter goodWord)
def wsX0_isTied : List Cond := .code yX0_isTied cX0_isTied 2 (some .boolean) :: ([.methodLink RX0 72 yX0_requireGap, .instanceMethod yX0_requireGap, .selects RX0 yX0_requireGap yX0_requireGap, .initialized RX0, .code yX0_requireGap cX0_requireGap 2 none, .classLink RX0 196 "java/lang/IndexOutOfBoundsException", .initialized "java/lang/IndexOutOfBoundsException", .methodLink RX0 157 yX0_gapCount, .instanceMethod yX0_gapCount, .selects RX0 yX0_gapCount yX0_gapCount, .code yX0_gapCount cX0_gapCount 1 (some .int), .fieldLink RX0 116 "SplicedTalk" "wordCount" "I", .methodLink RX0 131 yX0_gapTied, .instanceMethod yX0_gapTied, .selects RX0 yX0_gapTied yX0_gapTied, .code yX0_gapTied cX0_gapTied 2 (some .boolean), .fieldLink RX0 16 "SplicedTalk" "ties" "[I", .fieldLink RX0 19 "SplicedTalk" "wordPlaces" "[I", .methodLink RX0 78 yX0_read, .static yX0_read, .code yX0_read cX0_read 2 (some .int)] ++ wsX00 ++ (vx_atS RX0 200 "java/lang/IndexOutOfBoundsException" ["java/lang/RuntimeException", "java/lang/Exception"]).filter goodWord)
def wsX0_isSmooth_r1 : List Cond := [Cond.methodLink RX0 72 yX0_requireGap, Cond.instanceMethod yX0_requireGap, Cond.selects RX0 yX0_requireGap yX0_requireGap, Cond.initialized RX0, Cond.code yX0_requireGap cX0_requireGap 2 none, Cond.classLink RX0 196 "java/lang/IndexOutOfBoundsException", Cond.initialized "java/lang/IndexOutOfBoundsException", Cond.methodLink RX0 157 yX0_gapCount, Cond.instanceMethod yX0_gapCount, Cond.selects RX0 yX0_gapCount yX0_gapCount, Cond.code yX0_gapCount cX0_gapCount 1 (some .int), Cond.fieldLink RX0 116 "SplicedTalk" "wordCount" "I", Cond.methodLink RX0 134 yX0_kindOfGap, Cond.instanceMethod yX0_kindOfGap, Cond.selects RX0 yX0_kindOfGap yX0_kindOfGap, Cond.code yX0_kindOfGap cX0_kindOfGap 2 (some .int), Cond.methodLink RX0 131 yX0_gapTied, Cond.instanceMethod yX0_gapTied, Cond.selects RX0 yX0_gapTied yX0_gapTied, Cond.code yX0_gapTied cX0_gapTied 2 (some .boolean), Cond.fieldLink RX0 16 "SplicedTalk" "ties" "[I", Cond.fieldLink RX0 19 "SplicedTalk" "wordPlaces" "[I", Cond.methodLink RX0 78 yX0_read, Cond.static yX0_read]
def wsX0_isSmooth_r2 : List Cond := [Cond.code yX0_read cX0_read 2 (some .int), Cond.methodLink RX0 128 yX0_strainOfGap, Cond.instanceMethod yX0_strainOfGap, Cond.selects RX0 yX0_strainOfGap yX0_strainOfGap, Cond.code yX0_strainOfGap cX0_strainOfGap 2 (some .int), Cond.methodLink RX0 93 yX0_topicOfWord, Cond.instanceMethod yX0_topicOfWord, Cond.selects RX0 yX0_topicOfWord yX0_topicOfWord, Cond.code yX0_topicOfWord cX0_topicOfWord 2 (some .int), Cond.fieldLink RX0 13 "SplicedTalk" "topics" "[I", Cond.methodLink RX0 164 yX0_topicDistance, Cond.static yX0_topicDistance, Cond.code yX0_topicDistance cX0_topicDistance 3 (some .int), Cond.methodLink RX0 228 Lib.Math.abs.name, Cond.static Lib.Math.abs.name, Cond.initialized "java/lang/Math", Cond.code Lib.Math.abs.name Lib.Math.abs.code 1 (some .int), Cond.methodLink RX0 111 Lib.Math.min.name, Cond.static Lib.Math.min.name, Cond.code Lib.Math.min.name Lib.Math.min.code 2 (some .int), Cond.methodLink RX0 125 yX0_coughsOfGap, Cond.instanceMethod yX0_coughsOfGap, Cond.selects RX0 yX0_coughsOfGap yX0_coughsOfGap, Cond.code yX0_coughsOfGap cX0_coughsOfGap 2 (some .int)]
def wsX0_isSmooth_r3 : List Cond := [Cond.methodLink RX0 221 yX0_ofOneSpeaker, Cond.instanceMethod yX0_ofOneSpeaker, Cond.selects RX0 yX0_ofOneSpeaker yX0_ofOneSpeaker, Cond.code yX0_ofOneSpeaker cX0_ofOneSpeaker 2 (some .boolean), Cond.methodLink RX0 89 yX0_speakerOfWord, Cond.instanceMethod yX0_speakerOfWord, Cond.selects RX0 yX0_speakerOfWord yX0_speakerOfWord, Cond.code yX0_speakerOfWord cX0_speakerOfWord 2 (some .int), Cond.fieldLink RX0 9 "SplicedTalk" "speakers" "[I", Cond.methodLink RX0 167 yX0_kindOf, Cond.static yX0_kindOf, Cond.code yX0_kindOf cX0_kindOf 3 (some .int), Cond.methodLink RX0 224 yX0_mostUnbrokenStrain, Cond.static yX0_mostUnbrokenStrain, Cond.code yX0_mostUnbrokenStrain cX0_mostUnbrokenStrain 1 (some .int)]
def wsX0_isSmooth : List Cond := .code yX0_isSmooth cX0_isSmooth 2 (some .boolean) :: ((wsX0_isSmooth_r1 ++ (wsX0_isSmooth_r2 ++ wsX0_isSmooth_r3)) ++ wsX00 ++ (vx_atS RX0 200 "java/lang/IndexOutOfBoundsException" ["java/lang/RuntimeException", "java/lang/Exception"]).filter goodWord)
def wsX0_isPolite_r1 : List Cond := [Cond.methodLink RX0 72 yX0_requireGap, Cond.instanceMethod yX0_requireGap, Cond.selects RX0 yX0_requireGap yX0_requireGap, Cond.initialized RX0, Cond.code yX0_requireGap cX0_requireGap 2 none, Cond.classLink RX0 196 "java/lang/IndexOutOfBoundsException", Cond.initialized "java/lang/IndexOutOfBoundsException", Cond.methodLink RX0 157 yX0_gapCount, Cond.instanceMethod yX0_gapCount, Cond.selects RX0 yX0_gapCount yX0_gapCount, Cond.code yX0_gapCount cX0_gapCount 1 (some .int), Cond.fieldLink RX0 116 "SplicedTalk" "wordCount" "I", Cond.methodLink RX0 134 yX0_kindOfGap, Cond.instanceMethod yX0_kindOfGap, Cond.selects RX0 yX0_kindOfGap yX0_kindOfGap, Cond.code yX0_kindOfGap cX0_kindOfGap 2 (some .int), Cond.methodLink RX0 131 yX0_gapTied, Cond.instanceMethod yX0_gapTied, Cond.selects RX0 yX0_gapTied yX0_gapTied, Cond.code yX0_gapTied cX0_gapTied 2 (some .boolean), Cond.fieldLink RX0 16 "SplicedTalk" "ties" "[I", Cond.fieldLink RX0 19 "SplicedTalk" "wordPlaces" "[I", Cond.methodLink RX0 78 yX0_read, Cond.static yX0_read]
def wsX0_isPolite_r2 : List Cond := [Cond.code yX0_read cX0_read 2 (some .int), Cond.methodLink RX0 128 yX0_strainOfGap, Cond.instanceMethod yX0_strainOfGap, Cond.selects RX0 yX0_strainOfGap yX0_strainOfGap, Cond.code yX0_strainOfGap cX0_strainOfGap 2 (some .int), Cond.methodLink RX0 93 yX0_topicOfWord, Cond.instanceMethod yX0_topicOfWord, Cond.selects RX0 yX0_topicOfWord yX0_topicOfWord, Cond.code yX0_topicOfWord cX0_topicOfWord 2 (some .int), Cond.fieldLink RX0 13 "SplicedTalk" "topics" "[I", Cond.methodLink RX0 164 yX0_topicDistance, Cond.static yX0_topicDistance, Cond.code yX0_topicDistance cX0_topicDistance 3 (some .int), Cond.methodLink RX0 228 Lib.Math.abs.name, Cond.static Lib.Math.abs.name, Cond.initialized "java/lang/Math", Cond.code Lib.Math.abs.name Lib.Math.abs.code 1 (some .int), Cond.methodLink RX0 111 Lib.Math.min.name, Cond.static Lib.Math.min.name, Cond.code Lib.Math.min.name Lib.Math.min.code 2 (some .int), Cond.methodLink RX0 125 yX0_coughsOfGap, Cond.instanceMethod yX0_coughsOfGap, Cond.selects RX0 yX0_coughsOfGap yX0_coughsOfGap, Cond.code yX0_coughsOfGap cX0_coughsOfGap 2 (some .int)]
def wsX0_isPolite_r3 : List Cond := [Cond.methodLink RX0 221 yX0_ofOneSpeaker, Cond.instanceMethod yX0_ofOneSpeaker, Cond.selects RX0 yX0_ofOneSpeaker yX0_ofOneSpeaker, Cond.code yX0_ofOneSpeaker cX0_ofOneSpeaker 2 (some .boolean), Cond.methodLink RX0 89 yX0_speakerOfWord, Cond.instanceMethod yX0_speakerOfWord, Cond.selects RX0 yX0_speakerOfWord yX0_speakerOfWord, Cond.code yX0_speakerOfWord cX0_speakerOfWord 2 (some .int), Cond.fieldLink RX0 9 "SplicedTalk" "speakers" "[I", Cond.methodLink RX0 167 yX0_kindOf, Cond.static yX0_kindOf, Cond.code yX0_kindOf cX0_kindOf 3 (some .int), Cond.methodLink RX0 224 yX0_mostUnbrokenStrain, Cond.static yX0_mostUnbrokenStrain, Cond.code yX0_mostUnbrokenStrain cX0_mostUnbrokenStrain 1 (some .int)]
def wsX0_isPolite : List Cond := .code yX0_isPolite cX0_isPolite 2 (some .boolean) :: ((wsX0_isPolite_r1 ++ (wsX0_isPolite_r2 ++ wsX0_isPolite_r3)) ++ wsX00 ++ (vx_atS RX0 200 "java/lang/IndexOutOfBoundsException" ["java/lang/RuntimeException", "java/lang/Exception"]).filter goodWord)
def wsX0_isBroken_r1 : List Cond := [Cond.methodLink RX0 72 yX0_requireGap, Cond.instanceMethod yX0_requireGap, Cond.selects RX0 yX0_requireGap yX0_requireGap, Cond.initialized RX0, Cond.code yX0_requireGap cX0_requireGap 2 none, Cond.classLink RX0 196 "java/lang/IndexOutOfBoundsException", Cond.initialized "java/lang/IndexOutOfBoundsException", Cond.methodLink RX0 157 yX0_gapCount, Cond.instanceMethod yX0_gapCount, Cond.selects RX0 yX0_gapCount yX0_gapCount, Cond.code yX0_gapCount cX0_gapCount 1 (some .int), Cond.fieldLink RX0 116 "SplicedTalk" "wordCount" "I", Cond.methodLink RX0 134 yX0_kindOfGap, Cond.instanceMethod yX0_kindOfGap, Cond.selects RX0 yX0_kindOfGap yX0_kindOfGap, Cond.code yX0_kindOfGap cX0_kindOfGap 2 (some .int), Cond.methodLink RX0 131 yX0_gapTied, Cond.instanceMethod yX0_gapTied, Cond.selects RX0 yX0_gapTied yX0_gapTied, Cond.code yX0_gapTied cX0_gapTied 2 (some .boolean), Cond.fieldLink RX0 16 "SplicedTalk" "ties" "[I", Cond.fieldLink RX0 19 "SplicedTalk" "wordPlaces" "[I", Cond.methodLink RX0 78 yX0_read, Cond.static yX0_read]
def wsX0_isBroken_r2 : List Cond := [Cond.code yX0_read cX0_read 2 (some .int), Cond.methodLink RX0 128 yX0_strainOfGap, Cond.instanceMethod yX0_strainOfGap, Cond.selects RX0 yX0_strainOfGap yX0_strainOfGap, Cond.code yX0_strainOfGap cX0_strainOfGap 2 (some .int), Cond.methodLink RX0 93 yX0_topicOfWord, Cond.instanceMethod yX0_topicOfWord, Cond.selects RX0 yX0_topicOfWord yX0_topicOfWord, Cond.code yX0_topicOfWord cX0_topicOfWord 2 (some .int), Cond.fieldLink RX0 13 "SplicedTalk" "topics" "[I", Cond.methodLink RX0 164 yX0_topicDistance, Cond.static yX0_topicDistance, Cond.code yX0_topicDistance cX0_topicDistance 3 (some .int), Cond.methodLink RX0 228 Lib.Math.abs.name, Cond.static Lib.Math.abs.name, Cond.initialized "java/lang/Math", Cond.code Lib.Math.abs.name Lib.Math.abs.code 1 (some .int), Cond.methodLink RX0 111 Lib.Math.min.name, Cond.static Lib.Math.min.name, Cond.code Lib.Math.min.name Lib.Math.min.code 2 (some .int), Cond.methodLink RX0 125 yX0_coughsOfGap, Cond.instanceMethod yX0_coughsOfGap, Cond.selects RX0 yX0_coughsOfGap yX0_coughsOfGap, Cond.code yX0_coughsOfGap cX0_coughsOfGap 2 (some .int)]
def wsX0_isBroken_r3 : List Cond := [Cond.methodLink RX0 221 yX0_ofOneSpeaker, Cond.instanceMethod yX0_ofOneSpeaker, Cond.selects RX0 yX0_ofOneSpeaker yX0_ofOneSpeaker, Cond.code yX0_ofOneSpeaker cX0_ofOneSpeaker 2 (some .boolean), Cond.methodLink RX0 89 yX0_speakerOfWord, Cond.instanceMethod yX0_speakerOfWord, Cond.selects RX0 yX0_speakerOfWord yX0_speakerOfWord, Cond.code yX0_speakerOfWord cX0_speakerOfWord 2 (some .int), Cond.fieldLink RX0 9 "SplicedTalk" "speakers" "[I", Cond.methodLink RX0 167 yX0_kindOf, Cond.static yX0_kindOf, Cond.code yX0_kindOf cX0_kindOf 3 (some .int), Cond.methodLink RX0 224 yX0_mostUnbrokenStrain, Cond.static yX0_mostUnbrokenStrain, Cond.code yX0_mostUnbrokenStrain cX0_mostUnbrokenStrain 1 (some .int)]
def wsX0_isBroken : List Cond := .code yX0_isBroken cX0_isBroken 2 (some .boolean) :: ((wsX0_isBroken_r1 ++ (wsX0_isBroken_r2 ++ wsX0_isBroken_r3)) ++ wsX00 ++ (vx_atS RX0 200 "java/lang/IndexOutOfBoundsException" ["java/lang/RuntimeException", "java/lang/Exception"]).filter goodWord)
def wsX0_gapsOfKind_r1 : List Cond := [Cond.methodLink RX0 157 yX0_gapCount, Cond.instanceMethod yX0_gapCount, Cond.selects RX0 yX0_gapCount yX0_gapCount, Cond.initialized RX0, Cond.code yX0_gapCount cX0_gapCount 1 (some .int), Cond.fieldLink RX0 116 "SplicedTalk" "wordCount" "I", Cond.methodLink RX0 134 yX0_kindOfGap, Cond.instanceMethod yX0_kindOfGap, Cond.selects RX0 yX0_kindOfGap yX0_kindOfGap, Cond.code yX0_kindOfGap cX0_kindOfGap 2 (some .int), Cond.methodLink RX0 131 yX0_gapTied, Cond.instanceMethod yX0_gapTied, Cond.selects RX0 yX0_gapTied yX0_gapTied, Cond.code yX0_gapTied cX0_gapTied 2 (some .boolean), Cond.fieldLink RX0 16 "SplicedTalk" "ties" "[I", Cond.fieldLink RX0 19 "SplicedTalk" "wordPlaces" "[I", Cond.methodLink RX0 78 yX0_read, Cond.static yX0_read, Cond.code yX0_read cX0_read 2 (some .int), Cond.methodLink RX0 128 yX0_strainOfGap, Cond.instanceMethod yX0_strainOfGap, Cond.selects RX0 yX0_strainOfGap yX0_strainOfGap, Cond.code yX0_strainOfGap cX0_strainOfGap 2 (some .int), Cond.methodLink RX0 93 yX0_topicOfWord]
def wsX0_gapsOfKind_r2 : List Cond := [Cond.instanceMethod yX0_topicOfWord, Cond.selects RX0 yX0_topicOfWord yX0_topicOfWord, Cond.code yX0_topicOfWord cX0_topicOfWord 2 (some .int), Cond.fieldLink RX0 13 "SplicedTalk" "topics" "[I", Cond.methodLink RX0 164 yX0_topicDistance, Cond.static yX0_topicDistance, Cond.code yX0_topicDistance cX0_topicDistance 3 (some .int), Cond.methodLink RX0 228 Lib.Math.abs.name, Cond.static Lib.Math.abs.name, Cond.initialized "java/lang/Math", Cond.code Lib.Math.abs.name Lib.Math.abs.code 1 (some .int), Cond.methodLink RX0 111 Lib.Math.min.name, Cond.static Lib.Math.min.name, Cond.code Lib.Math.min.name Lib.Math.min.code 2 (some .int), Cond.methodLink RX0 125 yX0_coughsOfGap, Cond.instanceMethod yX0_coughsOfGap, Cond.selects RX0 yX0_coughsOfGap yX0_coughsOfGap, Cond.code yX0_coughsOfGap cX0_coughsOfGap 2 (some .int), Cond.methodLink RX0 221 yX0_ofOneSpeaker, Cond.instanceMethod yX0_ofOneSpeaker, Cond.selects RX0 yX0_ofOneSpeaker yX0_ofOneSpeaker, Cond.code yX0_ofOneSpeaker cX0_ofOneSpeaker 2 (some .boolean), Cond.methodLink RX0 89 yX0_speakerOfWord, Cond.instanceMethod yX0_speakerOfWord]
def wsX0_gapsOfKind_r3 : List Cond := [Cond.selects RX0 yX0_speakerOfWord yX0_speakerOfWord, Cond.code yX0_speakerOfWord cX0_speakerOfWord 2 (some .int), Cond.fieldLink RX0 9 "SplicedTalk" "speakers" "[I", Cond.methodLink RX0 167 yX0_kindOf, Cond.static yX0_kindOf, Cond.code yX0_kindOf cX0_kindOf 3 (some .int), Cond.methodLink RX0 224 yX0_mostUnbrokenStrain, Cond.static yX0_mostUnbrokenStrain, Cond.code yX0_mostUnbrokenStrain cX0_mostUnbrokenStrain 1 (some .int)]
def wsX0_gapsOfKind : List Cond := .code yX0_gapsOfKind cX0_gapsOfKind 4 (some .int) :: ((wsX0_gapsOfKind_r1 ++ (wsX0_gapsOfKind_r2 ++ wsX0_gapsOfKind_r3)) ++ wsX00)
def wsX0_brokenGaps_r1 : List Cond := [Cond.methodLink RX0 137 yX0_gapsOfKind, Cond.instanceMethod yX0_gapsOfKind, Cond.selects RX0 yX0_gapsOfKind yX0_gapsOfKind, Cond.initialized RX0, Cond.code yX0_gapsOfKind cX0_gapsOfKind 4 (some .int), Cond.methodLink RX0 157 yX0_gapCount, Cond.instanceMethod yX0_gapCount, Cond.selects RX0 yX0_gapCount yX0_gapCount, Cond.code yX0_gapCount cX0_gapCount 1 (some .int), Cond.fieldLink RX0 116 "SplicedTalk" "wordCount" "I", Cond.methodLink RX0 134 yX0_kindOfGap, Cond.instanceMethod yX0_kindOfGap, Cond.selects RX0 yX0_kindOfGap yX0_kindOfGap, Cond.code yX0_kindOfGap cX0_kindOfGap 2 (some .int), Cond.methodLink RX0 131 yX0_gapTied, Cond.instanceMethod yX0_gapTied, Cond.selects RX0 yX0_gapTied yX0_gapTied, Cond.code yX0_gapTied cX0_gapTied 2 (some .boolean), Cond.fieldLink RX0 16 "SplicedTalk" "ties" "[I", Cond.fieldLink RX0 19 "SplicedTalk" "wordPlaces" "[I", Cond.methodLink RX0 78 yX0_read, Cond.static yX0_read, Cond.code yX0_read cX0_read 2 (some .int), Cond.methodLink RX0 128 yX0_strainOfGap]
def wsX0_brokenGaps_r2 : List Cond := [Cond.instanceMethod yX0_strainOfGap, Cond.selects RX0 yX0_strainOfGap yX0_strainOfGap, Cond.code yX0_strainOfGap cX0_strainOfGap 2 (some .int), Cond.methodLink RX0 93 yX0_topicOfWord, Cond.instanceMethod yX0_topicOfWord, Cond.selects RX0 yX0_topicOfWord yX0_topicOfWord, Cond.code yX0_topicOfWord cX0_topicOfWord 2 (some .int), Cond.fieldLink RX0 13 "SplicedTalk" "topics" "[I", Cond.methodLink RX0 164 yX0_topicDistance, Cond.static yX0_topicDistance, Cond.code yX0_topicDistance cX0_topicDistance 3 (some .int), Cond.methodLink RX0 228 Lib.Math.abs.name, Cond.static Lib.Math.abs.name, Cond.initialized "java/lang/Math", Cond.code Lib.Math.abs.name Lib.Math.abs.code 1 (some .int), Cond.methodLink RX0 111 Lib.Math.min.name, Cond.static Lib.Math.min.name, Cond.code Lib.Math.min.name Lib.Math.min.code 2 (some .int), Cond.methodLink RX0 125 yX0_coughsOfGap, Cond.instanceMethod yX0_coughsOfGap, Cond.selects RX0 yX0_coughsOfGap yX0_coughsOfGap, Cond.code yX0_coughsOfGap cX0_coughsOfGap 2 (some .int), Cond.methodLink RX0 221 yX0_ofOneSpeaker, Cond.instanceMethod yX0_ofOneSpeaker]
def wsX0_brokenGaps_r3 : List Cond := [Cond.selects RX0 yX0_ofOneSpeaker yX0_ofOneSpeaker, Cond.code yX0_ofOneSpeaker cX0_ofOneSpeaker 2 (some .boolean), Cond.methodLink RX0 89 yX0_speakerOfWord, Cond.instanceMethod yX0_speakerOfWord, Cond.selects RX0 yX0_speakerOfWord yX0_speakerOfWord, Cond.code yX0_speakerOfWord cX0_speakerOfWord 2 (some .int), Cond.fieldLink RX0 9 "SplicedTalk" "speakers" "[I", Cond.methodLink RX0 167 yX0_kindOf, Cond.static yX0_kindOf, Cond.code yX0_kindOf cX0_kindOf 3 (some .int), Cond.methodLink RX0 224 yX0_mostUnbrokenStrain, Cond.static yX0_mostUnbrokenStrain, Cond.code yX0_mostUnbrokenStrain cX0_mostUnbrokenStrain 1 (some .int)]
def wsX0_brokenGaps : List Cond := .code yX0_brokenGaps cX0_brokenGaps 1 (some .int) :: ((wsX0_brokenGaps_r1 ++ (wsX0_brokenGaps_r2 ++ wsX0_brokenGaps_r3)) ++ wsX00)
def wsX0_politeGaps_r1 : List Cond := [Cond.methodLink RX0 137 yX0_gapsOfKind, Cond.instanceMethod yX0_gapsOfKind, Cond.selects RX0 yX0_gapsOfKind yX0_gapsOfKind, Cond.initialized RX0, Cond.code yX0_gapsOfKind cX0_gapsOfKind 4 (some .int), Cond.methodLink RX0 157 yX0_gapCount, Cond.instanceMethod yX0_gapCount, Cond.selects RX0 yX0_gapCount yX0_gapCount, Cond.code yX0_gapCount cX0_gapCount 1 (some .int), Cond.fieldLink RX0 116 "SplicedTalk" "wordCount" "I", Cond.methodLink RX0 134 yX0_kindOfGap, Cond.instanceMethod yX0_kindOfGap, Cond.selects RX0 yX0_kindOfGap yX0_kindOfGap, Cond.code yX0_kindOfGap cX0_kindOfGap 2 (some .int), Cond.methodLink RX0 131 yX0_gapTied, Cond.instanceMethod yX0_gapTied, Cond.selects RX0 yX0_gapTied yX0_gapTied, Cond.code yX0_gapTied cX0_gapTied 2 (some .boolean), Cond.fieldLink RX0 16 "SplicedTalk" "ties" "[I", Cond.fieldLink RX0 19 "SplicedTalk" "wordPlaces" "[I", Cond.methodLink RX0 78 yX0_read, Cond.static yX0_read, Cond.code yX0_read cX0_read 2 (some .int), Cond.methodLink RX0 128 yX0_strainOfGap]
def wsX0_politeGaps_r2 : List Cond := [Cond.instanceMethod yX0_strainOfGap, Cond.selects RX0 yX0_strainOfGap yX0_strainOfGap, Cond.code yX0_strainOfGap cX0_strainOfGap 2 (some .int), Cond.methodLink RX0 93 yX0_topicOfWord, Cond.instanceMethod yX0_topicOfWord, Cond.selects RX0 yX0_topicOfWord yX0_topicOfWord, Cond.code yX0_topicOfWord cX0_topicOfWord 2 (some .int), Cond.fieldLink RX0 13 "SplicedTalk" "topics" "[I", Cond.methodLink RX0 164 yX0_topicDistance, Cond.static yX0_topicDistance, Cond.code yX0_topicDistance cX0_topicDistance 3 (some .int), Cond.methodLink RX0 228 Lib.Math.abs.name, Cond.static Lib.Math.abs.name, Cond.initialized "java/lang/Math", Cond.code Lib.Math.abs.name Lib.Math.abs.code 1 (some .int), Cond.methodLink RX0 111 Lib.Math.min.name, Cond.static Lib.Math.min.name, Cond.code Lib.Math.min.name Lib.Math.min.code 2 (some .int), Cond.methodLink RX0 125 yX0_coughsOfGap, Cond.instanceMethod yX0_coughsOfGap, Cond.selects RX0 yX0_coughsOfGap yX0_coughsOfGap, Cond.code yX0_coughsOfGap cX0_coughsOfGap 2 (some .int), Cond.methodLink RX0 221 yX0_ofOneSpeaker, Cond.instanceMethod yX0_ofOneSpeaker]
def wsX0_politeGaps_r3 : List Cond := [Cond.selects RX0 yX0_ofOneSpeaker yX0_ofOneSpeaker, Cond.code yX0_ofOneSpeaker cX0_ofOneSpeaker 2 (some .boolean), Cond.methodLink RX0 89 yX0_speakerOfWord, Cond.instanceMethod yX0_speakerOfWord, Cond.selects RX0 yX0_speakerOfWord yX0_speakerOfWord, Cond.code yX0_speakerOfWord cX0_speakerOfWord 2 (some .int), Cond.fieldLink RX0 9 "SplicedTalk" "speakers" "[I", Cond.methodLink RX0 167 yX0_kindOf, Cond.static yX0_kindOf, Cond.code yX0_kindOf cX0_kindOf 3 (some .int), Cond.methodLink RX0 224 yX0_mostUnbrokenStrain, Cond.static yX0_mostUnbrokenStrain, Cond.code yX0_mostUnbrokenStrain cX0_mostUnbrokenStrain 1 (some .int)]
def wsX0_politeGaps : List Cond := .code yX0_politeGaps cX0_politeGaps 1 (some .int) :: ((wsX0_politeGaps_r1 ++ (wsX0_politeGaps_r2 ++ wsX0_politeGaps_r3)) ++ wsX00)
def wsX0_threads : List Cond := .code yX0_threads cX0_threads 1 (some .int) :: ([.fieldLink RX0 86 "SplicedTalk" "threadCount" "I"] ++ wsX00)
def wsX0_threadOfWord : List Cond := .code yX0_threadOfWord cX0_threadOfWord 2 (some .int) :: ([.fieldLink RX0 22 "SplicedTalk" "wordThreads" "[I", .methodLink RX0 78 yX0_read, .static yX0_read, .initialized RX0, .code yX0_read cX0_read 2 (some .int)] ++ wsX00)
def wsX0_threadOf : List Cond := .code yX0_threadOf cX0_threadOf 2 (some .int) :: ([.methodLink RX0 122 yX0_requireWord, .instanceMethod yX0_requireWord, .selects RX0 yX0_requireWord yX0_requireWord, .initialized RX0, .code yX0_requireWord cX0_requireWord 2 none, .classLink RX0 196 "java/lang/IndexOutOfBoundsException", .initialized "java/lang/IndexOutOfBoundsException", .fieldLink RX0 116 "SplicedTalk" "wordCount" "I", .methodLink RX0 140 yX0_threadOfWord, .instanceMethod yX0_threadOfWord, .selects RX0 yX0_threadOfWord yX0_threadOfWord, .code yX0_threadOfWord cX0_threadOfWord 2 (some .int), .fieldLink RX0 22 "SplicedTalk" "wordThreads" "[I", .methodLink RX0 78 yX0_read, .static yX0_read, .code yX0_read cX0_read 2 (some .int)] ++ wsX00 ++ (vx_atS RX0 200 "java/lang/IndexOutOfBoundsException" ["java/lang/RuntimeException", "java/lang/Exception"]).filter goodWord)
def wsX0_requireThread : List Cond := .code yX0_requireThread cX0_requireThread 2 none :: ([.classLink RX0 196 "java/lang/IndexOutOfBoundsException", .initialized "java/lang/IndexOutOfBoundsException", .fieldLink RX0 86 "SplicedTalk" "threadCount" "I"] ++ wsX00 ++ (vx_atS RX0 200 "java/lang/IndexOutOfBoundsException" ["java/lang/RuntimeException", "java/lang/Exception"]).filter goodWord)
def wsX0_wordsInThread : List Cond := .code yX0_wordsInThread cX0_wordsInThread 4 (some .int) :: ([.fieldLink RX0 116 "SplicedTalk" "wordCount" "I", .methodLink RX0 140 yX0_threadOfWord, .instanceMethod yX0_threadOfWord, .selects RX0 yX0_threadOfWord yX0_threadOfWord, .initialized RX0, .code yX0_threadOfWord cX0_threadOfWord 2 (some .int), .fieldLink RX0 22 "SplicedTalk" "wordThreads" "[I", .methodLink RX0 78 yX0_read, .static yX0_read, .code yX0_read cX0_read 2 (some .int)] ++ wsX00)
def wsX0_lengthOf : List Cond := .code yX0_lengthOf cX0_lengthOf 2 (some .int) :: ([.methodLink RX0 143 yX0_requireThread, .instanceMethod yX0_requireThread, .selects RX0 yX0_requireThread yX0_requireThread, .initialized RX0, .code yX0_requireThread cX0_requireThread 2 none, .classLink RX0 196 "java/lang/IndexOutOfBoundsException", .initialized "java/lang/IndexOutOfBoundsException", .fieldLink RX0 86 "SplicedTalk" "threadCount" "I", .methodLink RX0 146 yX0_wordsInThread, .instanceMethod yX0_wordsInThread, .selects RX0 yX0_wordsInThread yX0_wordsInThread, .code yX0_wordsInThread cX0_wordsInThread 4 (some .int), .fieldLink RX0 116 "SplicedTalk" "wordCount" "I", .methodLink RX0 140 yX0_threadOfWord, .instanceMethod yX0_threadOfWord, .selects RX0 yX0_threadOfWord yX0_threadOfWord, .code yX0_threadOfWord cX0_threadOfWord 2 (some .int), .fieldLink RX0 22 "SplicedTalk" "wordThreads" "[I", .methodLink RX0 78 yX0_read, .static yX0_read, .code yX0_read cX0_read 2 (some .int)] ++ wsX00 ++ (vx_atS RX0 200 "java/lang/IndexOutOfBoundsException" ["java/lang/RuntimeException", "java/lang/Exception"]).filter goodWord)
def wsX0_longestThread : List Cond := .code yX0_longestThread cX0_longestThread 5 (some .int) :: ([.fieldLink RX0 86 "SplicedTalk" "threadCount" "I", .methodLink RX0 146 yX0_wordsInThread, .instanceMethod yX0_wordsInThread, .selects RX0 yX0_wordsInThread yX0_wordsInThread, .initialized RX0, .code yX0_wordsInThread cX0_wordsInThread 4 (some .int), .fieldLink RX0 116 "SplicedTalk" "wordCount" "I", .methodLink RX0 140 yX0_threadOfWord, .instanceMethod yX0_threadOfWord, .selects RX0 yX0_threadOfWord yX0_threadOfWord, .code yX0_threadOfWord cX0_threadOfWord 2 (some .int), .fieldLink RX0 22 "SplicedTalk" "wordThreads" "[I", .methodLink RX0 78 yX0_read, .static yX0_read, .code yX0_read cX0_read 2 (some .int)] ++ wsX00)
def wsX0_threadsOf : List Cond := .code yX0_threadsOf cX0_threadsOf 6 (some .int) :: ([.fieldLink RX0 116 "SplicedTalk" "wordCount" "I", .methodLink RX0 29 yX0_requireSpeaker, .static yX0_requireSpeaker, .initialized RX0, .code yX0_requireSpeaker cX0_requireSpeaker 1 none, .classLink RX0 196 "java/lang/IndexOutOfBoundsException", .initialized "java/lang/IndexOutOfBoundsException", .methodLink RX0 140 yX0_threadOfWord, .instanceMethod yX0_threadOfWord, .selects RX0 yX0_threadOfWord yX0_threadOfWord, .code yX0_threadOfWord cX0_threadOfWord 2 (some .int), .fieldLink RX0 22 "SplicedTalk" "wordThreads" "[I", .methodLink RX0 78 yX0_read, .static yX0_read, .code yX0_read cX0_read 2 (some .int), .methodLink RX0 89 yX0_speakerOfWord, .instanceMethod yX0_speakerOfWord, .selects RX0 yX0_speakerOfWord yX0_speakerOfWord, .code yX0_speakerOfWord cX0_speakerOfWord 2 (some .int), .fieldLink RX0 9 "SplicedTalk" "speakers" "[I", .fieldLink RX0 19 "SplicedTalk" "wordPlaces" "[I"] ++ wsX00 ++ (vx_atS RX0 200 "java/lang/IndexOutOfBoundsException" ["java/lang/RuntimeException", "java/lang/Exception"]).filter goodWord)
def wsJ6_bitCount_0f7a4 : List Cond := .code yJ6_bitCount_0f7a4 cJ6_bitCount_0f7a4 1 (some .int) :: ([.constant RJ6 265 (1431655765), .constant RJ6 266 (858993459), .constant RJ6 267 (252645135)])
def wsX0_topicsIn_r1 : List Cond := [Cond.fieldLink RX0 116 "SplicedTalk" "wordCount" "I", Cond.methodLink RX0 143 yX0_requireThread, Cond.instanceMethod yX0_requireThread, Cond.selects RX0 yX0_requireThread yX0_requireThread, Cond.initialized RX0, Cond.code yX0_requireThread cX0_requireThread 2 none, Cond.classLink RX0 196 "java/lang/IndexOutOfBoundsException", Cond.initialized "java/lang/IndexOutOfBoundsException", Cond.fieldLink RX0 86 "SplicedTalk" "threadCount" "I", Cond.methodLink RX0 140 yX0_threadOfWord, Cond.instanceMethod yX0_threadOfWord, Cond.selects RX0 yX0_threadOfWord yX0_threadOfWord, Cond.code yX0_threadOfWord cX0_threadOfWord 2 (some .int), Cond.fieldLink RX0 22 "SplicedTalk" "wordThreads" "[I", Cond.methodLink RX0 78 yX0_read, Cond.static yX0_read, Cond.code yX0_read cX0_read 2 (some .int), Cond.methodLink RX0 93 yX0_topicOfWord, Cond.instanceMethod yX0_topicOfWord, Cond.selects RX0 yX0_topicOfWord yX0_topicOfWord, Cond.code yX0_topicOfWord cX0_topicOfWord 2 (some .int), Cond.fieldLink RX0 13 "SplicedTalk" "topics" "[I", Cond.fieldLink RX0 19 "SplicedTalk" "wordPlaces" "[I", Cond.methodLink RX0 149 yJ6_bitCount_0f7a4]
def wsX0_topicsIn_r2 : List Cond := [Cond.static yJ6_bitCount_0f7a4, Cond.initialized RJ6, Cond.code yJ6_bitCount_0f7a4 cJ6_bitCount_0f7a4 1 (some .int), Cond.constant RJ6 265 (1431655765), Cond.constant RJ6 266 (858993459), Cond.constant RJ6 267 (252645135)]
def wsX0_topicsIn : List Cond := .code yX0_topicsIn cX0_topicsIn 4 (some .int) :: ((wsX0_topicsIn_r1 ++ wsX0_topicsIn_r2) ++ wsX00 ++ (vx_atS RX0 200 "java/lang/IndexOutOfBoundsException" ["java/lang/RuntimeException", "java/lang/Exception"]).filter goodWord)
def wsX0_mendingCost_r1 : List Cond := [Cond.methodLink RX0 111 Lib.Math.min.name, Cond.static Lib.Math.min.name, Cond.initialized "java/lang/Math", Cond.code Lib.Math.min.name Lib.Math.min.code 2 (some .int), Cond.methodLink RX0 134 yX0_kindOfGap, Cond.instanceMethod yX0_kindOfGap, Cond.selects RX0 yX0_kindOfGap yX0_kindOfGap, Cond.initialized RX0, Cond.code yX0_kindOfGap cX0_kindOfGap 2 (some .int), Cond.methodLink RX0 131 yX0_gapTied, Cond.instanceMethod yX0_gapTied, Cond.selects RX0 yX0_gapTied yX0_gapTied, Cond.code yX0_gapTied cX0_gapTied 2 (some .boolean), Cond.fieldLink RX0 16 "SplicedTalk" "ties" "[I", Cond.fieldLink RX0 19 "SplicedTalk" "wordPlaces" "[I", Cond.methodLink RX0 78 yX0_read, Cond.static yX0_read, Cond.code yX0_read cX0_read 2 (some .int), Cond.methodLink RX0 128 yX0_strainOfGap, Cond.instanceMethod yX0_strainOfGap, Cond.selects RX0 yX0_strainOfGap yX0_strainOfGap, Cond.code yX0_strainOfGap cX0_strainOfGap 2 (some .int), Cond.methodLink RX0 93 yX0_topicOfWord, Cond.instanceMethod yX0_topicOfWord]
def wsX0_mendingCost_r2 : List Cond := [Cond.selects RX0 yX0_topicOfWord yX0_topicOfWord, Cond.code yX0_topicOfWord cX0_topicOfWord 2 (some .int), Cond.fieldLink RX0 13 "SplicedTalk" "topics" "[I", Cond.methodLink RX0 164 yX0_topicDistance, Cond.static yX0_topicDistance, Cond.code yX0_topicDistance cX0_topicDistance 3 (some .int), Cond.methodLink RX0 228 Lib.Math.abs.name, Cond.static Lib.Math.abs.name, Cond.code Lib.Math.abs.name Lib.Math.abs.code 1 (some .int), Cond.methodLink RX0 125 yX0_coughsOfGap, Cond.instanceMethod yX0_coughsOfGap, Cond.selects RX0 yX0_coughsOfGap yX0_coughsOfGap, Cond.code yX0_coughsOfGap cX0_coughsOfGap 2 (some .int), Cond.methodLink RX0 221 yX0_ofOneSpeaker, Cond.instanceMethod yX0_ofOneSpeaker, Cond.selects RX0 yX0_ofOneSpeaker yX0_ofOneSpeaker, Cond.code yX0_ofOneSpeaker cX0_ofOneSpeaker 2 (some .boolean), Cond.methodLink RX0 89 yX0_speakerOfWord, Cond.instanceMethod yX0_speakerOfWord, Cond.selects RX0 yX0_speakerOfWord yX0_speakerOfWord, Cond.code yX0_speakerOfWord cX0_speakerOfWord 2 (some .int), Cond.fieldLink RX0 9 "SplicedTalk" "speakers" "[I", Cond.methodLink RX0 167 yX0_kindOf, Cond.static yX0_kindOf]
def wsX0_mendingCost_r3 : List Cond := [Cond.code yX0_kindOf cX0_kindOf 3 (some .int), Cond.methodLink RX0 224 yX0_mostUnbrokenStrain, Cond.static yX0_mostUnbrokenStrain, Cond.code yX0_mostUnbrokenStrain cX0_mostUnbrokenStrain 1 (some .int)]
def wsX0_mendingCost : List Cond := .code yX0_mendingCost cX0_mendingCost 4 (some .int) :: ((wsX0_mendingCost_r1 ++ (wsX0_mendingCost_r2 ++ wsX0_mendingCost_r3)) ++ wsX00)
def wsX0_costOfMending_r1 : List Cond := [Cond.methodLink RX0 72 yX0_requireGap, Cond.instanceMethod yX0_requireGap, Cond.selects RX0 yX0_requireGap yX0_requireGap, Cond.initialized RX0, Cond.code yX0_requireGap cX0_requireGap 2 none, Cond.classLink RX0 196 "java/lang/IndexOutOfBoundsException", Cond.initialized "java/lang/IndexOutOfBoundsException", Cond.methodLink RX0 157 yX0_gapCount, Cond.instanceMethod yX0_gapCount, Cond.selects RX0 yX0_gapCount yX0_gapCount, Cond.code yX0_gapCount cX0_gapCount 1 (some .int), Cond.fieldLink RX0 116 "SplicedTalk" "wordCount" "I", Cond.methodLink RX0 154 yX0_mendingCost, Cond.instanceMethod yX0_mendingCost, Cond.selects RX0 yX0_mendingCost yX0_mendingCost, Cond.code yX0_mendingCost cX0_mendingCost 4 (some .int), Cond.methodLink RX0 111 Lib.Math.min.name, Cond.static Lib.Math.min.name, Cond.initialized "java/lang/Math", Cond.code Lib.Math.min.name Lib.Math.min.code 2 (some .int), Cond.methodLink RX0 134 yX0_kindOfGap, Cond.instanceMethod yX0_kindOfGap, Cond.selects RX0 yX0_kindOfGap yX0_kindOfGap, Cond.code yX0_kindOfGap cX0_kindOfGap 2 (some .int)]
def wsX0_costOfMending_r2 : List Cond := [Cond.methodLink RX0 131 yX0_gapTied, Cond.instanceMethod yX0_gapTied, Cond.selects RX0 yX0_gapTied yX0_gapTied, Cond.code yX0_gapTied cX0_gapTied 2 (some .boolean), Cond.fieldLink RX0 16 "SplicedTalk" "ties" "[I", Cond.fieldLink RX0 19 "SplicedTalk" "wordPlaces" "[I", Cond.methodLink RX0 78 yX0_read, Cond.static yX0_read, Cond.code yX0_read cX0_read 2 (some .int), Cond.methodLink RX0 128 yX0_strainOfGap, Cond.instanceMethod yX0_strainOfGap, Cond.selects RX0 yX0_strainOfGap yX0_strainOfGap, Cond.code yX0_strainOfGap cX0_strainOfGap 2 (some .int), Cond.methodLink RX0 93 yX0_topicOfWord, Cond.instanceMethod yX0_topicOfWord, Cond.selects RX0 yX0_topicOfWord yX0_topicOfWord, Cond.code yX0_topicOfWord cX0_topicOfWord 2 (some .int), Cond.fieldLink RX0 13 "SplicedTalk" "topics" "[I", Cond.methodLink RX0 164 yX0_topicDistance, Cond.static yX0_topicDistance, Cond.code yX0_topicDistance cX0_topicDistance 3 (some .int), Cond.methodLink RX0 228 Lib.Math.abs.name, Cond.static Lib.Math.abs.name, Cond.code Lib.Math.abs.name Lib.Math.abs.code 1 (some .int)]
def wsX0_costOfMending_r3 : List Cond := [Cond.methodLink RX0 125 yX0_coughsOfGap, Cond.instanceMethod yX0_coughsOfGap, Cond.selects RX0 yX0_coughsOfGap yX0_coughsOfGap, Cond.code yX0_coughsOfGap cX0_coughsOfGap 2 (some .int), Cond.methodLink RX0 221 yX0_ofOneSpeaker, Cond.instanceMethod yX0_ofOneSpeaker, Cond.selects RX0 yX0_ofOneSpeaker yX0_ofOneSpeaker, Cond.code yX0_ofOneSpeaker cX0_ofOneSpeaker 2 (some .boolean), Cond.methodLink RX0 89 yX0_speakerOfWord, Cond.instanceMethod yX0_speakerOfWord, Cond.selects RX0 yX0_speakerOfWord yX0_speakerOfWord, Cond.code yX0_speakerOfWord cX0_speakerOfWord 2 (some .int), Cond.fieldLink RX0 9 "SplicedTalk" "speakers" "[I", Cond.methodLink RX0 167 yX0_kindOf, Cond.static yX0_kindOf, Cond.code yX0_kindOf cX0_kindOf 3 (some .int), Cond.methodLink RX0 224 yX0_mostUnbrokenStrain, Cond.static yX0_mostUnbrokenStrain, Cond.code yX0_mostUnbrokenStrain cX0_mostUnbrokenStrain 1 (some .int)]
def wsX0_costOfMending : List Cond := .code yX0_costOfMending cX0_costOfMending 2 (some .int) :: ((wsX0_costOfMending_r1 ++ (wsX0_costOfMending_r2 ++ wsX0_costOfMending_r3)) ++ wsX00 ++ (vx_atS RX0 200 "java/lang/IndexOutOfBoundsException" ["java/lang/RuntimeException", "java/lang/Exception"]).filter goodWord)
def wsX0_costOfAll_r1 : List Cond := [Cond.methodLink RX0 157 yX0_gapCount, Cond.instanceMethod yX0_gapCount, Cond.selects RX0 yX0_gapCount yX0_gapCount, Cond.initialized RX0, Cond.code yX0_gapCount cX0_gapCount 1 (some .int), Cond.fieldLink RX0 116 "SplicedTalk" "wordCount" "I", Cond.methodLink RX0 154 yX0_mendingCost, Cond.instanceMethod yX0_mendingCost, Cond.selects RX0 yX0_mendingCost yX0_mendingCost, Cond.code yX0_mendingCost cX0_mendingCost 4 (some .int), Cond.methodLink RX0 111 Lib.Math.min.name, Cond.static Lib.Math.min.name, Cond.initialized "java/lang/Math", Cond.code Lib.Math.min.name Lib.Math.min.code 2 (some .int), Cond.methodLink RX0 134 yX0_kindOfGap, Cond.instanceMethod yX0_kindOfGap, Cond.selects RX0 yX0_kindOfGap yX0_kindOfGap, Cond.code yX0_kindOfGap cX0_kindOfGap 2 (some .int), Cond.methodLink RX0 131 yX0_gapTied, Cond.instanceMethod yX0_gapTied, Cond.selects RX0 yX0_gapTied yX0_gapTied, Cond.code yX0_gapTied cX0_gapTied 2 (some .boolean), Cond.fieldLink RX0 16 "SplicedTalk" "ties" "[I", Cond.fieldLink RX0 19 "SplicedTalk" "wordPlaces" "[I"]
def wsX0_costOfAll_r2 : List Cond := [Cond.methodLink RX0 78 yX0_read, Cond.static yX0_read, Cond.code yX0_read cX0_read 2 (some .int), Cond.methodLink RX0 128 yX0_strainOfGap, Cond.instanceMethod yX0_strainOfGap, Cond.selects RX0 yX0_strainOfGap yX0_strainOfGap, Cond.code yX0_strainOfGap cX0_strainOfGap 2 (some .int), Cond.methodLink RX0 93 yX0_topicOfWord, Cond.instanceMethod yX0_topicOfWord, Cond.selects RX0 yX0_topicOfWord yX0_topicOfWord, Cond.code yX0_topicOfWord cX0_topicOfWord 2 (some .int), Cond.fieldLink RX0 13 "SplicedTalk" "topics" "[I", Cond.methodLink RX0 164 yX0_topicDistance, Cond.static yX0_topicDistance, Cond.code yX0_topicDistance cX0_topicDistance 3 (some .int), Cond.methodLink RX0 228 Lib.Math.abs.name, Cond.static Lib.Math.abs.name, Cond.code Lib.Math.abs.name Lib.Math.abs.code 1 (some .int), Cond.methodLink RX0 125 yX0_coughsOfGap, Cond.instanceMethod yX0_coughsOfGap, Cond.selects RX0 yX0_coughsOfGap yX0_coughsOfGap, Cond.code yX0_coughsOfGap cX0_coughsOfGap 2 (some .int), Cond.methodLink RX0 221 yX0_ofOneSpeaker, Cond.instanceMethod yX0_ofOneSpeaker]
def wsX0_costOfAll_r3 : List Cond := [Cond.selects RX0 yX0_ofOneSpeaker yX0_ofOneSpeaker, Cond.code yX0_ofOneSpeaker cX0_ofOneSpeaker 2 (some .boolean), Cond.methodLink RX0 89 yX0_speakerOfWord, Cond.instanceMethod yX0_speakerOfWord, Cond.selects RX0 yX0_speakerOfWord yX0_speakerOfWord, Cond.code yX0_speakerOfWord cX0_speakerOfWord 2 (some .int), Cond.fieldLink RX0 9 "SplicedTalk" "speakers" "[I", Cond.methodLink RX0 167 yX0_kindOf, Cond.static yX0_kindOf, Cond.code yX0_kindOf cX0_kindOf 3 (some .int), Cond.methodLink RX0 224 yX0_mostUnbrokenStrain, Cond.static yX0_mostUnbrokenStrain, Cond.code yX0_mostUnbrokenStrain cX0_mostUnbrokenStrain 1 (some .int)]
def wsX0_costOfAll : List Cond := .code yX0_costOfAll cX0_costOfAll 3 (some .int) :: ((wsX0_costOfAll_r1 ++ (wsX0_costOfAll_r2 ++ wsX0_costOfAll_r3)) ++ wsX00)
def wsX0_meanStrain_r1 : List Cond := [Cond.methodLink RX0 157 yX0_gapCount, Cond.instanceMethod yX0_gapCount, Cond.selects RX0 yX0_gapCount yX0_gapCount, Cond.initialized RX0, Cond.code yX0_gapCount cX0_gapCount 1 (some .int), Cond.fieldLink RX0 116 "SplicedTalk" "wordCount" "I", Cond.methodLink RX0 128 yX0_strainOfGap, Cond.instanceMethod yX0_strainOfGap, Cond.selects RX0 yX0_strainOfGap yX0_strainOfGap, Cond.code yX0_strainOfGap cX0_strainOfGap 2 (some .int), Cond.methodLink RX0 93 yX0_topicOfWord, Cond.instanceMethod yX0_topicOfWord, Cond.selects RX0 yX0_topicOfWord yX0_topicOfWord, Cond.code yX0_topicOfWord cX0_topicOfWord 2 (some .int), Cond.fieldLink RX0 13 "SplicedTalk" "topics" "[I", Cond.fieldLink RX0 19 "SplicedTalk" "wordPlaces" "[I", Cond.methodLink RX0 78 yX0_read, Cond.static yX0_read, Cond.code yX0_read cX0_read 2 (some .int), Cond.methodLink RX0 164 yX0_topicDistance, Cond.static yX0_topicDistance, Cond.code yX0_topicDistance cX0_topicDistance 3 (some .int), Cond.methodLink RX0 228 Lib.Math.abs.name, Cond.static Lib.Math.abs.name]
def wsX0_meanStrain_r2 : List Cond := [Cond.initialized "java/lang/Math", Cond.code Lib.Math.abs.name Lib.Math.abs.code 1 (some .int), Cond.methodLink RX0 111 Lib.Math.min.name, Cond.static Lib.Math.min.name, Cond.code Lib.Math.min.name Lib.Math.min.code 2 (some .int), Cond.methodLink RX0 125 yX0_coughsOfGap, Cond.instanceMethod yX0_coughsOfGap, Cond.selects RX0 yX0_coughsOfGap yX0_coughsOfGap, Cond.code yX0_coughsOfGap cX0_coughsOfGap 2 (some .int)]
def wsX0_meanStrain : List Cond := .code yX0_meanStrain cX0_meanStrain 4 (some .double) :: ((wsX0_meanStrain_r1 ++ wsX0_meanStrain_r2) ++ wsX00)
def wsX1_init : List Cond := .code yX1_init cX1_init 1 none :: ([.methodLink RX1 1 objectInit, .instanceMethod objectInit, .code objectInit ⟨#[0xb1]⟩ 1 none, .fieldLink RX1 7 "SplicedTalkLaw$Sim" "patience" "I", .classLink RX1 13 "[I", .fieldLink RX1 15 "SplicedTalkLaw$Sim" "rows" "[[I"] ++ wsX10)
def wsX1_words : List Cond := .code yX1_words cX1_words 6 (some (.array (.array .int))) :: ([.fieldLink RX1 15 "SplicedTalkLaw$Sim" "rows" "[[I", .classLink RX1 13 "[I", .arrayClass .int] ++ wsX10)
def wsX1_apart : List Cond := .code yX1_apart cX1_apart 3 (some .int) :: ([])
def wsX1_sort : List Cond := .code yX1_sort cX1_sort 3 (some .int) :: ([])
def wsX1_strain : List Cond := .code yX1_strain cX1_strain 2 (some .int) :: ([.methodLink RX1 19 yX1_apart, .static yX1_apart, .initialized RX1, .code yX1_apart cX1_apart 3 (some .int)])
def wsX1_sort_ : List Cond := .code yX1_sort_ cX1_sort_ 2 (some .int) :: ([.methodLink RX1 23 yX1_strain, .static yX1_strain, .initialized RX1, .code yX1_strain cX1_strain 2 (some .int), .methodLink RX1 19 yX1_apart, .static yX1_apart, .code yX1_apart cX1_apart 3 (some .int), .methodLink RX1 27 yX1_sort, .static yX1_sort, .code yX1_sort cX1_sort 3 (some .int)])
def wsX1_broken : List Cond := .code yX1_broken cX1_broken 3 (some .int) :: ([.methodLink RX1 31 yX1_sort_, .static yX1_sort_, .initialized RX1, .code yX1_sort_ cX1_sort_ 2 (some .int), .methodLink RX1 23 yX1_strain, .static yX1_strain, .code yX1_strain cX1_strain 2 (some .int), .methodLink RX1 19 yX1_apart, .static yX1_apart, .code yX1_apart cX1_apart 3 (some .int), .methodLink RX1 27 yX1_sort, .static yX1_sort, .code yX1_sort cX1_sort 3 (some .int)])
def wsX1_insert : List Cond := .code yX1_insert cX1_insert 5 none :: ([.fieldLink RX1 15 "SplicedTalkLaw$Sim" "rows" "[[I", .classLink RX1 13 "[I"] ++ wsX10)
def wsX1_remove : List Cond := .code yX1_remove cX1_remove 4 none :: ([.fieldLink RX1 15 "SplicedTalkLaw$Sim" "rows" "[[I", .classLink RX1 13 "[I"] ++ wsX10)
def wsX1_between : List Cond := .code yX1_between cX1_between 6 (some .int) :: ([.methodLink RX1 19 yX1_apart, .static yX1_apart, .initialized RX1, .code yX1_apart cX1_apart 3 (some .int)])
def wsX1_splice : List Cond := .code yX1_splice cX1_splice 4 (some .int) :: ([.arrayClass .int, .methodLink RX1 33 yX1_words, .instanceMethod yX1_words, .selects RX1 yX1_words yX1_words, .initialized RX1, .code yX1_words cX1_words 6 (some (.array (.array .int))), .fieldLink RX1 15 "SplicedTalkLaw$Sim" "rows" "[[I", .classLink RX1 13 "[I", .methodLink RX1 37 yX1_between, .static yX1_between, .code yX1_between cX1_between 6 (some .int), .methodLink RX1 19 yX1_apart, .static yX1_apart, .code yX1_apart cX1_apart 3 (some .int), .methodLink RX1 40 yX1_insert, .instanceMethod yX1_insert, .selects RX1 yX1_insert yX1_insert, .code yX1_insert cX1_insert 5 none] ++ wsX10)
def wsX1_mends : List Cond := .code yX1_mends cX1_mends 4 (some .int) :: ([.methodLink RX1 31 yX1_sort_, .static yX1_sort_, .initialized RX1, .code yX1_sort_ cX1_sort_ 2 (some .int), .methodLink RX1 23 yX1_strain, .static yX1_strain, .code yX1_strain cX1_strain 2 (some .int), .methodLink RX1 19 yX1_apart, .static yX1_apart, .code yX1_apart cX1_apart 3 (some .int), .methodLink RX1 27 yX1_sort, .static yX1_sort, .code yX1_sort cX1_sort 3 (some .int)])
def wsX1_isSame_r1 : List Cond := [Cond.fieldLink RX1 15 "SplicedTalkLaw$Sim" "rows" "[[I", Cond.fieldLink RX1 7 "SplicedTalkLaw$Sim" "patience" "I", Cond.fieldLink RX1 45 "SplicedTalkLaw$Sim" "spent" "I", Cond.arrayClass .int, Cond.classLink RX1 82 "[[I", Cond.methodLink RX1 33 yX1_words, Cond.instanceMethod yX1_words, Cond.selects RX1 yX1_words yX1_words, Cond.initialized RX1, Cond.code yX1_words cX1_words 6 (some (.array (.array .int))), Cond.classLink RX1 13 "[I", Cond.methodLink RX1 52 yX0_remarks, Cond.instanceMethod yX0_remarks, Cond.selects RX0 yX0_remarks yX0_remarks, Cond.initialized RX0, Cond.code yX0_remarks cX0_remarks 1 (some .int), Cond.fieldLink RX0 69 "SplicedTalk" "remarkCount" "I", Cond.methodLink RX1 58 yX0_words, Cond.instanceMethod yX0_words, Cond.selects RX0 yX0_words yX0_words, Cond.code yX0_words cX0_words 1 (some .int), Cond.fieldLink RX0 116 "SplicedTalk" "wordCount" "I", Cond.methodLink RX1 60 yX0_coughs, Cond.instanceMethod yX0_coughs]
def wsX1_isSame_r2 : List Cond := [Cond.selects RX0 yX0_coughs yX0_coughs, Cond.code yX0_coughs cX0_coughs 1 (some .int), Cond.methodLink RX1 63 yX0_patience, Cond.instanceMethod yX0_patience, Cond.selects RX0 yX0_patience yX0_patience, Cond.code yX0_patience cX0_patience 1 (some .int), Cond.fieldLink RX0 25 "SplicedTalk" "patienceLeft" "I", Cond.methodLink RX1 65 yX0_spent, Cond.instanceMethod yX0_spent, Cond.selects RX0 yX0_spent yX0_spent, Cond.code yX0_spent cX0_spent 1 (some .int), Cond.fieldLink RX0 119 "SplicedTalk" "patienceSpent" "I", Cond.methodLink RX1 67 yX0_brokenGaps, Cond.instanceMethod yX0_brokenGaps, Cond.selects RX0 yX0_brokenGaps yX0_brokenGaps, Cond.code yX0_brokenGaps cX0_brokenGaps 1 (some .int), Cond.methodLink RX0 137 yX0_gapsOfKind, Cond.instanceMethod yX0_gapsOfKind, Cond.selects RX0 yX0_gapsOfKind yX0_gapsOfKind, Cond.code yX0_gapsOfKind cX0_gapsOfKind 4 (some .int), Cond.methodLink RX0 157 yX0_gapCount, Cond.instanceMethod yX0_gapCount, Cond.selects RX0 yX0_gapCount yX0_gapCount, Cond.code yX0_gapCount cX0_gapCount 1 (some .int)]
def wsX1_isSame_r3 : List Cond := [Cond.methodLink RX0 134 yX0_kindOfGap, Cond.instanceMethod yX0_kindOfGap, Cond.selects RX0 yX0_kindOfGap yX0_kindOfGap, Cond.code yX0_kindOfGap cX0_kindOfGap 2 (some .int), Cond.methodLink RX0 131 yX0_gapTied, Cond.instanceMethod yX0_gapTied, Cond.selects RX0 yX0_gapTied yX0_gapTied, Cond.code yX0_gapTied cX0_gapTied 2 (some .boolean), Cond.fieldLink RX0 16 "SplicedTalk" "ties" "[I", Cond.fieldLink RX0 19 "SplicedTalk" "wordPlaces" "[I", Cond.methodLink RX0 78 yX0_read, Cond.static yX0_read, Cond.code yX0_read cX0_read 2 (some .int), Cond.methodLink RX0 128 yX0_strainOfGap, Cond.instanceMethod yX0_strainOfGap, Cond.selects RX0 yX0_strainOfGap yX0_strainOfGap, Cond.code yX0_strainOfGap cX0_strainOfGap 2 (some .int), Cond.methodLink RX0 93 yX0_topicOfWord, Cond.instanceMethod yX0_topicOfWord, Cond.selects RX0 yX0_topicOfWord yX0_topicOfWord, Cond.code yX0_topicOfWord cX0_topicOfWord 2 (some .int), Cond.fieldLink RX0 13 "SplicedTalk" "topics" "[I", Cond.methodLink RX0 164 yX0_topicDistance, Cond.static yX0_topicDistance]
def wsX1_isSame_r4 : List Cond := [Cond.code yX0_topicDistance cX0_topicDistance 3 (some .int), Cond.methodLink RX0 228 Lib.Math.abs.name, Cond.static Lib.Math.abs.name, Cond.initialized "java/lang/Math", Cond.code Lib.Math.abs.name Lib.Math.abs.code 1 (some .int), Cond.methodLink RX0 111 Lib.Math.min.name, Cond.static Lib.Math.min.name, Cond.code Lib.Math.min.name Lib.Math.min.code 2 (some .int), Cond.methodLink RX0 125 yX0_coughsOfGap, Cond.instanceMethod yX0_coughsOfGap, Cond.selects RX0 yX0_coughsOfGap yX0_coughsOfGap, Cond.code yX0_coughsOfGap cX0_coughsOfGap 2 (some .int), Cond.methodLink RX0 221 yX0_ofOneSpeaker, Cond.instanceMethod yX0_ofOneSpeaker, Cond.selects RX0 yX0_ofOneSpeaker yX0_ofOneSpeaker, Cond.code yX0_ofOneSpeaker cX0_ofOneSpeaker 2 (some .boolean), Cond.methodLink RX0 89 yX0_speakerOfWord, Cond.instanceMethod yX0_speakerOfWord, Cond.selects RX0 yX0_speakerOfWord yX0_speakerOfWord, Cond.code yX0_speakerOfWord cX0_speakerOfWord 2 (some .int), Cond.fieldLink RX0 9 "SplicedTalk" "speakers" "[I", Cond.methodLink RX0 167 yX0_kindOf, Cond.static yX0_kindOf, Cond.code yX0_kindOf cX0_kindOf 3 (some .int)]
def wsX1_isSame_r5 : List Cond := [Cond.methodLink RX0 224 yX0_mostUnbrokenStrain, Cond.static yX0_mostUnbrokenStrain, Cond.code yX0_mostUnbrokenStrain cX0_mostUnbrokenStrain 1 (some .int), Cond.methodLink RX1 70 yX1_broken, Cond.static yX1_broken, Cond.code yX1_broken cX1_broken 3 (some .int), Cond.methodLink RX1 31 yX1_sort_, Cond.static yX1_sort_, Cond.code yX1_sort_ cX1_sort_ 2 (some .int), Cond.methodLink RX1 23 yX1_strain, Cond.static yX1_strain, Cond.code yX1_strain cX1_strain 2 (some .int), Cond.methodLink RX1 19 yX1_apart, Cond.static yX1_apart, Cond.code yX1_apart cX1_apart 3 (some .int), Cond.methodLink RX1 27 yX1_sort, Cond.static yX1_sort, Cond.code yX1_sort cX1_sort 3 (some .int), Cond.methodLink RX1 74 yX0_isCough, Cond.instanceMethod yX0_isCough, Cond.selects RX0 yX0_isCough yX0_isCough, Cond.code yX0_isCough cX0_isCough 2 (some .boolean), Cond.methodLink RX0 43 yX0_requirePlace, Cond.instanceMethod yX0_requirePlace]
def wsX1_isSame_r6 : List Cond := [Cond.selects RX0 yX0_requirePlace yX0_requirePlace, Cond.code yX0_requirePlace cX0_requirePlace 2 none, Cond.classLink RX0 196 "java/lang/IndexOutOfBoundsException", Cond.initialized "java/lang/IndexOutOfBoundsException", Cond.methodLink RX0 46 yX0_coughStandsAt, Cond.instanceMethod yX0_coughStandsAt, Cond.selects RX0 yX0_coughStandsAt yX0_coughStandsAt, Cond.code yX0_coughStandsAt cX0_coughStandsAt 2 (some .boolean), Cond.methodLink RX1 78 yX0_speakerAt, Cond.instanceMethod yX0_speakerAt, Cond.selects RX0 yX0_speakerAt yX0_speakerAt, Cond.code yX0_speakerAt cX0_speakerAt 2 (some .int), Cond.methodLink RX1 83 yX0_placeOf, Cond.instanceMethod yX0_placeOf, Cond.selects RX0 yX0_placeOf yX0_placeOf, Cond.code yX0_placeOf cX0_placeOf 2 (some .int), Cond.methodLink RX0 122 yX0_requireWord, Cond.instanceMethod yX0_requireWord, Cond.selects RX0 yX0_requireWord yX0_requireWord, Cond.code yX0_requireWord cX0_requireWord 2 none, Cond.methodLink RX1 86 yX0_topicOf, Cond.instanceMethod yX0_topicOf, Cond.selects RX0 yX0_topicOf yX0_topicOf, Cond.code yX0_topicOf cX0_topicOf 2 (some .int)]
def wsX1_isSame_r7 : List Cond := [Cond.methodLink RX1 89 yX0_threadOf, Cond.instanceMethod yX0_threadOf, Cond.selects RX0 yX0_threadOf yX0_threadOf, Cond.code yX0_threadOf cX0_threadOf 2 (some .int), Cond.methodLink RX0 140 yX0_threadOfWord, Cond.instanceMethod yX0_threadOfWord, Cond.selects RX0 yX0_threadOfWord yX0_threadOfWord, Cond.code yX0_threadOfWord cX0_threadOfWord 2 (some .int), Cond.fieldLink RX0 22 "SplicedTalk" "wordThreads" "[I", Cond.methodLink RX1 92 yX0_coughsIn, Cond.instanceMethod yX0_coughsIn, Cond.selects RX0 yX0_coughsIn yX0_coughsIn, Cond.code yX0_coughsIn cX0_coughsIn 2 (some .int), Cond.methodLink RX0 72 yX0_requireGap, Cond.instanceMethod yX0_requireGap, Cond.selects RX0 yX0_requireGap yX0_requireGap, Cond.code yX0_requireGap cX0_requireGap 2 none, Cond.methodLink RX1 95 yX0_strainOf, Cond.instanceMethod yX0_strainOf, Cond.selects RX0 yX0_strainOf yX0_strainOf, Cond.code yX0_strainOf cX0_strainOf 2 (some .int), Cond.methodLink RX1 98 yX0_isTied, Cond.instanceMethod yX0_isTied, Cond.selects RX0 yX0_isTied yX0_isTied]
def wsX1_isSame_r8 : List Cond := [Cond.code yX0_isTied cX0_isTied 2 (some .boolean), Cond.methodLink RX1 101 yX0_isSmooth, Cond.instanceMethod yX0_isSmooth, Cond.selects RX0 yX0_isSmooth yX0_isSmooth, Cond.code yX0_isSmooth cX0_isSmooth 2 (some .boolean), Cond.methodLink RX1 104 yX0_isPolite, Cond.instanceMethod yX0_isPolite, Cond.selects RX0 yX0_isPolite yX0_isPolite, Cond.code yX0_isPolite cX0_isPolite 2 (some .boolean), Cond.methodLink RX1 107 yX0_isBroken, Cond.instanceMethod yX0_isBroken, Cond.selects RX0 yX0_isBroken yX0_isBroken, Cond.code yX0_isBroken cX0_isBroken 2 (some .boolean), Cond.methodLink RX1 110 yX0_costOfMending, Cond.instanceMethod yX0_costOfMending, Cond.selects RX0 yX0_costOfMending yX0_costOfMending, Cond.code yX0_costOfMending cX0_costOfMending 2 (some .int), Cond.methodLink RX0 154 yX0_mendingCost, Cond.instanceMethod yX0_mendingCost, Cond.selects RX0 yX0_mendingCost yX0_mendingCost, Cond.code yX0_mendingCost cX0_mendingCost 4 (some .int), Cond.methodLink RX1 113 yX1_mends, Cond.instanceMethod yX1_mends, Cond.selects RX1 yX1_mends yX1_mends]
def wsX1_isSame_r9 : List Cond := [Cond.code yX1_mends cX1_mends 4 (some .int), Cond.methodLink RX1 116 yX0_lengthOf, Cond.instanceMethod yX0_lengthOf, Cond.selects RX0 yX0_lengthOf yX0_lengthOf, Cond.code yX0_lengthOf cX0_lengthOf 2 (some .int), Cond.methodLink RX0 143 yX0_requireThread, Cond.instanceMethod yX0_requireThread, Cond.selects RX0 yX0_requireThread yX0_requireThread, Cond.code yX0_requireThread cX0_requireThread 2 none, Cond.fieldLink RX0 86 "SplicedTalk" "threadCount" "I", Cond.methodLink RX0 146 yX0_wordsInThread, Cond.instanceMethod yX0_wordsInThread, Cond.selects RX0 yX0_wordsInThread yX0_wordsInThread, Cond.code yX0_wordsInThread cX0_wordsInThread 4 (some .int), Cond.methodLink RX1 119 yX0_topicsIn, Cond.instanceMethod yX0_topicsIn, Cond.selects RX0 yX0_topicsIn yX0_topicsIn, Cond.code yX0_topicsIn cX0_topicsIn 4 (some .int), Cond.methodLink RX0 149 yJ6_bitCount_0f7a4, Cond.static yJ6_bitCount_0f7a4, Cond.initialized RJ6, Cond.code yJ6_bitCount_0f7a4 cJ6_bitCount_0f7a4 1 (some .int), Cond.constant RJ6 265 (1431655765), Cond.constant RJ6 266 (858993459)]
def wsX1_isSame_r10 : List Cond := [Cond.constant RJ6 267 (252645135), Cond.methodLink RX1 122 yX0_wordsOf, Cond.instanceMethod yX0_wordsOf, Cond.selects RX0 yX0_wordsOf yX0_wordsOf, Cond.code yX0_wordsOf cX0_wordsOf 4 (some .int), Cond.methodLink RX0 29 yX0_requireSpeaker, Cond.static yX0_requireSpeaker, Cond.code yX0_requireSpeaker cX0_requireSpeaker 1 none, Cond.methodLink RX1 125 yX0_threadsOf, Cond.instanceMethod yX0_threadsOf, Cond.selects RX0 yX0_threadsOf yX0_threadsOf, Cond.code yX0_threadsOf cX0_threadsOf 6 (some .int), Cond.methodLink RX1 128 yX0_politeGaps, Cond.instanceMethod yX0_politeGaps, Cond.selects RX0 yX0_politeGaps yX0_politeGaps, Cond.code yX0_politeGaps cX0_politeGaps 1 (some .int), Cond.methodLink RX1 131 yX0_threads, Cond.instanceMethod yX0_threads, Cond.selects RX0 yX0_threads yX0_threads, Cond.code yX0_threads cX0_threads 1 (some .int), Cond.methodLink RX1 134 yX0_longestThread, Cond.instanceMethod yX0_longestThread, Cond.selects RX0 yX0_longestThread yX0_longestThread, Cond.code yX0_longestThread cX0_longestThread 5 (some .int)]
def wsX1_isSame_r11 : List Cond := [Cond.methodLink RX1 137 yX0_costOfAll, Cond.instanceMethod yX0_costOfAll, Cond.selects RX0 yX0_costOfAll yX0_costOfAll, Cond.code yX0_costOfAll cX0_costOfAll 3 (some .int), Cond.methodLink RX1 140 yX0_meanStrain, Cond.instanceMethod yX0_meanStrain, Cond.selects RX0 yX0_meanStrain yX0_meanStrain, Cond.code yX0_meanStrain cX0_meanStrain 4 (some .double)]
def wsX1_isSame : List Cond := .code yX1_isSame cX1_isSame 20 (some .boolean) :: ((wsX1_isSame_r1 ++ (wsX1_isSame_r2 ++ (wsX1_isSame_r3 ++ (wsX1_isSame_r4 ++ (wsX1_isSame_r5 ++ (wsX1_isSame_r6 ++ (wsX1_isSame_r7 ++ (wsX1_isSame_r8 ++ (wsX1_isSame_r9 ++ (wsX1_isSame_r10 ++ wsX1_isSame_r11)))))))))) ++ wsX10 ++ wsX00 ++ (vx_atS RX0 200 "java/lang/IndexOutOfBoundsException" ["java/lang/RuntimeException", "java/lang/Exception"]).filter goodWord)
def wsJ9_abs_0f7a4 : List Cond := .code yJ9_abs_0f7a4 cJ9_abs_0f7a4 1 (some .int) :: ([])
def wsJ9_max_7cf53 : List Cond := .code yJ9_max_7cf53 cJ9_max_7cf53 2 (some .int) :: ([])
def wsJ9_min_7cf53 : List Cond := .code yJ9_min_7cf53 cJ9_min_7cf53 2 (some .int) :: ([])
def wsL_below : List Cond := .code yL_below cL_below 2 (some .int) :: ([.constant RL 7 (2147483647)])
def wsL_cell : List Cond := .code yL_cell cL_cell 2 (some .int) :: ([.constant RL 8 (790386105)])
def wsL_act_r1 : List Cond := [Cond.fieldLink RL 9 "SplicedTalkLaw$Sim" "rows" "[[I", Cond.arrayClass .int, Cond.fieldLink RL 35 "SplicedTalkLaw$Sim" "patience" "I", Cond.methodLink RL 39 Lib.Math.min.name, Cond.static Lib.Math.min.name, Cond.initialized "java/lang/Math", Cond.code Lib.Math.min.name Lib.Math.min.code 2 (some .int), Cond.fieldLink RL 51 "SplicedTalkLaw$Sim" "spent" "I", Cond.methodLink RL 15 yX1_words, Cond.instanceMethod yX1_words, Cond.selects RX1 yX1_words yX1_words, Cond.initialized RX1, Cond.code yX1_words cX1_words 6 (some (.array (.array .int))), Cond.fieldLink RX1 15 "SplicedTalkLaw$Sim" "rows" "[[I", Cond.classLink RX1 13 "[I", Cond.methodLink RL 19 yL_below, Cond.static yL_below, Cond.initialized RL, Cond.code yL_below cL_below 2 (some .int), Cond.constant RL 7 (2147483647), Cond.methodLink RL 25 yX1_insert, Cond.instanceMethod yX1_insert, Cond.selects RX1 yX1_insert yX1_insert, Cond.code yX1_insert cX1_insert 5 none]
def wsL_act_r2 : List Cond := [Cond.methodLink RL 29 yX0_cough, Cond.instanceMethod yX0_cough, Cond.selects RX0 yX0_cough yX0_cough, Cond.initialized RX0, Cond.code yX0_cough cX0_cough 2 (some .int), Cond.methodLink RX0 29 yX0_requireSpeaker, Cond.static yX0_requireSpeaker, Cond.code yX0_requireSpeaker cX0_requireSpeaker 1 none, Cond.classLink RX0 196 "java/lang/IndexOutOfBoundsException", Cond.initialized "java/lang/IndexOutOfBoundsException", Cond.methodLink RX0 36 yX0_requireRoom, Cond.instanceMethod yX0_requireRoom, Cond.selects RX0 yX0_requireRoom yX0_requireRoom, Cond.code yX0_requireRoom cX0_requireRoom 1 none, Cond.classLink RX0 50 "java/lang/IllegalStateException", Cond.initialized "java/lang/IllegalStateException", Cond.fieldLink RX0 69 "SplicedTalk" "remarkCount" "I", Cond.methodLink RX0 39 yX0_append, Cond.instanceMethod yX0_append, Cond.selects RX0 yX0_append yX0_append, Cond.code yX0_append cX0_append 4 (some .int), Cond.methodLink RX0 102 yX0_put, Cond.instanceMethod yX0_put, Cond.selects RX0 yX0_put yX0_put]
def wsL_act_r3 : List Cond := [Cond.code yX0_put cX0_put 4 none, Cond.fieldLink RX0 9 "SplicedTalk" "speakers" "[I", Cond.fieldLink RX0 13 "SplicedTalk" "topics" "[I", Cond.fieldLink RX0 16 "SplicedTalk" "ties" "[I", Cond.methodLink RX0 82 yX0_write, Cond.static yX0_write, Cond.code yX0_write cX0_write 3 none, Cond.methodLink RX0 66 yX0_recount, Cond.instanceMethod yX0_recount, Cond.selects RX0 yX0_recount yX0_recount, Cond.code yX0_recount cX0_recount 2 none, Cond.fieldLink RX0 116 "SplicedTalk" "wordCount" "I", Cond.fieldLink RX0 19 "SplicedTalk" "wordPlaces" "[I", Cond.fieldLink RX0 86 "SplicedTalk" "threadCount" "I", Cond.fieldLink RX0 22 "SplicedTalk" "wordThreads" "[I", Cond.methodLink RX0 46 yX0_coughStandsAt, Cond.instanceMethod yX0_coughStandsAt, Cond.selects RX0 yX0_coughStandsAt yX0_coughStandsAt, Cond.code yX0_coughStandsAt cX0_coughStandsAt 2 (some .boolean), Cond.methodLink RX0 78 yX0_read, Cond.static yX0_read, Cond.code yX0_read cX0_read 2 (some .int), Cond.methodLink RX0 134 yX0_kindOfGap, Cond.instanceMethod yX0_kindOfGap]
def wsL_act_r4 : List Cond := [Cond.selects RX0 yX0_kindOfGap yX0_kindOfGap, Cond.code yX0_kindOfGap cX0_kindOfGap 2 (some .int), Cond.methodLink RX0 131 yX0_gapTied, Cond.instanceMethod yX0_gapTied, Cond.selects RX0 yX0_gapTied yX0_gapTied, Cond.code yX0_gapTied cX0_gapTied 2 (some .boolean), Cond.methodLink RX0 128 yX0_strainOfGap, Cond.instanceMethod yX0_strainOfGap, Cond.selects RX0 yX0_strainOfGap yX0_strainOfGap, Cond.code yX0_strainOfGap cX0_strainOfGap 2 (some .int), Cond.methodLink RX0 93 yX0_topicOfWord, Cond.instanceMethod yX0_topicOfWord, Cond.selects RX0 yX0_topicOfWord yX0_topicOfWord, Cond.code yX0_topicOfWord cX0_topicOfWord 2 (some .int), Cond.methodLink RX0 164 yX0_topicDistance, Cond.static yX0_topicDistance, Cond.code yX0_topicDistance cX0_topicDistance 3 (some .int), Cond.methodLink RX0 228 Lib.Math.abs.name, Cond.static Lib.Math.abs.name, Cond.code Lib.Math.abs.name Lib.Math.abs.code 1 (some .int), Cond.methodLink RX0 111 Lib.Math.min.name, Cond.methodLink RX0 125 yX0_coughsOfGap, Cond.instanceMethod yX0_coughsOfGap, Cond.selects RX0 yX0_coughsOfGap yX0_coughsOfGap]
def wsL_act_r5 : List Cond := [Cond.code yX0_coughsOfGap cX0_coughsOfGap 2 (some .int), Cond.methodLink RX0 221 yX0_ofOneSpeaker, Cond.instanceMethod yX0_ofOneSpeaker, Cond.selects RX0 yX0_ofOneSpeaker yX0_ofOneSpeaker, Cond.code yX0_ofOneSpeaker cX0_ofOneSpeaker 2 (some .boolean), Cond.methodLink RX0 89 yX0_speakerOfWord, Cond.instanceMethod yX0_speakerOfWord, Cond.selects RX0 yX0_speakerOfWord yX0_speakerOfWord, Cond.code yX0_speakerOfWord cX0_speakerOfWord 2 (some .int), Cond.methodLink RX0 167 yX0_kindOf, Cond.static yX0_kindOf, Cond.code yX0_kindOf cX0_kindOf 3 (some .int), Cond.methodLink RX0 224 yX0_mostUnbrokenStrain, Cond.static yX0_mostUnbrokenStrain, Cond.code yX0_mostUnbrokenStrain cX0_mostUnbrokenStrain 1 (some .int), Cond.methodLink RL 44 yX0_rest, Cond.instanceMethod yX0_rest, Cond.selects RX0 yX0_rest yX0_rest, Cond.code yX0_rest cX0_rest 2 (some .int), Cond.classLink RX0 106 "java/lang/IllegalArgumentException", Cond.initialized "java/lang/IllegalArgumentException", Cond.fieldLink RX0 25 "SplicedTalk" "patienceLeft" "I", Cond.methodLink RL 47 yX1_remove, Cond.instanceMethod yX1_remove]
def wsL_act_r6 : List Cond := [Cond.selects RX1 yX1_remove yX1_remove, Cond.code yX1_remove cX1_remove 4 none, Cond.methodLink RL 54 yX0_removeCough, Cond.instanceMethod yX0_removeCough, Cond.selects RX0 yX0_removeCough yX0_removeCough, Cond.code yX0_removeCough cX0_removeCough 2 (some .int), Cond.methodLink RX0 43 yX0_requirePlace, Cond.instanceMethod yX0_requirePlace, Cond.selects RX0 yX0_requirePlace yX0_requirePlace, Cond.code yX0_requirePlace cX0_requirePlace 2 none, Cond.methodLink RX0 57 yX0_requirePatience, Cond.instanceMethod yX0_requirePatience, Cond.selects RX0 yX0_requirePatience yX0_requirePatience, Cond.code yX0_requirePatience cX0_requirePatience 2 none, Cond.methodLink RX0 60 yX0_pay, Cond.instanceMethod yX0_pay, Cond.selects RX0 yX0_pay yX0_pay, Cond.code yX0_pay cX0_pay 2 none, Cond.fieldLink RX0 119 "SplicedTalk" "patienceSpent" "I", Cond.methodLink RX0 63 yX0_moveUpBehind, Cond.instanceMethod yX0_moveUpBehind, Cond.selects RX0 yX0_moveUpBehind yX0_moveUpBehind, Cond.code yX0_moveUpBehind cX0_moveUpBehind 3 none, Cond.methodLink RX0 217 yX0_copyRemark]
def wsL_act_r7 : List Cond := [Cond.instanceMethod yX0_copyRemark, Cond.selects RX0 yX0_copyRemark yX0_copyRemark, Cond.code yX0_copyRemark cX0_copyRemark 3 none, Cond.methodLink RL 57 yX0_tie, Cond.instanceMethod yX0_tie, Cond.selects RX0 yX0_tie yX0_tie, Cond.code yX0_tie cX0_tie 2 (some .int), Cond.methodLink RX0 72 yX0_requireGap, Cond.instanceMethod yX0_requireGap, Cond.selects RX0 yX0_requireGap yX0_requireGap, Cond.code yX0_requireGap cX0_requireGap 2 none, Cond.methodLink RX0 157 yX0_gapCount, Cond.instanceMethod yX0_gapCount, Cond.selects RX0 yX0_gapCount yX0_gapCount, Cond.code yX0_gapCount cX0_gapCount 1 (some .int), Cond.methodLink RX0 75 yX0_requireUntied, Cond.instanceMethod yX0_requireUntied, Cond.selects RX0 yX0_requireUntied yX0_requireUntied, Cond.code yX0_requireUntied cX0_requireUntied 2 none, Cond.methodLink RL 60 yX1_broken, Cond.static yX1_broken, Cond.code yX1_broken cX1_broken 3 (some .int), Cond.methodLink RX1 31 yX1_sort_, Cond.static yX1_sort_]
def wsL_act_r8 : List Cond := [Cond.code yX1_sort_ cX1_sort_ 2 (some .int), Cond.methodLink RX1 23 yX1_strain, Cond.static yX1_strain, Cond.code yX1_strain cX1_strain 2 (some .int), Cond.methodLink RX1 19 yX1_apart, Cond.static yX1_apart, Cond.code yX1_apart cX1_apart 3 (some .int), Cond.methodLink RX1 27 yX1_sort, Cond.static yX1_sort, Cond.code yX1_sort cX1_sort 3 (some .int), Cond.methodLink RL 64 yX0_splice, Cond.instanceMethod yX0_splice, Cond.selects RX0 yX0_splice yX0_splice, Cond.code yX0_splice cX0_splice 5 (some .int), Cond.methodLink RX0 96 yX0_topicBetween, Cond.static yX0_topicBetween, Cond.code yX0_topicBetween cX0_topicBetween 4 (some .int), Cond.methodLink RX0 231 yJ9_floorMod_7cf53, Cond.static yJ9_floorMod_7cf53, Cond.initialized RJ9, Cond.code yJ9_floorMod_7cf53 cJ9_floorMod_7cf53 3 (some .int), Cond.methodLink RX0 99 yX0_makeRoomAt, Cond.instanceMethod yX0_makeRoomAt, Cond.selects RX0 yX0_makeRoomAt yX0_makeRoomAt]
def wsL_act_r9 : List Cond := [Cond.code yX0_makeRoomAt cX0_makeRoomAt 3 none, Cond.methodLink RL 67 yX1_splice, Cond.instanceMethod yX1_splice, Cond.selects RX1 yX1_splice yX1_splice, Cond.code yX1_splice cX1_splice 4 (some .int), Cond.methodLink RX1 33 yX1_words, Cond.methodLink RX1 37 yX1_between, Cond.static yX1_between, Cond.code yX1_between cX1_between 6 (some .int), Cond.methodLink RX1 40 yX1_insert, Cond.methodLink RL 68 yX0_say, Cond.instanceMethod yX0_say, Cond.selects RX0 yX0_say yX0_say, Cond.code yX0_say cX0_say 3 (some .int), Cond.methodLink RX0 33 yX0_requireTopic, Cond.static yX0_requireTopic, Cond.code yX0_requireTopic cX0_requireTopic 1 none]
def wsL_act : List Cond := .code yL_act cL_act 12 (some .boolean) :: ((wsL_act_r1 ++ (wsL_act_r2 ++ (wsL_act_r3 ++ (wsL_act_r4 ++ (wsL_act_r5 ++ (wsL_act_r6 ++ (wsL_act_r7 ++ (wsL_act_r8 ++ wsL_act_r9)))))))) ++ wsX10 ++ wsX00 ++ (vx_atS RX0 200 "java/lang/IndexOutOfBoundsException" ["java/lang/RuntimeException", "java/lang/Exception"]).filter goodWord ++ (vx_atS RX0 54 "java/lang/IllegalStateException" ["java/lang/RuntimeException", "java/lang/Exception"]).filter goodWord ++ (vx_atS RX0 110 "java/lang/IllegalArgumentException" ["java/lang/RuntimeException", "java/lang/Exception"]).filter goodWord)
def wsL_build_r1 : List Cond := [Cond.classLink RL 10 RX1, Cond.instantiable RX1 3, Cond.initialized RX1, Cond.instanceMethod yX1_init, Cond.code yX1_init cX1_init 1 none, Cond.methodLink RX1 1 objectInit, Cond.instanceMethod objectInit, Cond.code objectInit ⟨#[0xb1]⟩ 1 none, Cond.fieldLink RX1 7 "SplicedTalkLaw$Sim" "patience" "I", Cond.classLink RX1 13 "[I", Cond.fieldLink RX1 15 "SplicedTalkLaw$Sim" "rows" "[[I", Cond.methodLink RL 72 yL_cell, Cond.static yL_cell, Cond.initialized RL, Cond.code yL_cell cL_cell 2 (some .int), Cond.constant RL 8 (790386105), Cond.methodLink RL 19 yL_below, Cond.static yL_below, Cond.code yL_below cL_below 2 (some .int), Cond.constant RL 7 (2147483647), Cond.methodLink RL 76 yL_act, Cond.static yL_act, Cond.code yL_act cL_act 12 (some .boolean), Cond.fieldLink RL 9 "SplicedTalkLaw$Sim" "rows" "[[I"]
def wsL_build_r2 : List Cond := [Cond.arrayClass .int, Cond.fieldLink RL 35 "SplicedTalkLaw$Sim" "patience" "I", Cond.methodLink RL 39 Lib.Math.min.name, Cond.static Lib.Math.min.name, Cond.initialized "java/lang/Math", Cond.code Lib.Math.min.name Lib.Math.min.code 2 (some .int), Cond.fieldLink RL 51 "SplicedTalkLaw$Sim" "spent" "I", Cond.methodLink RL 15 yX1_words, Cond.instanceMethod yX1_words, Cond.selects RX1 yX1_words yX1_words, Cond.code yX1_words cX1_words 6 (some (.array (.array .int))), Cond.methodLink RL 25 yX1_insert, Cond.instanceMethod yX1_insert, Cond.selects RX1 yX1_insert yX1_insert, Cond.code yX1_insert cX1_insert 5 none, Cond.methodLink RL 29 yX0_cough, Cond.instanceMethod yX0_cough, Cond.selects RX0 yX0_cough yX0_cough, Cond.initialized RX0, Cond.code yX0_cough cX0_cough 2 (some .int), Cond.methodLink RX0 29 yX0_requireSpeaker, Cond.static yX0_requireSpeaker, Cond.code yX0_requireSpeaker cX0_requireSpeaker 1 none, Cond.classLink RX0 196 "java/lang/IndexOutOfBoundsException"]
def wsL_build_r3 : List Cond := [Cond.initialized "java/lang/IndexOutOfBoundsException", Cond.methodLink RX0 36 yX0_requireRoom, Cond.instanceMethod yX0_requireRoom, Cond.selects RX0 yX0_requireRoom yX0_requireRoom, Cond.code yX0_requireRoom cX0_requireRoom 1 none, Cond.classLink RX0 50 "java/lang/IllegalStateException", Cond.initialized "java/lang/IllegalStateException", Cond.fieldLink RX0 69 "SplicedTalk" "remarkCount" "I", Cond.methodLink RX0 39 yX0_append, Cond.instanceMethod yX0_append, Cond.selects RX0 yX0_append yX0_append, Cond.code yX0_append cX0_append 4 (some .int), Cond.methodLink RX0 102 yX0_put, Cond.instanceMethod yX0_put, Cond.selects RX0 yX0_put yX0_put, Cond.code yX0_put cX0_put 4 none, Cond.fieldLink RX0 9 "SplicedTalk" "speakers" "[I", Cond.fieldLink RX0 13 "SplicedTalk" "topics" "[I", Cond.fieldLink RX0 16 "SplicedTalk" "ties" "[I", Cond.methodLink RX0 82 yX0_write, Cond.static yX0_write, Cond.code yX0_write cX0_write 3 none, Cond.methodLink RX0 66 yX0_recount, Cond.instanceMethod yX0_recount]
def wsL_build_r4 : List Cond := [Cond.selects RX0 yX0_recount yX0_recount, Cond.code yX0_recount cX0_recount 2 none, Cond.fieldLink RX0 116 "SplicedTalk" "wordCount" "I", Cond.fieldLink RX0 19 "SplicedTalk" "wordPlaces" "[I", Cond.fieldLink RX0 86 "SplicedTalk" "threadCount" "I", Cond.fieldLink RX0 22 "SplicedTalk" "wordThreads" "[I", Cond.methodLink RX0 46 yX0_coughStandsAt, Cond.instanceMethod yX0_coughStandsAt, Cond.selects RX0 yX0_coughStandsAt yX0_coughStandsAt, Cond.code yX0_coughStandsAt cX0_coughStandsAt 2 (some .boolean), Cond.methodLink RX0 78 yX0_read, Cond.static yX0_read, Cond.code yX0_read cX0_read 2 (some .int), Cond.methodLink RX0 134 yX0_kindOfGap, Cond.instanceMethod yX0_kindOfGap, Cond.selects RX0 yX0_kindOfGap yX0_kindOfGap, Cond.code yX0_kindOfGap cX0_kindOfGap 2 (some .int), Cond.methodLink RX0 131 yX0_gapTied, Cond.instanceMethod yX0_gapTied, Cond.selects RX0 yX0_gapTied yX0_gapTied, Cond.code yX0_gapTied cX0_gapTied 2 (some .boolean), Cond.methodLink RX0 128 yX0_strainOfGap, Cond.instanceMethod yX0_strainOfGap, Cond.selects RX0 yX0_strainOfGap yX0_strainOfGap]
def wsL_build_r5 : List Cond := [Cond.code yX0_strainOfGap cX0_strainOfGap 2 (some .int), Cond.methodLink RX0 93 yX0_topicOfWord, Cond.instanceMethod yX0_topicOfWord, Cond.selects RX0 yX0_topicOfWord yX0_topicOfWord, Cond.code yX0_topicOfWord cX0_topicOfWord 2 (some .int), Cond.methodLink RX0 164 yX0_topicDistance, Cond.static yX0_topicDistance, Cond.code yX0_topicDistance cX0_topicDistance 3 (some .int), Cond.methodLink RX0 228 Lib.Math.abs.name, Cond.static Lib.Math.abs.name, Cond.code Lib.Math.abs.name Lib.Math.abs.code 1 (some .int), Cond.methodLink RX0 111 Lib.Math.min.name, Cond.methodLink RX0 125 yX0_coughsOfGap, Cond.instanceMethod yX0_coughsOfGap, Cond.selects RX0 yX0_coughsOfGap yX0_coughsOfGap, Cond.code yX0_coughsOfGap cX0_coughsOfGap 2 (some .int), Cond.methodLink RX0 221 yX0_ofOneSpeaker, Cond.instanceMethod yX0_ofOneSpeaker, Cond.selects RX0 yX0_ofOneSpeaker yX0_ofOneSpeaker, Cond.code yX0_ofOneSpeaker cX0_ofOneSpeaker 2 (some .boolean), Cond.methodLink RX0 89 yX0_speakerOfWord, Cond.instanceMethod yX0_speakerOfWord, Cond.selects RX0 yX0_speakerOfWord yX0_speakerOfWord, Cond.code yX0_speakerOfWord cX0_speakerOfWord 2 (some .int)]
def wsL_build_r6 : List Cond := [Cond.methodLink RX0 167 yX0_kindOf, Cond.static yX0_kindOf, Cond.code yX0_kindOf cX0_kindOf 3 (some .int), Cond.methodLink RX0 224 yX0_mostUnbrokenStrain, Cond.static yX0_mostUnbrokenStrain, Cond.code yX0_mostUnbrokenStrain cX0_mostUnbrokenStrain 1 (some .int), Cond.methodLink RL 44 yX0_rest, Cond.instanceMethod yX0_rest, Cond.selects RX0 yX0_rest yX0_rest, Cond.code yX0_rest cX0_rest 2 (some .int), Cond.classLink RX0 106 "java/lang/IllegalArgumentException", Cond.initialized "java/lang/IllegalArgumentException", Cond.fieldLink RX0 25 "SplicedTalk" "patienceLeft" "I", Cond.methodLink RL 47 yX1_remove, Cond.instanceMethod yX1_remove, Cond.selects RX1 yX1_remove yX1_remove, Cond.code yX1_remove cX1_remove 4 none, Cond.methodLink RL 54 yX0_removeCough, Cond.instanceMethod yX0_removeCough, Cond.selects RX0 yX0_removeCough yX0_removeCough, Cond.code yX0_removeCough cX0_removeCough 2 (some .int), Cond.methodLink RX0 43 yX0_requirePlace, Cond.instanceMethod yX0_requirePlace, Cond.selects RX0 yX0_requirePlace yX0_requirePlace]
def wsL_build_r7 : List Cond := [Cond.code yX0_requirePlace cX0_requirePlace 2 none, Cond.methodLink RX0 57 yX0_requirePatience, Cond.instanceMethod yX0_requirePatience, Cond.selects RX0 yX0_requirePatience yX0_requirePatience, Cond.code yX0_requirePatience cX0_requirePatience 2 none, Cond.methodLink RX0 60 yX0_pay, Cond.instanceMethod yX0_pay, Cond.selects RX0 yX0_pay yX0_pay, Cond.code yX0_pay cX0_pay 2 none, Cond.fieldLink RX0 119 "SplicedTalk" "patienceSpent" "I", Cond.methodLink RX0 63 yX0_moveUpBehind, Cond.instanceMethod yX0_moveUpBehind, Cond.selects RX0 yX0_moveUpBehind yX0_moveUpBehind, Cond.code yX0_moveUpBehind cX0_moveUpBehind 3 none, Cond.methodLink RX0 217 yX0_copyRemark, Cond.instanceMethod yX0_copyRemark, Cond.selects RX0 yX0_copyRemark yX0_copyRemark, Cond.code yX0_copyRemark cX0_copyRemark 3 none, Cond.methodLink RL 57 yX0_tie, Cond.instanceMethod yX0_tie, Cond.selects RX0 yX0_tie yX0_tie, Cond.code yX0_tie cX0_tie 2 (some .int), Cond.methodLink RX0 72 yX0_requireGap, Cond.instanceMethod yX0_requireGap]
def wsL_build_r8 : List Cond := [Cond.selects RX0 yX0_requireGap yX0_requireGap, Cond.code yX0_requireGap cX0_requireGap 2 none, Cond.methodLink RX0 157 yX0_gapCount, Cond.instanceMethod yX0_gapCount, Cond.selects RX0 yX0_gapCount yX0_gapCount, Cond.code yX0_gapCount cX0_gapCount 1 (some .int), Cond.methodLink RX0 75 yX0_requireUntied, Cond.instanceMethod yX0_requireUntied, Cond.selects RX0 yX0_requireUntied yX0_requireUntied, Cond.code yX0_requireUntied cX0_requireUntied 2 none, Cond.methodLink RL 60 yX1_broken, Cond.static yX1_broken, Cond.code yX1_broken cX1_broken 3 (some .int), Cond.methodLink RX1 31 yX1_sort_, Cond.static yX1_sort_, Cond.code yX1_sort_ cX1_sort_ 2 (some .int), Cond.methodLink RX1 23 yX1_strain, Cond.static yX1_strain, Cond.code yX1_strain cX1_strain 2 (some .int), Cond.methodLink RX1 19 yX1_apart, Cond.static yX1_apart, Cond.code yX1_apart cX1_apart 3 (some .int), Cond.methodLink RX1 27 yX1_sort, Cond.static yX1_sort]
def wsL_build_r9 : List Cond := [Cond.code yX1_sort cX1_sort 3 (some .int), Cond.methodLink RL 64 yX0_splice, Cond.instanceMethod yX0_splice, Cond.selects RX0 yX0_splice yX0_splice, Cond.code yX0_splice cX0_splice 5 (some .int), Cond.methodLink RX0 96 yX0_topicBetween, Cond.static yX0_topicBetween, Cond.code yX0_topicBetween cX0_topicBetween 4 (some .int), Cond.methodLink RX0 231 yJ9_floorMod_7cf53, Cond.static yJ9_floorMod_7cf53, Cond.initialized RJ9, Cond.code yJ9_floorMod_7cf53 cJ9_floorMod_7cf53 3 (some .int), Cond.methodLink RX0 99 yX0_makeRoomAt, Cond.instanceMethod yX0_makeRoomAt, Cond.selects RX0 yX0_makeRoomAt yX0_makeRoomAt, Cond.code yX0_makeRoomAt cX0_makeRoomAt 3 none, Cond.methodLink RL 67 yX1_splice, Cond.instanceMethod yX1_splice, Cond.selects RX1 yX1_splice yX1_splice, Cond.code yX1_splice cX1_splice 4 (some .int), Cond.methodLink RX1 33 yX1_words, Cond.methodLink RX1 37 yX1_between, Cond.static yX1_between, Cond.code yX1_between cX1_between 6 (some .int)]
def wsL_build_r10 : List Cond := [Cond.methodLink RX1 40 yX1_insert, Cond.methodLink RL 68 yX0_say, Cond.instanceMethod yX0_say, Cond.selects RX0 yX0_say yX0_say, Cond.code yX0_say cX0_say 3 (some .int), Cond.methodLink RX0 33 yX0_requireTopic, Cond.static yX0_requireTopic, Cond.code yX0_requireTopic cX0_requireTopic 1 none]
def wsL_build : List Cond := .code yL_build cL_build 5 (some (.object "SplicedTalkLaw$Sim")) :: ((wsL_build_r1 ++ (wsL_build_r2 ++ (wsL_build_r3 ++ (wsL_build_r4 ++ (wsL_build_r5 ++ (wsL_build_r6 ++ (wsL_build_r7 ++ (wsL_build_r8 ++ (wsL_build_r9 ++ wsL_build_r10))))))))) ++ wsX10 ++ wsX00 ++ (vx_atS RX0 200 "java/lang/IndexOutOfBoundsException" ["java/lang/RuntimeException", "java/lang/Exception"]).filter goodWord ++ (vx_atS RX0 54 "java/lang/IllegalStateException" ["java/lang/RuntimeException", "java/lang/Exception"]).filter goodWord ++ (vx_atS RX0 110 "java/lang/IllegalArgumentException" ["java/lang/RuntimeException", "java/lang/Exception"]).filter goodWord)
def wsL_law0_r1 : List Cond := [Cond.classLink RL 30 RX0, Cond.instantiable RX0 10, Cond.initialized RX0, Cond.methodLink RL 91 Lib.Math.max.name, Cond.static Lib.Math.max.name, Cond.initialized "java/lang/Math", Cond.code Lib.Math.max.name Lib.Math.max.code 2 (some .int), Cond.arrayClass .int, Cond.arrayClass .boolean, Cond.methodLink RL 39 Lib.Math.min.name, Cond.static Lib.Math.min.name, Cond.code Lib.Math.min.name Lib.Math.min.code 2 (some .int), Cond.methodLink RL 80 yX0_init, Cond.instanceMethod yX0_init, Cond.code yX0_init cX0_init 1 none, Cond.methodLink RX0 1 objectInit, Cond.instanceMethod objectInit, Cond.code objectInit ⟨#[0xb1]⟩ 1 none, Cond.fieldLink RX0 9 "SplicedTalk" "speakers" "[I", Cond.fieldLink RX0 13 "SplicedTalk" "topics" "[I", Cond.fieldLink RX0 16 "SplicedTalk" "ties" "[I", Cond.fieldLink RX0 19 "SplicedTalk" "wordPlaces" "[I", Cond.fieldLink RX0 22 "SplicedTalk" "wordThreads" "[I", Cond.fieldLink RX0 25 "SplicedTalk" "patienceLeft" "I"]
def wsL_law0_r2 : List Cond := [Cond.methodLink RL 81 yL_build, Cond.static yL_build, Cond.initialized RL, Cond.code yL_build cL_build 5 (some (.object "SplicedTalkLaw$Sim")), Cond.classLink RL 10 RX1, Cond.instantiable RX1 3, Cond.initialized RX1, Cond.instanceMethod yX1_init, Cond.code yX1_init cX1_init 1 none, Cond.methodLink RX1 1 objectInit, Cond.fieldLink RX1 7 "SplicedTalkLaw$Sim" "patience" "I", Cond.classLink RX1 13 "[I", Cond.fieldLink RX1 15 "SplicedTalkLaw$Sim" "rows" "[[I", Cond.methodLink RL 72 yL_cell, Cond.static yL_cell, Cond.code yL_cell cL_cell 2 (some .int), Cond.constant RL 8 (790386105), Cond.methodLink RL 19 yL_below, Cond.static yL_below, Cond.code yL_below cL_below 2 (some .int), Cond.constant RL 7 (2147483647), Cond.methodLink RL 76 yL_act, Cond.static yL_act, Cond.code yL_act cL_act 12 (some .boolean)]
def wsL_law0_r3 : List Cond := [Cond.fieldLink RL 9 "SplicedTalkLaw$Sim" "rows" "[[I", Cond.fieldLink RL 35 "SplicedTalkLaw$Sim" "patience" "I", Cond.fieldLink RL 51 "SplicedTalkLaw$Sim" "spent" "I", Cond.methodLink RL 15 yX1_words, Cond.instanceMethod yX1_words, Cond.selects RX1 yX1_words yX1_words, Cond.code yX1_words cX1_words 6 (some (.array (.array .int))), Cond.methodLink RL 25 yX1_insert, Cond.instanceMethod yX1_insert, Cond.selects RX1 yX1_insert yX1_insert, Cond.code yX1_insert cX1_insert 5 none, Cond.methodLink RL 29 yX0_cough, Cond.instanceMethod yX0_cough, Cond.selects RX0 yX0_cough yX0_cough, Cond.code yX0_cough cX0_cough 2 (some .int), Cond.methodLink RX0 29 yX0_requireSpeaker, Cond.static yX0_requireSpeaker, Cond.code yX0_requireSpeaker cX0_requireSpeaker 1 none, Cond.classLink RX0 196 "java/lang/IndexOutOfBoundsException", Cond.initialized "java/lang/IndexOutOfBoundsException", Cond.methodLink RX0 36 yX0_requireRoom, Cond.instanceMethod yX0_requireRoom, Cond.selects RX0 yX0_requireRoom yX0_requireRoom, Cond.code yX0_requireRoom cX0_requireRoom 1 none]
def wsL_law0_r4 : List Cond := [Cond.classLink RX0 50 "java/lang/IllegalStateException", Cond.initialized "java/lang/IllegalStateException", Cond.fieldLink RX0 69 "SplicedTalk" "remarkCount" "I", Cond.methodLink RX0 39 yX0_append, Cond.instanceMethod yX0_append, Cond.selects RX0 yX0_append yX0_append, Cond.code yX0_append cX0_append 4 (some .int), Cond.methodLink RX0 102 yX0_put, Cond.instanceMethod yX0_put, Cond.selects RX0 yX0_put yX0_put, Cond.code yX0_put cX0_put 4 none, Cond.methodLink RX0 82 yX0_write, Cond.static yX0_write, Cond.code yX0_write cX0_write 3 none, Cond.methodLink RX0 66 yX0_recount, Cond.instanceMethod yX0_recount, Cond.selects RX0 yX0_recount yX0_recount, Cond.code yX0_recount cX0_recount 2 none, Cond.fieldLink RX0 116 "SplicedTalk" "wordCount" "I", Cond.fieldLink RX0 86 "SplicedTalk" "threadCount" "I", Cond.methodLink RX0 46 yX0_coughStandsAt, Cond.instanceMethod yX0_coughStandsAt, Cond.selects RX0 yX0_coughStandsAt yX0_coughStandsAt, Cond.code yX0_coughStandsAt cX0_coughStandsAt 2 (some .boolean)]
def wsL_law0_r5 : List Cond := [Cond.methodLink RX0 78 yX0_read, Cond.static yX0_read, Cond.code yX0_read cX0_read 2 (some .int), Cond.methodLink RX0 134 yX0_kindOfGap, Cond.instanceMethod yX0_kindOfGap, Cond.selects RX0 yX0_kindOfGap yX0_kindOfGap, Cond.code yX0_kindOfGap cX0_kindOfGap 2 (some .int), Cond.methodLink RX0 131 yX0_gapTied, Cond.instanceMethod yX0_gapTied, Cond.selects RX0 yX0_gapTied yX0_gapTied, Cond.code yX0_gapTied cX0_gapTied 2 (some .boolean), Cond.methodLink RX0 128 yX0_strainOfGap, Cond.instanceMethod yX0_strainOfGap, Cond.selects RX0 yX0_strainOfGap yX0_strainOfGap, Cond.code yX0_strainOfGap cX0_strainOfGap 2 (some .int), Cond.methodLink RX0 93 yX0_topicOfWord, Cond.instanceMethod yX0_topicOfWord, Cond.selects RX0 yX0_topicOfWord yX0_topicOfWord, Cond.code yX0_topicOfWord cX0_topicOfWord 2 (some .int), Cond.methodLink RX0 164 yX0_topicDistance, Cond.static yX0_topicDistance, Cond.code yX0_topicDistance cX0_topicDistance 3 (some .int), Cond.methodLink RX0 228 Lib.Math.abs.name, Cond.static Lib.Math.abs.name]
def wsL_law0_r6 : List Cond := [Cond.code Lib.Math.abs.name Lib.Math.abs.code 1 (some .int), Cond.methodLink RX0 111 Lib.Math.min.name, Cond.methodLink RX0 125 yX0_coughsOfGap, Cond.instanceMethod yX0_coughsOfGap, Cond.selects RX0 yX0_coughsOfGap yX0_coughsOfGap, Cond.code yX0_coughsOfGap cX0_coughsOfGap 2 (some .int), Cond.methodLink RX0 221 yX0_ofOneSpeaker, Cond.instanceMethod yX0_ofOneSpeaker, Cond.selects RX0 yX0_ofOneSpeaker yX0_ofOneSpeaker, Cond.code yX0_ofOneSpeaker cX0_ofOneSpeaker 2 (some .boolean), Cond.methodLink RX0 89 yX0_speakerOfWord, Cond.instanceMethod yX0_speakerOfWord, Cond.selects RX0 yX0_speakerOfWord yX0_speakerOfWord, Cond.code yX0_speakerOfWord cX0_speakerOfWord 2 (some .int), Cond.methodLink RX0 167 yX0_kindOf, Cond.static yX0_kindOf, Cond.code yX0_kindOf cX0_kindOf 3 (some .int), Cond.methodLink RX0 224 yX0_mostUnbrokenStrain, Cond.static yX0_mostUnbrokenStrain, Cond.code yX0_mostUnbrokenStrain cX0_mostUnbrokenStrain 1 (some .int), Cond.methodLink RL 44 yX0_rest, Cond.instanceMethod yX0_rest, Cond.selects RX0 yX0_rest yX0_rest, Cond.code yX0_rest cX0_rest 2 (some .int)]
def wsL_law0_r7 : List Cond := [Cond.classLink RX0 106 "java/lang/IllegalArgumentException", Cond.initialized "java/lang/IllegalArgumentException", Cond.methodLink RL 47 yX1_remove, Cond.instanceMethod yX1_remove, Cond.selects RX1 yX1_remove yX1_remove, Cond.code yX1_remove cX1_remove 4 none, Cond.methodLink RL 54 yX0_removeCough, Cond.instanceMethod yX0_removeCough, Cond.selects RX0 yX0_removeCough yX0_removeCough, Cond.code yX0_removeCough cX0_removeCough 2 (some .int), Cond.methodLink RX0 43 yX0_requirePlace, Cond.instanceMethod yX0_requirePlace, Cond.selects RX0 yX0_requirePlace yX0_requirePlace, Cond.code yX0_requirePlace cX0_requirePlace 2 none, Cond.methodLink RX0 57 yX0_requirePatience, Cond.instanceMethod yX0_requirePatience, Cond.selects RX0 yX0_requirePatience yX0_requirePatience, Cond.code yX0_requirePatience cX0_requirePatience 2 none, Cond.methodLink RX0 60 yX0_pay, Cond.instanceMethod yX0_pay, Cond.selects RX0 yX0_pay yX0_pay, Cond.code yX0_pay cX0_pay 2 none, Cond.fieldLink RX0 119 "SplicedTalk" "patienceSpent" "I", Cond.methodLink RX0 63 yX0_moveUpBehind]
def wsL_law0_r8 : List Cond := [Cond.instanceMethod yX0_moveUpBehind, Cond.selects RX0 yX0_moveUpBehind yX0_moveUpBehind, Cond.code yX0_moveUpBehind cX0_moveUpBehind 3 none, Cond.methodLink RX0 217 yX0_copyRemark, Cond.instanceMethod yX0_copyRemark, Cond.selects RX0 yX0_copyRemark yX0_copyRemark, Cond.code yX0_copyRemark cX0_copyRemark 3 none, Cond.methodLink RL 57 yX0_tie, Cond.instanceMethod yX0_tie, Cond.selects RX0 yX0_tie yX0_tie, Cond.code yX0_tie cX0_tie 2 (some .int), Cond.methodLink RX0 72 yX0_requireGap, Cond.instanceMethod yX0_requireGap, Cond.selects RX0 yX0_requireGap yX0_requireGap, Cond.code yX0_requireGap cX0_requireGap 2 none, Cond.methodLink RX0 157 yX0_gapCount, Cond.instanceMethod yX0_gapCount, Cond.selects RX0 yX0_gapCount yX0_gapCount, Cond.code yX0_gapCount cX0_gapCount 1 (some .int), Cond.methodLink RX0 75 yX0_requireUntied, Cond.instanceMethod yX0_requireUntied, Cond.selects RX0 yX0_requireUntied yX0_requireUntied, Cond.code yX0_requireUntied cX0_requireUntied 2 none, Cond.methodLink RL 60 yX1_broken]
def wsL_law0_r9 : List Cond := [Cond.static yX1_broken, Cond.code yX1_broken cX1_broken 3 (some .int), Cond.methodLink RX1 31 yX1_sort_, Cond.static yX1_sort_, Cond.code yX1_sort_ cX1_sort_ 2 (some .int), Cond.methodLink RX1 23 yX1_strain, Cond.static yX1_strain, Cond.code yX1_strain cX1_strain 2 (some .int), Cond.methodLink RX1 19 yX1_apart, Cond.static yX1_apart, Cond.code yX1_apart cX1_apart 3 (some .int), Cond.methodLink RX1 27 yX1_sort, Cond.static yX1_sort, Cond.code yX1_sort cX1_sort 3 (some .int), Cond.methodLink RL 64 yX0_splice, Cond.instanceMethod yX0_splice, Cond.selects RX0 yX0_splice yX0_splice, Cond.code yX0_splice cX0_splice 5 (some .int), Cond.methodLink RX0 96 yX0_topicBetween, Cond.static yX0_topicBetween, Cond.code yX0_topicBetween cX0_topicBetween 4 (some .int), Cond.methodLink RX0 231 yJ9_floorMod_7cf53, Cond.static yJ9_floorMod_7cf53, Cond.initialized RJ9]
def wsL_law0_r10 : List Cond := [Cond.code yJ9_floorMod_7cf53 cJ9_floorMod_7cf53 3 (some .int), Cond.methodLink RX0 99 yX0_makeRoomAt, Cond.instanceMethod yX0_makeRoomAt, Cond.selects RX0 yX0_makeRoomAt yX0_makeRoomAt, Cond.code yX0_makeRoomAt cX0_makeRoomAt 3 none, Cond.methodLink RL 67 yX1_splice, Cond.instanceMethod yX1_splice, Cond.selects RX1 yX1_splice yX1_splice, Cond.code yX1_splice cX1_splice 4 (some .int), Cond.methodLink RX1 33 yX1_words, Cond.methodLink RX1 37 yX1_between, Cond.static yX1_between, Cond.code yX1_between cX1_between 6 (some .int), Cond.methodLink RX1 40 yX1_insert, Cond.methodLink RL 68 yX0_say, Cond.instanceMethod yX0_say, Cond.selects RX0 yX0_say yX0_say, Cond.code yX0_say cX0_say 3 (some .int), Cond.methodLink RX0 33 yX0_requireTopic, Cond.static yX0_requireTopic, Cond.code yX0_requireTopic cX0_requireTopic 1 none, Cond.methodLink RL 85 yX0_words, Cond.instanceMethod yX0_words, Cond.selects RX0 yX0_words yX0_words]
def wsL_law0_r11 : List Cond := [Cond.code yX0_words cX0_words 1 (some .int), Cond.methodLink RL 88 yX0_remarks, Cond.instanceMethod yX0_remarks, Cond.selects RX0 yX0_remarks yX0_remarks, Cond.code yX0_remarks cX0_remarks 1 (some .int), Cond.methodLink RL 94 yX0_isCough, Cond.instanceMethod yX0_isCough, Cond.selects RX0 yX0_isCough yX0_isCough, Cond.code yX0_isCough cX0_isCough 2 (some .boolean), Cond.methodLink RL 98 yX0_speakerAt, Cond.instanceMethod yX0_speakerAt, Cond.selects RX0 yX0_speakerAt yX0_speakerAt, Cond.code yX0_speakerAt cX0_speakerAt 2 (some .int), Cond.methodLink RL 101 yX0_placeOf, Cond.instanceMethod yX0_placeOf, Cond.selects RX0 yX0_placeOf yX0_placeOf, Cond.code yX0_placeOf cX0_placeOf 2 (some .int), Cond.methodLink RX0 122 yX0_requireWord, Cond.instanceMethod yX0_requireWord, Cond.selects RX0 yX0_requireWord yX0_requireWord, Cond.code yX0_requireWord cX0_requireWord 2 none, Cond.methodLink RL 104 yX0_topicOf, Cond.instanceMethod yX0_topicOf, Cond.selects RX0 yX0_topicOf yX0_topicOf]
def wsL_law0_r12 : List Cond := [Cond.code yX0_topicOf cX0_topicOf 2 (some .int), Cond.methodLink RL 107 yX0_threadOf, Cond.instanceMethod yX0_threadOf, Cond.selects RX0 yX0_threadOf yX0_threadOf, Cond.code yX0_threadOf cX0_threadOf 2 (some .int), Cond.methodLink RX0 140 yX0_threadOfWord, Cond.instanceMethod yX0_threadOfWord, Cond.selects RX0 yX0_threadOfWord yX0_threadOfWord, Cond.code yX0_threadOfWord cX0_threadOfWord 2 (some .int), Cond.methodLink RL 110 yX0_strainOf, Cond.instanceMethod yX0_strainOf, Cond.selects RX0 yX0_strainOf yX0_strainOf, Cond.code yX0_strainOf cX0_strainOf 2 (some .int), Cond.methodLink RL 113 yX0_isBroken, Cond.instanceMethod yX0_isBroken, Cond.selects RX0 yX0_isBroken yX0_isBroken, Cond.code yX0_isBroken cX0_isBroken 2 (some .boolean), Cond.methodLink RL 116 yX0_isSmooth, Cond.instanceMethod yX0_isSmooth, Cond.selects RX0 yX0_isSmooth yX0_isSmooth, Cond.code yX0_isSmooth cX0_isSmooth 2 (some .boolean), Cond.methodLink RL 119 yX0_isPolite, Cond.instanceMethod yX0_isPolite, Cond.selects RX0 yX0_isPolite yX0_isPolite]
def wsL_law0_r13 : List Cond := [Cond.code yX0_isPolite cX0_isPolite 2 (some .boolean), Cond.methodLink RL 122 yX0_coughsIn, Cond.instanceMethod yX0_coughsIn, Cond.selects RX0 yX0_coughsIn yX0_coughsIn, Cond.code yX0_coughsIn cX0_coughsIn 2 (some .int), Cond.methodLink RL 125 yX0_isTied, Cond.instanceMethod yX0_isTied, Cond.selects RX0 yX0_isTied yX0_isTied, Cond.code yX0_isTied cX0_isTied 2 (some .boolean), Cond.methodLink RL 128 yX0_costOfMending, Cond.instanceMethod yX0_costOfMending, Cond.selects RX0 yX0_costOfMending yX0_costOfMending, Cond.code yX0_costOfMending cX0_costOfMending 2 (some .int), Cond.methodLink RX0 154 yX0_mendingCost, Cond.instanceMethod yX0_mendingCost, Cond.selects RX0 yX0_mendingCost yX0_mendingCost, Cond.code yX0_mendingCost cX0_mendingCost 4 (some .int), Cond.methodLink RL 131 yX0_threads, Cond.instanceMethod yX0_threads, Cond.selects RX0 yX0_threads yX0_threads, Cond.code yX0_threads cX0_threads 1 (some .int), Cond.methodLink RL 134 yX0_lengthOf, Cond.instanceMethod yX0_lengthOf, Cond.selects RX0 yX0_lengthOf yX0_lengthOf]
def wsL_law0_r14 : List Cond := [Cond.code yX0_lengthOf cX0_lengthOf 2 (some .int), Cond.methodLink RX0 143 yX0_requireThread, Cond.instanceMethod yX0_requireThread, Cond.selects RX0 yX0_requireThread yX0_requireThread, Cond.code yX0_requireThread cX0_requireThread 2 none, Cond.methodLink RX0 146 yX0_wordsInThread, Cond.instanceMethod yX0_wordsInThread, Cond.selects RX0 yX0_wordsInThread yX0_wordsInThread, Cond.code yX0_wordsInThread cX0_wordsInThread 4 (some .int), Cond.methodLink RL 137 yX0_topicsIn, Cond.instanceMethod yX0_topicsIn, Cond.selects RX0 yX0_topicsIn yX0_topicsIn, Cond.code yX0_topicsIn cX0_topicsIn 4 (some .int), Cond.methodLink RX0 149 yJ6_bitCount_0f7a4, Cond.static yJ6_bitCount_0f7a4, Cond.initialized RJ6, Cond.code yJ6_bitCount_0f7a4 cJ6_bitCount_0f7a4 1 (some .int), Cond.constant RJ6 265 (1431655765), Cond.constant RJ6 266 (858993459), Cond.constant RJ6 267 (252645135), Cond.methodLink RL 140 yX0_wordsOf, Cond.instanceMethod yX0_wordsOf, Cond.selects RX0 yX0_wordsOf yX0_wordsOf, Cond.code yX0_wordsOf cX0_wordsOf 4 (some .int)]
def wsL_law0_r15 : List Cond := [Cond.methodLink RL 143 yX0_threadsOf, Cond.instanceMethod yX0_threadsOf, Cond.selects RX0 yX0_threadsOf yX0_threadsOf, Cond.code yX0_threadsOf cX0_threadsOf 6 (some .int), Cond.methodLink RL 146 yX0_coughs, Cond.instanceMethod yX0_coughs, Cond.selects RX0 yX0_coughs yX0_coughs, Cond.code yX0_coughs cX0_coughs 1 (some .int), Cond.methodLink RL 149 yX0_brokenGaps, Cond.instanceMethod yX0_brokenGaps, Cond.selects RX0 yX0_brokenGaps yX0_brokenGaps, Cond.code yX0_brokenGaps cX0_brokenGaps 1 (some .int), Cond.methodLink RX0 137 yX0_gapsOfKind, Cond.instanceMethod yX0_gapsOfKind, Cond.selects RX0 yX0_gapsOfKind yX0_gapsOfKind, Cond.code yX0_gapsOfKind cX0_gapsOfKind 4 (some .int), Cond.methodLink RL 152 yX0_politeGaps, Cond.instanceMethod yX0_politeGaps, Cond.selects RX0 yX0_politeGaps yX0_politeGaps, Cond.code yX0_politeGaps cX0_politeGaps 1 (some .int), Cond.methodLink RL 155 yX0_costOfAll, Cond.instanceMethod yX0_costOfAll, Cond.selects RX0 yX0_costOfAll yX0_costOfAll, Cond.code yX0_costOfAll cX0_costOfAll 3 (some .int)]
def wsL_law0_r16 : List Cond := [Cond.methodLink RL 158 yX0_longestThread, Cond.instanceMethod yX0_longestThread, Cond.selects RX0 yX0_longestThread yX0_longestThread, Cond.code yX0_longestThread cX0_longestThread 5 (some .int), Cond.methodLink RL 161 yX0_meanStrain, Cond.instanceMethod yX0_meanStrain, Cond.selects RX0 yX0_meanStrain yX0_meanStrain, Cond.code yX0_meanStrain cX0_meanStrain 4 (some .double), Cond.methodLink RL 165 yX0_patience, Cond.instanceMethod yX0_patience, Cond.selects RX0 yX0_patience yX0_patience, Cond.code yX0_patience cX0_patience 1 (some .int), Cond.methodLink RL 167 yX1_isSame, Cond.instanceMethod yX1_isSame, Cond.selects RX1 yX1_isSame yX1_isSame, Cond.code yX1_isSame cX1_isSame 20 (some .boolean), Cond.fieldLink RX1 45 "SplicedTalkLaw$Sim" "spent" "I", Cond.classLink RX1 82 "[[I", Cond.methodLink RX1 52 yX0_remarks, Cond.methodLink RX1 58 yX0_words, Cond.methodLink RX1 60 yX0_coughs, Cond.methodLink RX1 63 yX0_patience, Cond.methodLink RX1 65 yX0_spent, Cond.instanceMethod yX0_spent]
def wsL_law0_r17 : List Cond := [Cond.selects RX0 yX0_spent yX0_spent, Cond.code yX0_spent cX0_spent 1 (some .int), Cond.methodLink RX1 67 yX0_brokenGaps, Cond.methodLink RX1 70 yX1_broken, Cond.methodLink RX1 74 yX0_isCough, Cond.methodLink RX1 78 yX0_speakerAt, Cond.methodLink RX1 83 yX0_placeOf, Cond.methodLink RX1 86 yX0_topicOf, Cond.methodLink RX1 89 yX0_threadOf, Cond.methodLink RX1 92 yX0_coughsIn, Cond.methodLink RX1 95 yX0_strainOf, Cond.methodLink RX1 98 yX0_isTied, Cond.methodLink RX1 101 yX0_isSmooth, Cond.methodLink RX1 104 yX0_isPolite, Cond.methodLink RX1 107 yX0_isBroken, Cond.methodLink RX1 110 yX0_costOfMending, Cond.methodLink RX1 113 yX1_mends, Cond.instanceMethod yX1_mends, Cond.selects RX1 yX1_mends yX1_mends, Cond.code yX1_mends cX1_mends 4 (some .int), Cond.methodLink RX1 116 yX0_lengthOf, Cond.methodLink RX1 119 yX0_topicsIn, Cond.methodLink RX1 122 yX0_wordsOf, Cond.methodLink RX1 125 yX0_threadsOf]
def wsL_law0_r18 : List Cond := [Cond.methodLink RX1 128 yX0_politeGaps, Cond.methodLink RX1 131 yX0_threads, Cond.methodLink RX1 134 yX0_longestThread, Cond.methodLink RX1 137 yX0_costOfAll, Cond.methodLink RX1 140 yX0_meanStrain]
def wsL_law0 : List Cond := (wsL_law0_r1 ++ (wsL_law0_r2 ++ (wsL_law0_r3 ++ (wsL_law0_r4 ++ (wsL_law0_r5 ++ (wsL_law0_r6 ++ (wsL_law0_r7 ++ (wsL_law0_r8 ++ (wsL_law0_r9 ++ (wsL_law0_r10 ++ (wsL_law0_r11 ++ (wsL_law0_r12 ++ (wsL_law0_r13 ++ (wsL_law0_r14 ++ (wsL_law0_r15 ++ (wsL_law0_r16 ++ (wsL_law0_r17 ++ wsL_law0_r18))))))))))))))))) ++ wsX00 ++ wsX10 ++ ([] : List Cond)
def wsL_law : List Cond := wsL_law0 ++ (vx_atS RX0 200 "java/lang/IndexOutOfBoundsException" ["java/lang/RuntimeException", "java/lang/Exception"]).filter goodWord ++ (vx_atS RX0 54 "java/lang/IllegalStateException" ["java/lang/RuntimeException", "java/lang/Exception"]).filter goodWord ++ (vx_atS RX0 110 "java/lang/IllegalArgumentException" ["java/lang/RuntimeException", "java/lang/Exception"]).filter goodWord
abbrev vwCl : List vw_C := [(RX0, TX0, 10), (RX1, TX1, 3)]
end
section
set_option maxRecDepth 20000 in
theorem in_wsL_law0_r1 : ∀ w ∈ wsL_law0_r1, w ∈ lw_tbl := by decide +kernel
set_option maxRecDepth 20000 in
theorem in_wsL_law0_r2 : ∀ w ∈ wsL_law0_r2, w ∈ lw_tbl := by decide +kernel
set_option maxRecDepth 20000 in
theorem in_wsL_law0_r3 : ∀ w ∈ wsL_law0_r3, w ∈ lw_tbl := by decide +kernel
set_option maxRecDepth 20000 in
theorem in_wsL_law0_r4 : ∀ w ∈ wsL_law0_r4, w ∈ lw_tbl := by decide +kernel
set_option maxRecDepth 20000 in
theorem in_wsL_law0_r5 : ∀ w ∈ wsL_law0_r5, w ∈ lw_tbl := by decide +kernel
set_option maxRecDepth 20000 in
theorem in_wsL_law0_r6 : ∀ w ∈ wsL_law0_r6, w ∈ lw_tbl := by decide +kernel
end
section
set_option maxRecDepth 20000 in
theorem in_wsL_law0_r7 : ∀ w ∈ wsL_law0_r7, w ∈ lw_tbl := by decide +kernel
set_option maxRecDepth 20000 in
theorem in_wsL_law0_r8 : ∀ w ∈ wsL_law0_r8, w ∈ lw_tbl := by decide +kernel
set_option maxRecDepth 20000 in
theorem in_wsL_law0_r9 : ∀ w ∈ wsL_law0_r9, w ∈ lw_tbl := by decide +kernel
set_option maxRecDepth 20000 in
theorem in_wsL_law0_r10 : ∀ w ∈ wsL_law0_r10, w ∈ lw_tbl := by decide +kernel
set_option maxRecDepth 20000 in
theorem in_wsL_law0_r11 : ∀ w ∈ wsL_law0_r11, w ∈ lw_tbl := by decide +kernel
set_option maxRecDepth 20000 in
theorem in_wsL_law0_r12 : ∀ w ∈ wsL_law0_r12, w ∈ lw_tbl := by decide +kernel
end
section
set_option maxRecDepth 20000 in
theorem in_wsL_law0_r13 : ∀ w ∈ wsL_law0_r13, w ∈ lw_tbl := by decide +kernel
set_option maxRecDepth 20000 in
theorem in_wsL_law0_r14 : ∀ w ∈ wsL_law0_r14, w ∈ lw_tbl := by decide +kernel
set_option maxRecDepth 20000 in
theorem in_wsL_law0_r15 : ∀ w ∈ wsL_law0_r15, w ∈ lw_tbl := by decide +kernel
theorem in_isSame : Cond.code yX1_isSame cX1_isSame 20 (some .boolean) ∈ lw_tbl := List.mem_of_getElem? (i := 421) (by rfl)
set_option maxRecDepth 20000 in
theorem in_r16a : ∀ w ∈ [Cond.methodLink RL 158 yX0_longestThread, Cond.instanceMethod yX0_longestThread, Cond.selects RX0 yX0_longestThread yX0_longestThread, Cond.code yX0_longestThread cX0_longestThread 5 (some .int), Cond.methodLink RL 161 yX0_meanStrain, Cond.instanceMethod yX0_meanStrain, Cond.selects RX0 yX0_meanStrain yX0_meanStrain, Cond.code yX0_meanStrain cX0_meanStrain 4 (some .double), Cond.methodLink RL 165 yX0_patience, Cond.instanceMethod yX0_patience, Cond.selects RX0 yX0_patience yX0_patience, Cond.code yX0_patience cX0_patience 1 (some .int), Cond.methodLink RL 167 yX1_isSame, Cond.instanceMethod yX1_isSame, Cond.selects RX1 yX1_isSame yX1_isSame], w ∈ lw_tbl := by decide +kernel
set_option maxRecDepth 20000 in
theorem in_r16b : ∀ w ∈ [Cond.fieldLink RX1 45 "SplicedTalkLaw$Sim" "spent" "I", Cond.classLink RX1 82 "[[I", Cond.methodLink RX1 52 yX0_remarks, Cond.methodLink RX1 58 yX0_words, Cond.methodLink RX1 60 yX0_coughs, Cond.methodLink RX1 63 yX0_patience, Cond.methodLink RX1 65 yX0_spent, Cond.instanceMethod yX0_spent], w ∈ lw_tbl := by decide +kernel
theorem in_wsL_law0_r16 : ∀ w ∈ wsL_law0_r16, w ∈ lw_tbl := fun w h => (List.mem_append.mp (show w ∈ [Cond.methodLink RL 158 yX0_longestThread, Cond.instanceMethod yX0_longestThread, Cond.selects RX0 yX0_longestThread yX0_longestThread, Cond.code yX0_longestThread cX0_longestThread 5 (some .int), Cond.methodLink RL 161 yX0_meanStrain, Cond.instanceMethod yX0_meanStrain, Cond.selects RX0 yX0_meanStrain yX0_meanStrain, Cond.code yX0_meanStrain cX0_meanStrain 4 (some .double), Cond.methodLink RL 165 yX0_patience, Cond.instanceMethod yX0_patience, Cond.selects RX0 yX0_patience yX0_patience, Cond.code yX0_patience cX0_patience 1 (some .int), Cond.methodLink RL 167 yX1_isSame, Cond.instanceMethod yX1_isSame, Cond.selects RX1 yX1_isSame yX1_isSame] ++ (Cond.code yX1_isSame cX1_isSame 20 (some .boolean) :: [Cond.fieldLink RX1 45 "SplicedTalkLaw$Sim" "spent" "I", Cond.classLink RX1 82 "[[I", Cond.methodLink RX1 52 yX0_remarks, Cond.methodLink RX1 58 yX0_words, Cond.methodLink RX1 60 yX0_coughs, Cond.methodLink RX1 63 yX0_patience, Cond.methodLink RX1 65 yX0_spent, Cond.instanceMethod yX0_spent]) from h)).elim (in_r16a w) (fun h => (List.mem_cons.mp h).elim (fun e => e ▸ in_isSame) (in_r16b w))
set_option maxRecDepth 20000 in
theorem in_wsL_law0_r17 : ∀ w ∈ wsL_law0_r17, w ∈ lw_tbl := by decide +kernel
set_option maxRecDepth 20000 in
theorem in_wsL_law0_r18 : ∀ w ∈ wsL_law0_r18, w ∈ lw_tbl := by decide +kernel
end
section
theorem in_X00 : ∀ w ∈ wsX00, w ∈ lw_tbl := by decide +kernel
theorem in_X10 : ∀ w ∈ wsX10, w ∈ lw_tbl := by decide +kernel
theorem wsL_law_in0 : ∀ w ∈ wsL_law0, w ∈ lw_tbl := fun w h => (List.mem_append.mp h).elim (fun h => (List.mem_append.mp h).elim (fun h => (List.mem_append.mp h).elim (fun h => (List.mem_append.mp h).elim (fun h => in_wsL_law0_r1 w h) (fun h => (List.mem_append.mp h).elim (fun h => in_wsL_law0_r2 w h) (fun h => (List.mem_append.mp h).elim (fun h => in_wsL_law0_r3 w h) (fun h => (List.mem_append.mp h).elim (fun h => in_wsL_law0_r4 w h) (fun h => (List.mem_append.mp h).elim (fun h => in_wsL_law0_r5 w h) (fun h => (List.mem_append.mp h).elim (fun h => in_wsL_law0_r6 w h) (fun h => (List.mem_append.mp h).elim (fun h => in_wsL_law0_r7 w h) (fun h => (List.mem_append.mp h).elim (fun h => in_wsL_law0_r8 w h) (fun h => (List.mem_append.mp h).elim (fun h => in_wsL_law0_r9 w h) (fun h => (List.mem_append.mp h).elim (fun h => in_wsL_law0_r10 w h) (fun h => (List.mem_append.mp h).elim (fun h => in_wsL_law0_r11 w h) (fun h => (List.mem_append.mp h).elim (fun h => in_wsL_law0_r12 w h) (fun h => (List.mem_append.mp h).elim (fun h => in_wsL_law0_r13 w h) (fun h => (List.mem_append.mp h).elim (fun h => in_wsL_law0_r14 w h) (fun h => (List.mem_append.mp h).elim (fun h => in_wsL_law0_r15 w h) (fun h => (List.mem_append.mp h).elim (fun h => in_wsL_law0_r16 w h) (fun h => (List.mem_append.mp h).elim (fun h => in_wsL_law0_r17 w h) (fun h => in_wsL_law0_r18 w h)))))))))))))))))) (fun h => in_X00 w h)) (fun h => in_X10 w h)) (fun h => absurd h List.not_mem_nil)
theorem wsL_law_x0 : ∀ w ∈ (vx_atS RX0 200 "java/lang/IndexOutOfBoundsException" ["java/lang/RuntimeException", "java/lang/Exception"]).filter goodWord, w ∈ lw_tbl := by decide +kernel
theorem wsL_law_x1 : ∀ w ∈ (vx_atS RX0 54 "java/lang/IllegalStateException" ["java/lang/RuntimeException", "java/lang/Exception"]).filter goodWord, w ∈ lw_tbl := by decide +kernel
theorem wsL_law_x2 : ∀ w ∈ (vx_atS RX0 110 "java/lang/IllegalArgumentException" ["java/lang/RuntimeException", "java/lang/Exception"]).filter goodWord, w ∈ lw_tbl := by decide +kernel
theorem wsL_law_in : ∀ w ∈ wsL_law, w ∈ lw_tbl := fun w h => (List.mem_append.mp h).elim (fun h => (List.mem_append.mp h).elim (fun h => (List.mem_append.mp h).elim (fun h => wsL_law_in0 w h) (fun h => wsL_law_x0 w h)) (fun h => wsL_law_x1 w h)) (fun h => wsL_law_x2 w h)
theorem inlX0 : ∀ w ∈ wsX00, w ∈ wsL_law := fun _ h => List.mem_append_left _ (List.mem_append_left _ (List.mem_append_left _ (List.mem_append_left _ (List.mem_append_left _ (List.mem_append_right _ h)))))
theorem inX0 : ∀ w ∈ wsX00, w ∈ lw_tbl := fun w h => wsL_law_in w (inlX0 w h)
theorem inlX1 : ∀ w ∈ wsX10, w ∈ wsL_law := fun _ h => List.mem_append_left _ (List.mem_append_left _ (List.mem_append_left _ (List.mem_append_left _ (List.mem_append_right _ h))))
theorem inX1 : ∀ w ∈ wsX10, w ∈ lw_tbl := fun w h => wsL_law_in w (inlX1 w h)
theorem inX2 : ∀ w ∈ wsX20, w ∈ lw_tbl := by decide +kernel
theorem inJ6 : ∀ w ∈ wsJ60, w ∈ lw_tbl := by decide +kernel
theorem inJ9 : ∀ w ∈ wsJ90, w ∈ lw_tbl := by decide +kernel
theorem inJ0 : ∀ w ∈ wsJ00, w ∈ lw_tbl := by decide +kernel
end
