/-! own rows: cells told one by one, arrays of arrays, contracts over any picture of the heap -/
theorem q_same.rf {H : Heap} : q_same H H := ⟨Nat.le_refl _, fun _ _ => rfl⟩
theorem q_same.tr {H H1 H2 : Heap} (h : q_same H H1) (h2 : q_same H1 H2) : q_same H H2 := ⟨Nat.le_trans h.1 h2.1, fun q hq => (h2.2 q (Nat.lt_of_lt_of_le hq h.1)).trans (h.2 q hq)⟩
theorem q_same.st {H H1 H2 : Heap} {a : Nat} (h : q_same H H1) (ha : H.size ≤ a) (z : H2.size = H1.size) (o : ∀ q : Nat, q ≠ a → H2[q]? = H1[q]?) : q_same H H2 := ⟨by rw [z]; exact h.1, fun q hq => (o q (by omega)).trans (h.2 q hq)⟩
theorem q_same.S {A : Nat → Prop} {H0 H : Heap} {locs : List Loc} (hS : va_S A H0 H locs) (hA : ∀ q, q < H0.size → ¬ A q) : q_same H0 H := ⟨hS.1, fun q hq => hS.2.1 q hq (hA q hq)⟩
theorem z_one {D : va_G} {q : Nat × va_E} {H : Heap} (h : va_at D vwCl q H) : va_P D vwCl [q] H := fun k x hk => by
  cases k with
  | zero => cases hk; exact h
  | succ k => cases hk
/-- the class of the rows of int arrays can be found -/
def n_O (U : State) : Prop := (Cond.arrayOver (.array .int)).before #[] U = true
theorem n_O.of {A : Array Value} {U : State} (h : (Cond.arrayOver (.array .int)).before A U = true) : n_O U := h
theorem n_O.use {A : Array Value} {U : State} (h : n_O U) : (Cond.arrayOver (.array .int)).before A U = true := h
theorem n_O.moved {u U : State} (hvm : u.vm.Alike U.vm) (h : n_O u) : n_O U := by
  obtain ⟨comp, c, k, h1, h2, h3, h4, h5⟩ := arrayOverA_spec h
  obtain ⟨k', hk', he⟩ := hvm.2.2 _ _ h3
  have hi : (U.vm.classes.findIdx? fun (x : Class) => match x.kind with | .array component _ => component == comp | _ => false) = some c := by
    rw [hvm.findIdx?_eq _ (fun _ => rfl)]
    exact h2
  have hkind : k'.kind = .array comp (.array .int) := by rw [he]; exact h4
  have f1 : U.vm.findClass (FieldType.array .int).toString = some comp := by rw [hvm.findClass]; exact h1
  have f2 : U.vm.findClass ("[" ++ (FieldType.array .int).toString) = some c := by rw [hvm.findClass]; exact h5
  unfold n_O Cond.before Cond.holds
  simp only [Cond.value]
  rw [f1, Option.bind_some]
  refine (congrArg (fun o : Option Nat => (o.bind (fun c => (U.vm.classes[c]?).map fun (k : Class) => match k.kind with | .array _ ty => decide (ty = FieldType.array .int) && decide (U.vm.findClass ("[" ++ (FieldType.array .int).toString) = some c) | _ => false) == some true)) hi).trans ?_
  simp [hk', hkind, f2]
abbrev aI (cI : ClassId) (n : Nat) (f : Nat → Int32) (a : Nat) (H : Heap) : Prop := H[a]? = some (vp_cell cI (n, .inl f))
abbrev aR (cA : ClassId) (n : Nat) (g : Nat → Option Nat) (a : Nat) (H : Heap) : Prop := H[a]? = some (vp_cell cA (n, .inr (.inr (.inr (.inr g)))))
def sS (D : va_G) (pa pe : Int32) (o : Value) (S : Nat) (H : Heap) : Prop := va_at D vwCl (S, .inr (1, [.int pa, .int pe, o])) H
theorem z_lt {H : Heap} {a : Nat} {x : Cell} (h : H[a]? = some x) : a < H.size := (Array.getElem?_eq_some_iff.mp h).1
theorem z_kp {H H1 : Heap} {a : Nat} {x : Cell} (h : H[a]? = some x) (hq : q_same H H1) : H1[a]? = some x := (hq.2 a (z_lt h)).trans h
theorem sS.lt {D : va_G} {pa pe : Int32} {o : Value} {S : Nat} {H : Heap} (h : sS D pa pe o S H) : S < H.size := va_at.lt h
theorem sS.kept {D : va_G} {pa pe : Int32} {o : Value} {S : Nat} {H H1 : Heap} (h : sS D pa pe o S H) (hq : H1[S]? = H[S]?) : sS D pa pe o S H1 := va_at.kept h hq
theorem z_ci {cI : ClassId} {n : Nat} {f g : Nat → Int32} (h : ∀ j, j < n → f j = g j) : vp_cell cI (n, .inl f) = vp_cell cI (n, .inl g) :=
  congrArg (fun a => ({ cls := cI, slots := a, vm := .none } : Cell)) (congrArg Array.ofFn (funext fun j : Fin n => congrArg Value.int (h j.1 j.2)))
theorem z_cr {cA : ClassId} {n : Nat} {f g : Nat → Option Nat} (h : ∀ j, j < n → f j = g j) : vp_cell cA (n, .inr (.inr (.inr (.inr f)))) = vp_cell cA (n, .inr (.inr (.inr (.inr g)))) :=
  congrArg (fun a => ({ cls := cA, slots := a, vm := .none } : Cell)) (congrArg Array.ofFn (funext fun j : Fin n => congrArg va_rf (h j.1 j.2)))
theorem aI.cg {cI : ClassId} {n : Nat} {f g : Nat → Int32} {a : Nat} {H : Heap} (ha : aI cI n f a H) (h : ∀ j, j < n → f j = g j) : aI cI n g a H := ha.trans (congrArg some (z_ci h))
theorem aR.cg {cA : ClassId} {n : Nat} {f g : Nat → Option Nat} {a : Nat} {H : Heap} (ha : aR cA n f a H) (h : ∀ j, j < n → f j = g j) : aR cA n g a H := ha.trans (congrArg some (z_cr h))
theorem z_ud {f : Nat → Int32} {j : Nat} {x : Int32} (hj : j < 2 ^ 31) (cI : ClassId) (n : Nat) : (vp_cell cI (n, .inl f)).setSlot (nI j).toNatClampNeg (.int x) = vp_cell cI (n, .inl (upd f j x)) := by
  rw [nI_clamp hj, vp_cell_i, vp_cell_i, arrV_store]
  congr 1
  funext q
  by_cases hq : q = j
  · subst hq
    simp [updV, upd]
  · simp [updV, upd, hq]
theorem z_ur {f : Nat → Option Nat} {j v : Nat} (hj : j < 2 ^ 31) (cA : ClassId) (n : Nat) : (vp_cell cA (n, .inr (.inr (.inr (.inr f))))).setSlot (nI j).toNatClampNeg (.ref v) = vp_cell cA (n, .inr (.inr (.inr (.inr (va_up f j (some v)))))) := by
  rw [nI_clamp hj, vp_cell_q, vp_cell_q, arrV_store]
  congr 1
  funext q
  by_cases hq : q = j
  · subst hq
    simp [updV, va_up, va_rf]
  · simp [updV, va_up, hq]
section ZR
variable {p : Program} {l : Launch} {e : Env} {R : Room} {s : State} {m : MethodId} {args : Array Value} {below : List Frame} {meth : Method} {c : Code} {H : Heap} {locs : List Loc} {cells slots : Nat} {Q : State → Prop}
variable {cc : ByteArray} {pc : Nat} {ls : Array Slot} {rest : List Value} {D : va_G} {A : Nat → Prop} {H0 : Heap} {tys : List (ClassId × FieldType)} {cI cA : ClassId} {n : Nat} {f : Nat → Int32} {g : Nat → Option Nat} {a : Nat}
theorem z_iald (hexec : p.tables.exec = Jvm.exec) (hb : c.code = cc) (hK : va_K D vwCl tys s) (t0 : Nat) (ht : tys[t0]? = some (cI, .int)) (ha : aI cI n f a H) (j : Nat) {i : Int32} (hi : i = nI j) (hj : j < n) (hn : n < 2 ^ 31) (hdg : decode cc pc = .ok (.iaload, 1))
    (kk : W p l e R s m args below meth c H locs cells slots Q (F0 m (pc + 1) ls (.int (f j) :: rest))) : W p l e R s m args below meth c H locs cells slots Q (F0 m pc ls (.int i :: .ref a :: rest)) := by
  subst hi
  refine va_iald hexec hb hK (z_one (D := D) (q := (a, .inl (cI, n, .inl f))) ha) 0 t0 rfl ht (vp_in_nI hj hn) hdg ?_
  rw [nI_clamp (by omega)]
  exact kk
theorem z_alen {x : vp_A} {ty : FieldType} (hexec : p.tables.exec = Jvm.exec) (hb : c.code = cc) (hK : va_K D vwCl tys s) (t0 : Nat) (ht : tys[t0]? = some (cA, ty)) (ha : H[a]? = some (vp_cell cA x)) (hdg : decode cc pc = .ok (.arraylength, 1))
    (kk : W p l e R s m args below meth c H locs cells slots Q (F0 m (pc + 1) ls (.int (nI x.1) :: rest))) : W p l e R s m args below meth c H locs cells slots Q (F0 m pc ls (.ref a :: rest)) :=
  va_alen hexec hb hK (z_one (D := D) (q := (a, .inl (cA, x))) ha) 0 t0 rfl ht (v := nI x.1) rfl hdg kk
theorem z_aald (hexec : p.tables.exec = Jvm.exec) (hb : c.code = cc) (hK : va_K D vwCl tys s) (t0 : Nat) (ht : tys[t0]? = some (cA, .array .int)) (ha : aR cA n g a H) (j : Nat) {i : Int32} (hi : i = nI j) (hj : j < n) (hn : n < 2 ^ 31) {y : Nat} (hy : g j = some y) (hdg : decode cc pc = .ok (.aaload, 1))
    (kk : W p l e R s m args below meth c H locs cells slots Q (F0 m (pc + 1) ls (.ref y :: rest))) : W p l e R s m args below meth c H locs cells slots Q (F0 m pc ls (.int i :: .ref a :: rest)) := by
  subst hi
  refine W.aald (v := .ref y) (ty := .array .int) hexec hb ha ((hK.2 t0 _ ht).1 n (fun j => va_rf (g j))) rfl (fun q => by cases q) (by show ¬ (nI j < 0 ∨ (arrV _ _ _).slots.size ≤ _); rw [arrV_size]; exact vp_in_nI hj hn) ?_ rfl rfl hdg kk
  show (arrV _ _ _).slots[_]? = _
  rw [nI_clamp (by omega), arrV_read _ _ hj, hy]
  rfl
theorem z_iast (hexec : p.tables.exec = Jvm.exec) (hb : c.code = cc) (hK : va_K D vwCl tys s) (t0 : Nat) (ht : tys[t0]? = some (cI, .int)) (ha : aI cI n f a H) (hS : va_S A H0 H locs) (hA : A a) (j : Nat) {i x : Int32} (hi : i = nI j) (hj : j < n) (hn : n < 2 ^ 31) (hdg : decode cc pc = .ok (.iastore, 1))
    (kk : ∀ (H1 : Heap) (locs1 : List Loc), aI cI n (upd f j x) a H1 → H1.size = H.size → (∀ q : Nat, q ≠ a → H1[q]? = H[q]?) → va_S A H0 H1 locs1 → W p l e R s m args below meth c H1 locs1 cells slots Q (F0 m (pc + 1) ls rest)) : W p l e R s m args below meth c H locs cells slots Q (F0 m pc ls (.int x :: .int i :: .ref a :: rest)) := by
  subst hi
  refine W.iast hexec hb ha ((hK.2 t0 _ ht).1 n (fun j => .int (f j))) (fun q => by cases q) (by show ¬ (nI j < 0 ∨ (arrV _ _ _).slots.size ≤ _); rw [arrV_size]; exact vp_in_nI hj hn) rfl rfl hdg fun H1 e z oq => ?_
  exact kk H1 _ (e.trans (congrArg some (z_ud (by omega) cI n))) z oq (hS.put z oq hA)
theorem z_aast (hexec : p.tables.exec = Jvm.exec) (hb : c.code = cc) (hK : va_K D vwCl tys s) (hO : n_O s) (t0 t1 : Nat) (ht : tys[t0]? = some (cA, .array .int)) (ht1 : tys[t1]? = some (cI, .int)) (ha : aR cA n g a H) (hS : va_S A H0 H locs) (hA : A a) (j : Nat) {i : Int32} (hi : i = nI j) (hj : j < n) (hn : n < 2 ^ 31) {v k : Nat} (hv : H[v]? = some (vp_cell cI (k, .inl f))) (hdg : decode cc pc = .ok (.aastore, 1))
    (kk : ∀ (H1 : Heap) (locs1 : List Loc), aR cA n (va_up g j (some v)) a H1 → H1.size = H.size → (∀ q : Nat, q ≠ a → H1[q]? = H[q]?) → va_S A H0 H1 locs1 → W p l e R s m args below meth c H1 locs1 cells slots Q (F0 m (pc + 1) ls rest)) : W p l e R s m args below meth c H locs cells slots Q (F0 m pc ls (.ref v :: .int i :: .ref a :: rest)) := by
  subst hi
  obtain ⟨comp, cA2, kA, k3, -, k1, k2, k4⟩ := arrayOverA_spec (n_O.use (A := args) hO)
  cases ((hK.2 t0 _ ht).2 : s.vm.findClass ("[" ++ (FieldType.array .int).toString) = some cA).symm.trans k4
  cases k3.symm.trans ((hK.2 t1 _ ht1).2 : s.vm.findClass ("[" ++ FieldType.int.toString) = some cI)
  obtain ⟨kE, hkE, -⟩ := Vm.findClass_spec k3
  refine W.aast hexec hb ha (fun q h => by cases h) (fun h => by cases h) k1 k2 rfl hkE ⟨nI_pos (by omega), by show _ < (arrV _ _ _).slots.size; rw [arrV_size, nI_clamp (by omega)]; exact hj⟩ hv (fun q h => by cases h) hkE (va_asg _ _) rfl rfl hdg fun H1 e z oq => ?_
  exact kk H1 _ (e.trans (congrArg some (z_ur (by omega) cA n))) z oq (hS.put z oq hA)
theorem z_newi (hexec : p.tables.exec = Jvm.exec) (hb : c.code = cc) (harr : (Cond.arrayClass .int).before args s = true) (hK : va_K D vwCl tys s) (t0 : Nat) (ht : tys[t0]? = some (cI, .int)) (hS : va_S A H0 H locs) {i : Int32} (hi : i = nI n) (hn : n ≤ 1000) (hcells : cells + 1 ≤ R.cells) (hslots : slots + n ≤ R.slots) (hdg : decode cc pc = .ok (.newarray .int, 2))
    (kk : ∀ (q : Nat) (H1 : Heap), q = H.size → aI cI n (fun _ => 0) q H1 → q_same H H1 → va_S A H0 H1 locs → W p l e R s m args below meth c H1 locs (cells + 1) (slots + n) Q (F0 m (pc + 2) ls (.ref q :: rest))) : W p l e R s m args below meth c H locs cells slots Q (F0 m pc ls (.int i :: rest)) := by
  subst hi
  refine va_newaK (atype := .int) hexec hb harr rfl hdg rfl (nI_pos (by omega)) (nI_clamp (by omega)) (by show n * 4 ≤ _; omega) hcells hslots rfl fun H1 cB e1 z1 o1 hAr hNm => ?_
  have e9 : cB = cI := Option.some.inj (hNm.symm.trans ((hK.2 t0 _ ht).2 : s.vm.findClass ("[" ++ FieldType.int.toString) = some cI))
  subst e9
  exact kk H.size H1 rfl e1 ⟨by omega, o1⟩ ⟨by have := hS.1; omega, fun q h1 h2 => (o1 q (by have := hS.1; omega)).trans (hS.2.1 q h1 h2), hS.2.2⟩
theorem z_newr (hexec : p.tables.exec = Jvm.exec) (hb : c.code = cc) {own : String} {index : Nat} (hown : s.vm.findClass own = some m.cls) (hclink : (Cond.classLink own index "[I").before args s = true) (hO : n_O s) (hK : va_K D vwCl tys s) (t0 : Nat) (ht : tys[t0]? = some (cA, .array .int)) (hS : va_S A H0 H locs) {i : Int32} (hi : i = nI n) (hn : n ≤ 1000) (hcells : cells + 1 ≤ R.cells) (hslots : slots + n ≤ R.slots) (hdg : decode cc pc = .ok (.anewarray index, 3))
    (kk : ∀ (q : Nat) (H1 : Heap), q = H.size → aR cA n (fun _ => none) q H1 → q_same H H1 → va_S A H0 H1 locs → W p l e R s m args below meth c H1 locs (cells + 1) (slots + n) Q (F0 m (pc + 3) ls (.ref q :: rest))) : W p l e R s m args below meth c H locs cells slots Q (F0 m pc ls (.int i :: rest)) := by
  subst hi
  have hz : (nI n).toNatClampNeg = n := nI_clamp (by omega)
  refine W.anewA (t := .int) hexec hb hown hclink (n_O.use hO) rfl hdg rfl (nI_pos (by omega)) (by rw [hz]; omega) hcells (by rw [hz]; exact hslots) fun cB kA comp f1 f2 f3 f4 => ?_
  rw [hz]
  generalize hH1 : H.push ({ cls := cB, slots := Array.replicate n .null, vm := .none } : Cell) = H1
  have e9 : cB = cA := Option.some.inj (f1.symm.trans ((hK.2 t0 _ ht).2 : s.vm.findClass ("[" ++ (FieldType.array .int).toString) = some cA))
  subst e9
  have z1 : H1.size = H.size + 1 := by rw [← hH1, Array.size_push]
  have e1 : H1[H.size]? = some (arrV cB n (fun _ => .null)) := by rw [← hH1, Array.getElem?_push_size, ← arrV_new]
  have o1 : ∀ q : Nat, q < H.size → H1[q]? = H[q]? := fun q hq => by rw [← hH1, Array.getElem?_push, if_neg (Nat.ne_of_lt hq)]
  exact kk H.size H1 rfl e1 ⟨by omega, o1⟩ ⟨by have := hS.1; omega, fun q h1 h2 => (o1 q (by have := hS.1; omega)).trans (hS.2.1 q h1 h2), hS.2.2⟩
theorem z_put (hexec : p.tables.exec = Jvm.exec) (hb : c.code = cc) {own : String} {index : Nat} {Ts : List Cond} (hts : ∀ w ∈ Ts, w.before args s = true) (hin : ∀ w ∈ wsX10, w ∈ Ts) (hown : s.vm.findClass own = some m.cls) (hK : va_K D vwCl tys s) {fs : List Value} (ha : va_at D vwCl (a, .inr (1, fs)) H) (hS0 : va_S A H0 H locs) (hA : A a) (k : Nat) (hk : k < 3) (hlink : (Cond.fieldLink own index RX1 (TX1 k).2.1 (TX1 k).2.2.1).before args s = true) {ty : FieldType} {v : Value} (hd : parseFieldDescriptor (TX1 k).2.2.1 = some ty) (hn : narrow ty v = v) (hfit : fits ty v = true) (hl : k < fs.length)
    (hdg : decode cc pc = .ok (.putfield index, 3)) (kk : ∀ (H1 : Heap) (locs1 : List Loc), va_at D vwCl (a, .inr (1, fs.set k v)) H1 → H1.size = H.size → (∀ q : Nat, q ≠ a → H1[q]? = H[q]?) → va_S A H0 H1 locs1 → W p l e R s m args below meth c H1 locs1 cells slots Q (F0 m (pc + 3) ls rest)) : W p l e R s m args below meth c H locs cells slots Q (F0 m pc ls (v :: .ref a :: rest)) := by
  have hc : vwCl[1]? = some (RX1, TX1, 3) := rfl
  have hap := va_apart (own := own) hts hin tyX1 tyX1_ok nmX1 hK hc
  obtain ⟨r, h1, cell, q1, q2, q3, q4⟩ := ha
  have hr : r = (RX1, TX1, 3) := Option.some.inj (h1.symm.trans hc)
  subst hr
  obtain ⟨hS, hfc, kC, hkC, hkind⟩ := hK.1 1 _ hc
  obtain ⟨cf, kf, fi, f, hi, hsl⟩ := hS k hk
  have hlay := hts _ (hin _ (u_in_lay hk))
  have hfin : (TX1 k).2.2.2 = false := by
    rcases (show k = 0 ∨ k = 1 ∨ k = 2 by omega) with rfl | rfl | rfl <;> rfl
  have hre : (TX1 k).1 = RX1 := by
    rcases (show k = 0 ∨ k = 1 ∨ k = 2 by omega) with rfl | rfl | rfl <;> rfl
  unfold u_lay at hlay
  rw [if_neg (by rw [hfin]; decide)] at hlay
  have hst := (u_facts hfc hkC (u_lays hts hin hk) hi).1
  have h6 := u_store hfc hkC hkind hlay hi hd hn hfit
  refine W.putK hexec hb (f := f) ⟨hown, hlink, ⟨_, _, _, by rw [← hre]; exact hi⟩, hst⟩ (by rw [q2]; exact h6) q1 q3 (by rw [hsl]; exact k2_hasslot (q4 k hk)) rfl rfl hdg fun H' e1 e2 e3 => ?_
  rw [hsl] at e1 ⊢
  exact kk H' _ ⟨_, hc, t_OB.to (V := updV (vp_V fs) k v) ⟨_, e1, q2, q3, t_set q4 hap hk v⟩ (fun j _ => vp_updV_set hl v j)⟩ e2 e3 (hS0.put e2 e3 hA)
theorem z_get (hexec : p.tables.exec = Jvm.exec) (hb : c.code = cc) {own : String} {index : Nat} {Ts : List Cond} (hts : ∀ w ∈ Ts, w.before args s = true) (hin : ∀ w ∈ wsX10, w ∈ Ts) (hown : s.vm.findClass own = some m.cls) (hK : va_K D vwCl tys s) {fs : List Value} (ha : va_at D vwCl (a, .inr (1, fs)) H) (k : Nat) (hk : k < 3) (hlink : (Cond.fieldLink own index RX1 (TX1 k).2.1 (TX1 k).2.2.1).before args s = true) {v : Value} (hv : fs[k]? = some v) (hdg : decode cc pc = .ok (.getfield index, 3))
    (kk : W p l e R s m args below meth c H locs cells slots Q (F0 m (pc + 3) ls (v :: rest))) : W p l e R s m args below meth c H locs cells slots Q (F0 m pc ls (.ref a :: rest)) := by
  have hre : (TX1 k).1 = RX1 := by
    rcases (show k = 0 ∨ k = 1 ∨ k = 2 by omega) with rfl | rfl | rfl <;> rfl
  exact va_get (D := D) (C := RX1) (T := TX1) (N := 3) hexec hb hts hin hown hK (z_one ha) 0 rfl rfl k hk hlink (fun x h => by rw [← hre]; exact h) hv hdg kk
end ZR
