/-! own rows: what one turn of the law's loop stands on -/
abbrev lW (cI cJ cZ : ClassId) (ad ad2 : Nat → Nat) (o : Nat) (n w t pa pe : Int32) (f0 f1 f2 f3 f4 : Nat → Int32) (fo : Nat → Int64) (th : Int32) (g0 g1 g2 : Nat → Int32) : va_W :=
  [(ad 0, .inr (0, [.ref (ad 1), .ref (ad 2), .ref (ad 3), .int n, .ref (ad 4), .ref (ad 5), .int w, .int t, .int pa, .int pe])), (ad 1, .inl (cI, 24, .inl f0)), (ad 2, .inl (cI, 24, .inl f1)), (ad 3, .inl (cI, 24, .inl f2)), (ad 4, .inl (cI, 24, .inl f3)), (ad 5, .inl (cI, 24, .inl f4)), (o, .inl (cJ, 1, .inr (.inl fo))),
   (ad2 0, .inr (1, [.int th, .int n, .int pa, .int pe, .ref (ad2 1), .ref (ad2 2), .ref (ad2 3)])), (ad2 1, .inl (cI, 25, .inl g0)), (ad2 2, .inl (cI, 25, .inl g1)), (ad2 3, .inl (cZ, 25, .inl g2))]
def lA (s : State) : Nat → Prop := fun q => s.heap.size ≤ q
def law_C (p : Program) (l : Launch) (s : State) (m : MethodId) (c : Code) (args : Array Value) (b L : Nat) (xs : Nat → Int32) (D : va_G) (cI cJ cZ : ClassId) (sa : Nat → Nat) : Prop :=
  p.tables.exec = Jvm.exec ∧ c.code = cL_law ∧ c.maxLocals = 9 ∧ s.vm.findClass RL = some m.cls ∧ (∀ w ∈ wsL_law, w.before args s = true) ∧ va_X b L xs s s.heap ∧ b < s.heap.size ∧ va_K D vwCl [(cI, .int), (cJ, .long), (cZ, .boolean)] s ∧ t_Z sa s s.heap ∧ l_N s ∧ l.stackTraces = false ∧ L ≤ 1536
def law_L (b : Nat) (ad ad2 : Nat → Nat) (o i : Nat) : List (Nat × Value) := [(4, .int (nI i)), (3, .ref o), (2, .ref (ad2 0)), (1, .ref (ad 0)), (0, .ref b)]
/-- the turn's end -/
def law_K (p : Program) (l : Launch) (e : Env) (s : State) (m : MethodId) (args : Array Value) (below : List Frame) (meth : Method) (c : Code) (b : Nat) (D : va_G) (cI cJ cZ : ClassId) (ad ad2 : Nat → Nat) (o : Nat) (cells slots : Nat) (Q : State → Prop) (i : Nat) : Prop :=
  ∀ (N : Nat) (w t pa pe : Int32) (f0 f1 f2 f3 f4 : Nat → Int32) (fo : Nat → Int64) (th : Int32) (g0 g1 g2 : Nat → Int32) (H : Heap) (locs : List Loc) (ls : Array Slot), Ra N f0 f1 f2 g0 g1 g2 → Rw N f3 f4 g0 g1 g2 w t →
    va_P D vwCl (lW cI cJ cZ ad ad2 o (nI N) w t pa pe f0 f1 f2 f3 f4 fo th g0 g1 g2) H → va_D (lA s) (lW cI cJ cZ ad ad2 o (nI N) w t pa pe f0 f1 f2 f3 f4 fo th g0 g1 g2) → va_S (lA s) s.heap H locs → lv_has ls 9 (law_L b ad ad2 o i) →
    W p l e room_1 s m args below meth c H locs (cells + 24) (slots + 125) Q (F0 m 1808 ls [])
theorem upd0 {fo : Nat → Int64} {v : Int64} : vp_updL fo 0 v (0 : Int32).toNatClampNeg = v := if_pos (by decide)
section LWK
variable {p : Program} {l : Launch} {e : Env} {R : Room} {s : State} {m : MethodId} {args : Array Value} {below : List Frame} {meth : Method} {c : Code} {H : Heap} {locs : List Loc} {cells slots : Nat} {Q : State → Prop}
variable {cc : ByteArray} {pc : Nat} {ls : Array Slot} {rest : List Value}
theorem l_lcmp0 (hexec : p.tables.exec = Jvm.exec) (hb : c.code = cc) {x y : Int64} (he : x = y) (hdg : decode cc pc = .ok (.lcmp, 1))
    (k : W p l e R s m args below meth c H locs cells slots Q (F0 m (pc + 1) ls (.int 0 :: rest))) : W p l e R s m args below meth c H locs cells slots Q (F0 m pc ls (.long y :: .long x :: rest)) := by
  subst he
  intro T hT X
  obtain ⟨t, a, b⟩ := k T hT X
  refine ⟨t, ?_, b⟩
  have h1 : ¬ x > x := Int64.lt_irrefl
  have h2 : (x == x) = true := beq_self_eq_true x
  jvm_step X.here [X.here.top, hexec, hb, hdg, h1, h2]
  exact a
/-- script[i + k] -/
theorem l_arg (hx : p.tables.exec = Jvm.exec) (hb : c.code = cc) {b L i k : Nat} {xs : Nat → Int32} {x1 : Int32} (hX : va_X b L xs s s.heap) (hbl : b < s.heap.size) (hS : va_S (lA s) s.heap H locs) (hk : i + k < L) (hL : L ≤ 1536) (hkf : Int32.ofInt (k : Int) = nI k) (e1 : xs (i + k) = x1)
    (h0 : ls[0]? = some (.val (.ref b))) (h4 : ls[4]? = some (.val (.int (nI i)))) (d0 : decode cc pc = .ok (.aload_n 0, 1)) (d1 : decode cc (pc + 1) = .ok (.iload 4, 2)) (d3 : decode cc (pc + 3) = .ok (.iconst (k : Int), 1)) (d4 : decode cc (pc + 4) = .ok (.iadd, 1)) (d5 : decode cc (pc + 5) = .ok (.iaload, 1))
    (kk : W p l e R s m args below meth c H locs cells slots Q (F0 m (pc + 6) ls (.int x1 :: rest))) : W p l e R s m args below meth c H locs cells slots Q (F0 m pc ls rest) := by
  refine lv_aload_n hx hb d0 rfl h0 ?_
  refine lv_iload hx hb d1 h4 ?_
  refine lv_iconst (v := nI k) hx hb d3 hkf ?_
  refine lv_iadd hx hb d4 ?_
  rw [nI_add]
  refine va_sld hx hb hX hbl (fun q => Nat.not_le.mpr hbl q) hS (vp_in_nI hk (by omega)) d5 ?_
  rw [nI_clamp (by omega), e1]
  exact kk
end LWK
