/-! own rows, written by wip/whole/inits.py: both constructors -/
def x_w0 (h : Nat) : va_W := [(h, .inr (0, [.null, .null, .null, .int 0, .null, .null, .int 0, .int 0, .int 0, .int 0]))]
abbrev x_z : Nat → Int32 := fun _ => 0
set_option maxHeartbeats 4000000 in
set_option maxRecDepth 100000 in
theorem c_X0_init (l : Launch) (D : va_G) (h : Nat) : ∀ sz : Nat, Met l yX0_init wsX0_init ({ frames := 2, cells := 5, slots := 120, locals := 40 } : Room) (va_Pc [.ref h] (m_B D [] [(h, .inr (0, [.null, .null, .null, .int 0, .null, .null, .int 0, .int 0, .int 0, .int 0]))] sz)) (va_Qv (fun u : ClassId × (Nat → Nat) => u.2 0 = h) (fun u t => va_P D vwCl (xw u.1 u.2 0 0 0 30 0 x_z x_z x_z x_z x_z) t.heap ∧ va_K D vwCl [(u.1, .int)] t ∧ va_D (va_A [(h, .inr (0, [.null, .null, .null, .int 0, .null, .null, .int 0, .int 0, .int 0, .int 0]))] sz) (xw u.1 u.2 0 0 0 30 0 x_z x_z x_z x_z x_z)) (va_A [(h, .inr (0, [.null, .null, .null, .int 0, .null, .null, .int 0, .int 0, .int 0, .int 0]))] sz)) 5 120 (va_A [(h, .inr (0, [.null, .null, .null, .int 0, .null, .null, .int 0, .int 0, .int 0, .int 0]))] sz) := by
  intro sz
  refine Met.ofW (cc := cX0_init) (maxL := 1) (ret := none) (by decide) rfl ?_
  intro p e s m args below meth c s₁ B hml hv
  obtain ⟨rfl, hsz, ⟨hP, hK⟩, hD0⟩ := hv
  have hx := B.exec
  have hb := B.bytes
  have hr := B.returns
  have hts := atoms_spec (ws := wsX0_init) B.pre
  have hown : s.vm.findClass RX0 = some m.cls := findClass_of_methodNamed B.named
  have hlocks := B.notSynchronized
  have hin9 : meth.name = "<init>" := (name_of_methodNamed B.named B.method).1
  have hin : ∀ w ∈ wsX00, w ∈ wsX0_init := by decide +kernel
  subst hsz
  have hD := hD0.self (sz := s.heap.size)
  generalize hAe : va_A [(h, .inr (0, [.null, .null, .null, .int 0, .null, .null, .int 0, .int 0, .int 0, .int 0]))] s.heap.size = A at hD ⊢
  have hA : ∀ q : Nat, s.heap.size ≤ q → A q := fun q h => by rw [← hAe]; exact Or.inr h
  have hS : va_S A s.heap s.heap [] := va_S.rf
  have hl := lv_entry ([.ref h]) (n := 1) (Nat.le_of_ble_eq_true rfl)
  rw [lg_entry_eq]
  generalize (lg_sl ([.ref h]) ++ List.replicate (1 - (lg_sl ([.ref h])).length) Slot.unset).toArray = ls at hl ⊢
  have hl : lv_has ls 1 [(0, .ref h)] := hl
  refine lv_aload_n hx hb dX0_init_0 rfl (lv_at hl 0 rfl) ?_
  refine W.objInit hx hb hown (hts (.methodLink RX0 1 objectInit) (by decide +kernel)) (hts (.instanceMethod objectInit) (by decide +kernel)) (hts (.code objectInit ⟨#[0xb1]⟩ 1 none) (by decide +kernel)) rfl (by rw [hml]; exact hl.1) rfl dX0_init_1 (Nat.le_of_ble_eq_true rfl) (Nat.le_of_ble_eq_true rfl) ?_
  refine W.eq (g2 := F0 m 4 ls []) rfl ?_
  refine lv_aload_n hx hb dX0_init_4 rfl (lv_at hl 0 rfl) ?_
  refine lv_bipush (v := 24) hx hb dX0_init_5 (by decide) ?_
  refine va_newa (atype := .int) hx hb (hts (.arrayClass .int) (by decide +kernel)) (ty := .int) rfl hK hP hD hS hA (N' := 24) (a0 := (24, .inl (fun _ => 0))) (fun cA => rfl) (by decide) (by decide) (Nat.le_of_ble_eq_true rfl) (Nat.le_of_ble_eq_true rfl) (Nat.le_of_ble_eq_true rfl) dX0_init_7 (fun q1 z1 H hK hP hD hS => ?_)
  have hP : va_P D vwCl [(h, .inr (0, [.null, .null, .null, .int 0, .null, .null, .int 0, .int 0, .int 0, .int 0])), (q1, .inl (z1, 24, .inl (fun _ => 0)))] H := hP
  have hD : va_D A [(h, .inr (0, [.null, .null, .null, .int 0, .null, .null, .int 0, .int 0, .int 0, .int 0])), (q1, .inl (z1, 24, .inl (fun _ => 0)))] := hD
  refine va_putF (D := D) (ci := 0) (v := .ref q1) (ty := .array .int) (C := RX0) (T := TX0) (N := 10) hx hb hts hin tyX0 tyX0_ok nmX0 hown hK hP hD hS 0 rfl rfl 0 (by decide) (hts (.fieldLink RX0 9 "SplicedTalk" "speakers" "[I") (by decide +kernel)) (fun _ h9 => h9) rfl hin9 rfl (by decide +kernel) rfl rfl (Nat.le_of_ble_eq_true rfl) dX0_init_9 (fun H locs hP hD hS => ?_)
  have hP : va_P D vwCl [(h, .inr (0, [.ref q1, .null, .null, .int 0, .null, .null, .int 0, .int 0, .int 0, .int 0])), (q1, .inl (z1, 24, .inl (fun _ => 0)))] H := hP
  have hD : va_D A [(h, .inr (0, [.ref q1, .null, .null, .int 0, .null, .null, .int 0, .int 0, .int 0, .int 0])), (q1, .inl (z1, 24, .inl (fun _ => 0)))] := hD
  refine lv_aload_n hx hb dX0_init_12 rfl (lv_at hl 0 rfl) ?_
  refine lv_bipush (v := 24) hx hb dX0_init_13 (by decide) ?_
  refine va_newa (atype := .int) hx hb (hts (.arrayClass .int) (by decide +kernel)) (ty := .int) rfl hK hP hD hS hA (N' := 24) (a0 := (24, .inl (fun _ => 0))) (fun cA => rfl) (by decide) (by decide) (Nat.le_of_ble_eq_true rfl) (Nat.le_of_ble_eq_true rfl) (Nat.le_of_ble_eq_true rfl) dX0_init_15 (fun q2 z2 H hK hP hD hS => ?_)
  have e9 : z1 = z2 := Option.some.inj (Eq.trans (show some z1 = s.vm.findClass ("[" ++ FieldType.int.toString) from (hK.2 0 _ rfl).2.symm) (hK.2 1 _ rfl).2)
  subst e9
  have hK := hK.sub (tys' := [(z1, .int)]) [0] rfl
  have hP : va_P D vwCl [(h, .inr (0, [.ref q1, .null, .null, .int 0, .null, .null, .int 0, .int 0, .int 0, .int 0])), (q1, .inl (z1, 24, .inl (fun _ => 0))), (q2, .inl (z1, 24, .inl (fun _ => 0)))] H := hP
  have hD : va_D A [(h, .inr (0, [.ref q1, .null, .null, .int 0, .null, .null, .int 0, .int 0, .int 0, .int 0])), (q1, .inl (z1, 24, .inl (fun _ => 0))), (q2, .inl (z1, 24, .inl (fun _ => 0)))] := hD
  refine va_putF (D := D) (ci := 0) (v := .ref q2) (ty := .array .int) (C := RX0) (T := TX0) (N := 10) hx hb hts hin tyX0 tyX0_ok nmX0 hown hK hP hD hS 0 rfl rfl 1 (by decide) (hts (.fieldLink RX0 13 "SplicedTalk" "topics" "[I") (by decide +kernel)) (fun _ h9 => h9) rfl hin9 rfl (by decide +kernel) rfl rfl (Nat.le_of_ble_eq_true rfl) dX0_init_17 (fun H locs hP hD hS => ?_)
  have hP : va_P D vwCl [(h, .inr (0, [.ref q1, .ref q2, .null, .int 0, .null, .null, .int 0, .int 0, .int 0, .int 0])), (q1, .inl (z1, 24, .inl (fun _ => 0))), (q2, .inl (z1, 24, .inl (fun _ => 0)))] H := hP
  have hD : va_D A [(h, .inr (0, [.ref q1, .ref q2, .null, .int 0, .null, .null, .int 0, .int 0, .int 0, .int 0])), (q1, .inl (z1, 24, .inl (fun _ => 0))), (q2, .inl (z1, 24, .inl (fun _ => 0)))] := hD
  refine lv_aload_n hx hb dX0_init_20 rfl (lv_at hl 0 rfl) ?_
  refine lv_bipush (v := 24) hx hb dX0_init_21 (by decide) ?_
  refine va_newa (atype := .int) hx hb (hts (.arrayClass .int) (by decide +kernel)) (ty := .int) rfl hK hP hD hS hA (N' := 24) (a0 := (24, .inl (fun _ => 0))) (fun cA => rfl) (by decide) (by decide) (Nat.le_of_ble_eq_true rfl) (Nat.le_of_ble_eq_true rfl) (Nat.le_of_ble_eq_true rfl) dX0_init_23 (fun q3 z3 H hK hP hD hS => ?_)
  have e9 : z1 = z3 := Option.some.inj (Eq.trans (show some z1 = s.vm.findClass ("[" ++ FieldType.int.toString) from (hK.2 0 _ rfl).2.symm) (hK.2 1 _ rfl).2)
  subst e9
  have hK := hK.sub (tys' := [(z1, .int)]) [0] rfl
  have hP : va_P D vwCl [(h, .inr (0, [.ref q1, .ref q2, .null, .int 0, .null, .null, .int 0, .int 0, .int 0, .int 0])), (q1, .inl (z1, 24, .inl (fun _ => 0))), (q2, .inl (z1, 24, .inl (fun _ => 0))), (q3, .inl (z1, 24, .inl (fun _ => 0)))] H := hP
  have hD : va_D A [(h, .inr (0, [.ref q1, .ref q2, .null, .int 0, .null, .null, .int 0, .int 0, .int 0, .int 0])), (q1, .inl (z1, 24, .inl (fun _ => 0))), (q2, .inl (z1, 24, .inl (fun _ => 0))), (q3, .inl (z1, 24, .inl (fun _ => 0)))] := hD
  refine va_putF (D := D) (ci := 0) (v := .ref q3) (ty := .array .int) (C := RX0) (T := TX0) (N := 10) hx hb hts hin tyX0 tyX0_ok nmX0 hown hK hP hD hS 0 rfl rfl 2 (by decide) (hts (.fieldLink RX0 16 "SplicedTalk" "ties" "[I") (by decide +kernel)) (fun _ h9 => h9) rfl hin9 rfl (by decide +kernel) rfl rfl (Nat.le_of_ble_eq_true rfl) dX0_init_25 (fun H locs hP hD hS => ?_)
  have hP : va_P D vwCl [(h, .inr (0, [.ref q1, .ref q2, .ref q3, .int 0, .null, .null, .int 0, .int 0, .int 0, .int 0])), (q1, .inl (z1, 24, .inl (fun _ => 0))), (q2, .inl (z1, 24, .inl (fun _ => 0))), (q3, .inl (z1, 24, .inl (fun _ => 0)))] H := hP
  have hD : va_D A [(h, .inr (0, [.ref q1, .ref q2, .ref q3, .int 0, .null, .null, .int 0, .int 0, .int 0, .int 0])), (q1, .inl (z1, 24, .inl (fun _ => 0))), (q2, .inl (z1, 24, .inl (fun _ => 0))), (q3, .inl (z1, 24, .inl (fun _ => 0)))] := hD
  refine lv_aload_n hx hb dX0_init_28 rfl (lv_at hl 0 rfl) ?_
  refine lv_bipush (v := 24) hx hb dX0_init_29 (by decide) ?_
  refine va_newa (atype := .int) hx hb (hts (.arrayClass .int) (by decide +kernel)) (ty := .int) rfl hK hP hD hS hA (N' := 24) (a0 := (24, .inl (fun _ => 0))) (fun cA => rfl) (by decide) (by decide) (Nat.le_of_ble_eq_true rfl) (Nat.le_of_ble_eq_true rfl) (Nat.le_of_ble_eq_true rfl) dX0_init_31 (fun q4 z4 H hK hP hD hS => ?_)
  have e9 : z1 = z4 := Option.some.inj (Eq.trans (show some z1 = s.vm.findClass ("[" ++ FieldType.int.toString) from (hK.2 0 _ rfl).2.symm) (hK.2 1 _ rfl).2)
  subst e9
  have hK := hK.sub (tys' := [(z1, .int)]) [0] rfl
  have hP : va_P D vwCl [(h, .inr (0, [.ref q1, .ref q2, .ref q3, .int 0, .null, .null, .int 0, .int 0, .int 0, .int 0])), (q1, .inl (z1, 24, .inl (fun _ => 0))), (q2, .inl (z1, 24, .inl (fun _ => 0))), (q3, .inl (z1, 24, .inl (fun _ => 0))), (q4, .inl (z1, 24, .inl (fun _ => 0)))] H := hP
  have hD : va_D A [(h, .inr (0, [.ref q1, .ref q2, .ref q3, .int 0, .null, .null, .int 0, .int 0, .int 0, .int 0])), (q1, .inl (z1, 24, .inl (fun _ => 0))), (q2, .inl (z1, 24, .inl (fun _ => 0))), (q3, .inl (z1, 24, .inl (fun _ => 0))), (q4, .inl (z1, 24, .inl (fun _ => 0)))] := hD
  refine va_putF (D := D) (ci := 0) (v := .ref q4) (ty := .array .int) (C := RX0) (T := TX0) (N := 10) hx hb hts hin tyX0 tyX0_ok nmX0 hown hK hP hD hS 0 rfl rfl 4 (by decide) (hts (.fieldLink RX0 19 "SplicedTalk" "wordPlaces" "[I") (by decide +kernel)) (fun _ h9 => h9) rfl hin9 rfl (by decide +kernel) rfl rfl (Nat.le_of_ble_eq_true rfl) dX0_init_33 (fun H locs hP hD hS => ?_)
  have hP : va_P D vwCl [(h, .inr (0, [.ref q1, .ref q2, .ref q3, .int 0, .ref q4, .null, .int 0, .int 0, .int 0, .int 0])), (q1, .inl (z1, 24, .inl (fun _ => 0))), (q2, .inl (z1, 24, .inl (fun _ => 0))), (q3, .inl (z1, 24, .inl (fun _ => 0))), (q4, .inl (z1, 24, .inl (fun _ => 0)))] H := hP
  have hD : va_D A [(h, .inr (0, [.ref q1, .ref q2, .ref q3, .int 0, .ref q4, .null, .int 0, .int 0, .int 0, .int 0])), (q1, .inl (z1, 24, .inl (fun _ => 0))), (q2, .inl (z1, 24, .inl (fun _ => 0))), (q3, .inl (z1, 24, .inl (fun _ => 0))), (q4, .inl (z1, 24, .inl (fun _ => 0)))] := hD
  refine lv_aload_n hx hb dX0_init_36 rfl (lv_at hl 0 rfl) ?_
  refine lv_bipush (v := 24) hx hb dX0_init_37 (by decide) ?_
  refine va_newa (atype := .int) hx hb (hts (.arrayClass .int) (by decide +kernel)) (ty := .int) rfl hK hP hD hS hA (N' := 24) (a0 := (24, .inl (fun _ => 0))) (fun cA => rfl) (by decide) (by decide) (Nat.le_of_ble_eq_true rfl) (Nat.le_of_ble_eq_true rfl) (Nat.le_of_ble_eq_true rfl) dX0_init_39 (fun q5 z5 H hK hP hD hS => ?_)
  have e9 : z1 = z5 := Option.some.inj (Eq.trans (show some z1 = s.vm.findClass ("[" ++ FieldType.int.toString) from (hK.2 0 _ rfl).2.symm) (hK.2 1 _ rfl).2)
  subst e9
  have hK := hK.sub (tys' := [(z1, .int)]) [0] rfl
  have hP : va_P D vwCl [(h, .inr (0, [.ref q1, .ref q2, .ref q3, .int 0, .ref q4, .null, .int 0, .int 0, .int 0, .int 0])), (q1, .inl (z1, 24, .inl (fun _ => 0))), (q2, .inl (z1, 24, .inl (fun _ => 0))), (q3, .inl (z1, 24, .inl (fun _ => 0))), (q4, .inl (z1, 24, .inl (fun _ => 0))), (q5, .inl (z1, 24, .inl (fun _ => 0)))] H := hP
  have hD : va_D A [(h, .inr (0, [.ref q1, .ref q2, .ref q3, .int 0, .ref q4, .null, .int 0, .int 0, .int 0, .int 0])), (q1, .inl (z1, 24, .inl (fun _ => 0))), (q2, .inl (z1, 24, .inl (fun _ => 0))), (q3, .inl (z1, 24, .inl (fun _ => 0))), (q4, .inl (z1, 24, .inl (fun _ => 0))), (q5, .inl (z1, 24, .inl (fun _ => 0)))] := hD
  refine va_putF (D := D) (ci := 0) (v := .ref q5) (ty := .array .int) (C := RX0) (T := TX0) (N := 10) hx hb hts hin tyX0 tyX0_ok nmX0 hown hK hP hD hS 0 rfl rfl 5 (by decide) (hts (.fieldLink RX0 22 "SplicedTalk" "wordThreads" "[I") (by decide +kernel)) (fun _ h9 => h9) rfl hin9 rfl (by decide +kernel) rfl rfl (Nat.le_of_ble_eq_true rfl) dX0_init_41 (fun H locs hP hD hS => ?_)
  have hP : va_P D vwCl [(h, .inr (0, [.ref q1, .ref q2, .ref q3, .int 0, .ref q4, .ref q5, .int 0, .int 0, .int 0, .int 0])), (q1, .inl (z1, 24, .inl (fun _ => 0))), (q2, .inl (z1, 24, .inl (fun _ => 0))), (q3, .inl (z1, 24, .inl (fun _ => 0))), (q4, .inl (z1, 24, .inl (fun _ => 0))), (q5, .inl (z1, 24, .inl (fun _ => 0)))] H := hP
  have hD : va_D A [(h, .inr (0, [.ref q1, .ref q2, .ref q3, .int 0, .ref q4, .ref q5, .int 0, .int 0, .int 0, .int 0])), (q1, .inl (z1, 24, .inl (fun _ => 0))), (q2, .inl (z1, 24, .inl (fun _ => 0))), (q3, .inl (z1, 24, .inl (fun _ => 0))), (q4, .inl (z1, 24, .inl (fun _ => 0))), (q5, .inl (z1, 24, .inl (fun _ => 0)))] := hD
  refine lv_aload_n hx hb dX0_init_44 rfl (lv_at hl 0 rfl) ?_
  refine lv_bipush (v := 30) hx hb dX0_init_45 (by decide) ?_
  refine va_put (D := D) (ci := 0) (v := .int 30) (ty := .int) (C := RX0) (T := TX0) (N := 10) hx hb hts hin tyX0 tyX0_ok nmX0 hown hK hP hD hS 0 rfl rfl 8 (by decide) (hts (.fieldLink RX0 25 "SplicedTalk" "patienceLeft" "I") (by decide +kernel)) (fun _ h9 => h9) rfl (by decide +kernel) rfl rfl (Nat.le_of_ble_eq_true rfl) dX0_init_47 (fun H locs hP hD hS => ?_)
  have hP : va_P D vwCl [(h, .inr (0, [.ref q1, .ref q2, .ref q3, .int 0, .ref q4, .ref q5, .int 0, .int 0, .int 30, .int 0])), (q1, .inl (z1, 24, .inl (fun _ => 0))), (q2, .inl (z1, 24, .inl (fun _ => 0))), (q3, .inl (z1, 24, .inl (fun _ => 0))), (q4, .inl (z1, 24, .inl (fun _ => 0))), (q5, .inl (z1, 24, .inl (fun _ => 0)))] H := hP
  have hD : va_D A [(h, .inr (0, [.ref q1, .ref q2, .ref q3, .int 0, .ref q4, .ref q5, .int 0, .int 0, .int 30, .int 0])), (q1, .inl (z1, 24, .inl (fun _ => 0))), (q2, .inl (z1, 24, .inl (fun _ => 0))), (q3, .inl (z1, 24, .inl (fun _ => 0))), (q4, .inl (z1, 24, .inl (fun _ => 0))), (q5, .inl (z1, 24, .inl (fun _ => 0)))] := hD
  refine W.widen (k := 5) (n := 120) (Nat.le_of_ble_eq_true rfl) (Nat.le_of_ble_eq_true rfl) ?_
  exact W.vret hx hb hr (fun t ht hW => ⟨⟨(z1, fun k => [h, q1, q2, q3, q4, q5].getD k 0), rfl, rfl, by show va_P D vwCl _ t.heap; rw [ht]; exact hP, va_K.moved hW.alike hK, hD⟩, hS.F ht⟩) hS.2.2 dX0_init_50
