/-! own rows: the law's start -/
theorem l_strs : ∀ q ∈ t_strs, Cond.stringRef "SplicedTalk" q.1 q.2 ∈ lw_tbl := by decide +kernel
theorem l_start_Z {s : State} {args : Array Value} {cur : Nat} (htb : ∀ w ∈ lw_tbl, w.before args s = true) (hg : (Jvm.Cond.and given_1 narrow_1).before args s = true) (hfc : s.vm.findClass "SplicedTalk" = some cur) : (∃ sa : Nat → Nat, t_Z sa s s.heap) ∧ l_N s := by
  have hf := flat_of_before _ hg
  have hstr : ∀ k tx, (k, tx) ∈ t_strs → (Cond.stringRef "SplicedTalk" k tx).before args s = true := fun k tx hm => htb _ (l_strs (k, tx) hm)
  have hs : ∀ k : Nat, ∃ a : Nat, ∀ tx, (k, tx) ∈ t_strs → vk_R "SplicedTalk" k tx a s := by
    intro k
    by_cases h : ∃ tx, (k, tx) ∈ t_strs
    · obtain ⟨tx, hm⟩ := h
      obtain ⟨_, _, _, a, -, -, -, -, -, hev⟩ := Cond.stringRef_spec hfc (hstr k tx hm)
      exact ⟨a, fun tx' hm' => vk_R.of (hstr k tx' hm') hev⟩
    · exact ⟨0, fun tx hm => absurd ⟨tx, hm⟩ h⟩
  obtain ⟨sa, hsa⟩ := Classical.axiomOfChoice hs
  refine ⟨⟨sa, vx_Zqof (htb _ (by decide +kernel)) (htb _ (by decide +kernel)) (hf _ (by decide +kernel)) (fun _ _ h => h), vx_Zqof (htb _ (by decide +kernel)) (htb _ (by decide +kernel)) (hf _ (by decide +kernel)) (fun _ _ h => h), ?_, ⟨?_, ?_, ?_⟩, fun q hq => hsa q.1 q.2 hq⟩, va_Nc.of (hf _ (by decide +kernel)), va_Nc.of (hf _ (by decide +kernel)), va_Nc.of (hf _ (by decide +kernel))⟩
  · intro E hE
    rcases hE with rfl | rfl | rfl
    · exact va_Nw.of rfl (htb _ (by decide +kernel))
    · exact va_Nw.of rfl (htb _ (by decide +kernel))
    · exact va_Nw.of rfl (htb _ (by decide +kernel))
  · exact va_Nw.of rfl (htb _ (by decide +kernel))
  · exact va_Nw.of rfl (htb _ (by decide +kernel))
  · exact va_Nw.of rfl (htb _ (by decide +kernel))
set_option maxHeartbeats 4000000 in
set_option maxRecDepth 100000 in
theorem law_start {p : Program} {e : Env} {s : State} {m : MethodId} {below : List Frame} {meth : Method} {c : Code} (l : Launch) (hst : l.stackTraces = false) {b L : Nat} {xs : Nat → Int32} {Q : State → Prop} (hL : L ≤ 1536) (hx : p.tables.exec = Jvm.exec) (hb : c.code = cL_law) (hml : c.maxLocals = 9) (hown : s.vm.findClass RL = some m.cls) (htb : ∀ w ∈ lw_tbl, w.before #[Value.ref b] s = true) (hX : va_X b L xs s s.heap) (hbl : b < s.heap.size)
    (hg : (Jvm.Cond.and given_1 narrow_1).before #[Value.ref b] s = true) (kend : ∀ (H : Heap) (locs : List Loc) (ls : Array Slot), va_S (lA s) s.heap H locs → W p l e room_1 s m #[Value.ref b] below meth c H locs 650192 7145529 Q (F0 m 1814 ls [])) : W p l e room_1 s m #[Value.ref b] below meth c s.heap [] 0 0 Q (entryFrame m ([Value.ref b] : List Value).toArray 9) := by
  have hts : ∀ w ∈ wsL_law, w.before #[Value.ref b] s = true := fun w h => htb w (wsL_law_in w h)
  have hA : ∀ q : Nat, s.heap.size ≤ q → lA s q := fun _ h => h
  obtain ⟨c0, iS0, hKn0⟩ := u_known (C := RX0) (T := TX0) (N := 10) (n := 10) htb inX0 (htb (.instantiable RX0 10) (by decide +kernel))
  obtain ⟨c1, iS1, hKn1⟩ := u_known (C := RX1) (T := TX1) (N := 7) (n := 7) htb inX1 (htb (.instantiable RX1 7) (by decide +kernel))
  obtain ⟨⟨sa, hZ⟩, hN9⟩ := l_start_Z htb hg hKn0.2.1
  obtain ⟨D, hKc⟩ : ∃ (D : va_G), ∀ (k : Nat) (q : vw_C), vwCl[k]? = some q → u_Kn s q.1 q.2.1 q.2.2 (D.1 k) (D.2 k) := by
    refine ⟨(fun k => if k = 0 then c0 else c1, fun k => if k = 0 then iS0 else iS1), ?_⟩
    intro k q hq
    match k, hq with
    | 0, hq => cases hq; exact hKn0
    | 1, hq => cases hq; exact hKn1
    | k + 2, hq => simp [vwCl] at hq
  have hS : va_S (lA s) s.heap s.heap [] := va_S.rf
  have hK : va_K D vwCl [] s := ⟨hKc, fun k q h => by simp at h⟩
  have hP : va_P D vwCl [] s.heap := fun k q h => by simp at h
  have hD : va_D (lA s) [] := ⟨fun i j p q h => by simp at h, fun k q h => by simp at h⟩
  have hl := lv_entry ([.ref b]) (n := 9) (Nat.le_of_ble_eq_true rfl)
  rw [lg_entry_eq]
  generalize (lg_sl ([.ref b]) ++ List.replicate (9 - (lg_sl ([.ref b])).length) Slot.unset).toArray = ls at hl ⊢
  have hl : lv_has ls 9 [(0, .ref b)] := hl
  refine va_new (D := D) (ci := 0) (fs := [.null, .null, .null, .int 0, .null, .null, .int 0, .int 0, .int 0, .int 0]) (C := RX0) (T := TX0) (N := 10) hx hb htb inX0 tyX0 tyX0_ok hown (htb (.classLink RL 8 RX0) (by decide +kernel)) (htb (.instantiable RX0 10) (by decide +kernel)) (htb (.initialized RX0) (by decide +kernel)) hK hP hD hS hA rfl (fun j hj => by rcases (show j = 0 ∨ j = 1 ∨ j = 2 ∨ j = 3 ∨ j = 4 ∨ j = 5 ∨ j = 6 ∨ j = 7 ∨ j = 8 ∨ j = 9 by omega) with rfl | rfl | rfl | rfl | rfl | rfl | rfl | rfl | rfl | rfl <;> rfl) (Nat.le_of_ble_eq_true rfl) (Nat.le_of_ble_eq_true rfl) dL_law_0 (fun q0 H hP hD hS => ?_)
  have hP : va_P D vwCl (x_w0 q0) H := hP
  have hD : va_D (lA s) (x_w0 q0) := hD
  refine W.widen (k := 1) (n := 10) (by omega) (by omega) ?_
  refine lv_dup hx hb dL_law_3 rfl ?_
  have hFc := va_free (wc := x_w0 q0) hD hS hA [0] rfl
  refine va_callv (va_runI (As := []) (rest := [.ref q0]) ⟨hx, hb, hml, hown, hts⟩ (c_X0_init l D q0 H.size) (cwI 0 hts gL_law_X0_init rfl rfl rfl (htb (.initialized RX0) (by decide +kernel)) (htb (.methodLink RL 91 yX0_init) (by decide +kernel)) (htb (.instanceMethod yX0_init) (by decide +kernel)) rfl (by decide +kernel) ⟨Nat.le_of_ble_eq_true rfl, Nat.le_of_ble_eq_true rfl⟩) ⟨m_B_blind, fun U hU hW => ⟨rfl, by rw [hU], ⟨by rw [hU]; exact hP, va_K.moved hW.alike hK⟩, hD.weaken (fun _ _ _ _ => trivial)⟩⟩ rfl rfl hl.1 rfl (lv_room (Nat.le_of_ble_eq_true rfl)) dL_law_4 ⟨Nat.le_of_ble_eq_true rfl, Nat.le_of_ble_eq_true rfl⟩) hS (fun q _ h => hFc q h) hFc (fun u t H1 locs ht hvm hw hB hz1 hk1 hS => ?_)
  obtain ⟨cI, ad⟩ := u
  have hw : ad 0 = q0 := hw
  subst hw
  obtain ⟨hP1, hK1, hD1⟩ := hB
  rw [ht] at hP1
  have hK1 := va_K.moved hvm.symm hK1
  obtain ⟨hP, hD⟩ := va_join (wr := []) (w1 := xw cI ad 0 0 0 30 0 x_z x_z x_z x_z x_z) hP hD [0] [] rfl rfl (by decide) (by decide) hk1 hFc hP1 hD1
  have hK := hK.app hK1
  generalize H1 = H at hP hS ⊢
  have hP : va_P D vwCl (xw cI ad 0 0 0 30 0 x_z x_z x_z x_z x_z) H := hP
  have hD : va_D (lA s) (xw cI ad 0 0 0 30 0 x_z x_z x_z x_z x_z) := hD
  have hK : va_K D vwCl [(cI, .int)] s := hK
  refine W.widen (k := 6) (n := 130) (by omega) (by omega) ?_
  refine lv_astore_n (lv' := [(1, .ref (ad 0)), (0, .ref b)]) hx hb dL_law_7 rfl hl (by decide) rfl (fun ls hl => ?_)
  refine va_new (D := D) (ci := 1) (fs := [.int 0, .int 0, .int 0, .int 0, .null, .null, .null]) (C := RX1) (T := TX1) (N := 7) hx hb htb inX1 tyX1 tyX1_ok hown (htb (.classLink RL 92 RX1) (by decide +kernel)) (htb (.instantiable RX1 7) (by decide +kernel)) (htb (.initialized RX1) (by decide +kernel)) hK hP hD hS hA rfl (fun j hj => by rcases (show j = 0 ∨ j = 1 ∨ j = 2 ∨ j = 3 ∨ j = 4 ∨ j = 5 ∨ j = 6 by omega) with rfl | rfl | rfl | rfl | rfl | rfl | rfl <;> rfl) (Nat.le_of_ble_eq_true rfl) (Nat.le_of_ble_eq_true rfl) dL_law_8 (fun q1 H hP hD hS => ?_)
  refine W.widen (k := 7) (n := 137) (by omega) (by omega) ?_
  refine lv_dup hx hb dL_law_11 rfl ?_
  have hPc := hP.sub (ws' := [(q1, .inr (1, [.int 0, .int 0, .int 0, .int 0, .null, .null, .null]))]) [6] rfl
  have hDc := hD.sub (ws' := [(q1, .inr (1, [.int 0, .int 0, .int 0, .int 0, .null, .null, .null]))]) [6] (by decide) rfl
  have hFc := va_free (wc := [(q1, .inr (1, [.int 0, .int 0, .int 0, .int 0, .null, .null, .null]))]) hD hS hA [6] rfl
  have hKc0 := hK.sub (tys' := []) [] rfl
  refine va_callv (va_runI (As := []) (rest := [.ref q1]) ⟨hx, hb, hml, hown, hts⟩ (c_X1_init l D q1 H.size) (cwI 0 hts gL_law_X1_init rfl rfl rfl (htb (.initialized RX1) (by decide +kernel)) (htb (.methodLink RL 94 yX1_init) (by decide +kernel)) (htb (.instanceMethod yX1_init) (by decide +kernel)) rfl (by decide +kernel) ⟨Nat.le_of_ble_eq_true rfl, Nat.le_of_ble_eq_true rfl⟩) ⟨m_B_blind, fun U hU hW => ⟨rfl, by rw [hU], ⟨by rw [hU]; exact hPc, va_K.moved hW.alike hKc0⟩, hDc.weaken (fun _ _ _ _ => trivial)⟩⟩ rfl rfl hl.1 rfl (lv_room (Nat.le_of_ble_eq_true rfl)) dL_law_12 ⟨Nat.le_of_ble_eq_true rfl, Nat.le_of_ble_eq_true rfl⟩) hS (fun q _ h => hFc q h) hFc (fun u t H1 locs ht hvm hw hB hz1 hk1 hS => ?_)
  obtain ⟨⟨cI2, cZ⟩, ad2⟩ := u
  have hw : ad2 0 = q1 := hw
  subst hw
  obtain ⟨hP1, hK1, hD1⟩ := hB
  rw [ht] at hP1
  have hK1 := va_K.moved hvm.symm hK1
  obtain ⟨hP, hD⟩ := va_join (wr := xw cI ad 0 0 0 30 0 x_z x_z x_z x_z x_z) (w1 := mw cI2 cZ ad2 0 0 30 0 x_z x_z x_z) hP hD [6] [0, 1, 2, 3, 4, 5] rfl rfl (by decide) (by decide) hk1 hFc hP1 hD1
  have hK := hK.app hK1
  generalize H1 = H at hP hS ⊢
  have hK : va_K D vwCl [(cI, .int), (cI2, .int), (cZ, .boolean)] s := hK
  have e9 : cI = cI2 := Option.some.inj (Eq.trans (show some cI = s.vm.findClass ("[" ++ FieldType.int.toString) from (hK.2 0 _ rfl).2.symm) (hK.2 1 _ rfl).2)
  subst e9
  refine W.widen (k := 10) (n := 212) (by omega) (by omega) ?_
  refine lv_astore_n (lv' := [(2, .ref (ad2 0)), (1, .ref (ad 0)), (0, .ref b)]) hx hb dL_law_15 rfl hl (by decide) rfl (fun ls hl => ?_)
  refine lv_iconst (v := 1) hx hb dL_law_16 (by decide) ?_
  refine va_newa (atype := .long) hx hb (htb (.arrayClass .long) (by decide +kernel)) (ty := .long) rfl hK hP hD hS hA (N' := 1) (a0 := (1, .inr (.inl (fun _ => 0)))) (fun cA => rfl) (by decide) (by decide) (Nat.le_of_ble_eq_true rfl) (Nat.le_of_ble_eq_true rfl) (Nat.le_of_ble_eq_true rfl) dL_law_17 (fun o cJ H hK hP hD hS => ?_)
  refine lv_astore_n (lv' := [(3, .ref o), (2, .ref (ad2 0)), (1, .ref (ad 0)), (0, .ref b)]) hx hb dL_law_19 rfl hl (by decide) rfl (fun ls hl => ?_)
  refine lv_iconst (v := 0) hx hb dL_law_20 (by decide) ?_
  refine lv_istore (lv' := [(4, .int 0), (3, .ref o), (2, .ref (ad2 0)), (1, .ref (ad 0)), (0, .ref b)]) hx hb dL_law_21 hl (by decide) rfl (fun ls hl => ?_)
  have hK : va_K D vwCl [(cI, .int), (cJ, .long), (cZ, .boolean)] s := hK.sub [0, 3, 2] rfl
  have hP : va_P D vwCl (lW cI cJ cZ ad ad2 o 0 0 0 30 0 x_z x_z x_z x_z x_z (fun _ => 0) 0 x_z x_z x_z) H := hP.sub [0, 1, 2, 3, 4, 5, 10, 6, 7, 8, 9] rfl
  have hD : va_D (lA s) (lW cI cJ cZ ad ad2 o 0 0 0 30 0 x_z x_z x_z x_z x_z (fun _ => 0) 0 x_z x_z x_z) := hD.sub [0, 1, 2, 3, 4, 5, 10, 6, 7, 8, 9] (by decide) rfl
  rw [← nI_0] at hl
  have z : ∀ k : Nat, ¬ k < 0 := Nat.not_lt_zero
  have h0 : Ra 0 x_z x_z x_z x_z x_z x_z := ⟨by omega, fun k hk => absurd hk (z k), fun k hk => absurd hk (z k), fun k hk => absurd hk (z k), fun k hk => absurd hk (z k), fun k hk => absurd hk (z k)⟩
  have r0 : Rw 0 x_z x_z x_z x_z x_z 0 0 := ⟨nI_0.symm, fun k hk => absurd hk (z k), fun k hk => absurd hk (z k), nI_0.symm⟩
  refine W.widen (k := 20 + 24 * 0) (n := 300 + 125 * 0) (by omega) (by omega) ?_
  exact law_loop ⟨hx, hb, hml, hown, hts, hX, hbl, hK, hZ, hN9, hst, hL⟩ kend (L + 1) 0 (by omega) (by omega) 0 0 0 30 0 x_z x_z x_z x_z x_z (fun _ => 0) 0 x_z x_z x_z H locs ls h0 r0 (by rw [nI_0]; exact hP) (by rw [nI_0]; exact hD) hS hl
