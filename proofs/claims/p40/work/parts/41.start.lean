/-! own rows: the law's start -/
theorem k_boo {s : State} {args : Array Value} (h : (Cond.arrayClass .boolean).before args s = true) : ∃ cZ : ClassId, ArrOfT s cZ .boolean ∧ va_RA s cZ .boolean := by
  obtain ⟨cA, kA, comp, h1, h2, h3⟩ := Cond.arrayClass_spec h
  exact ⟨cA, fun n z => ⟨fun k h => (by cases h), kA, h2, comp, h3⟩, h1⟩
theorem k_row {s : State} (h : n_O s) : ∃ cA : ClassId, ArrOfT s cA (.array .int) ∧ va_RA s cA (.array .int) := by
  obtain ⟨comp, cA, kA, k3, -, k1, k2, k4⟩ := arrayOverA_spec h
  exact ⟨cA, fun n z => ⟨fun k h => (by cases h), kA, k1, comp, k2⟩, k4⟩
theorem xw_get (cI : ClassId) (ad : Nat → Nat) (n w t pa pe : Int32) (f0 f1 f2 f3 f4 : Nat → Int32) : ∀ k, k < 6 → ∃ x, (xw cI ad n w t pa pe f0 f1 f2 f3 f4)[k]? = some x ∧ x.1 = ad k := fun k hk => by
  rcases (show k = 0 ∨ k = 1 ∨ k = 2 ∨ k = 3 ∨ k = 4 ∨ k = 5 by omega) with rfl | rfl | rfl | rfl | rfl | rfl <;> exact ⟨_, rfl, rfl⟩
set_option maxHeartbeats 4000000 in
set_option maxRecDepth 100000 in
theorem law_start {p : Program} {e : Env} {s : State} {m : MethodId} {below : List Frame} {meth : Method} {c : Code} (l : Launch) {b L : Nat} {xs : Nat → Int32} {Q : State → Prop} (hL : L ≤ 260) (hx : p.tables.exec = Jvm.exec) (hb : c.code = cL_law) (hml : c.maxLocals = 26) (hown : s.vm.findClass RL = some m.cls) (htb : ∀ w ∈ lw_tbl, w.before #[Value.ref b] s = true) (hX : va_X b L xs s s.heap) (hbl : b < s.heap.size)
    (kend : ∀ (H : Heap) (locs : List Loc) (ls : Array Slot), va_S (lA s) s.heap H locs → W p l e room_1 s m #[Value.ref b] below meth c H locs 600172 7300668 Q (F0 m 1058 ls [.int 1])) : W p l e room_1 s m #[Value.ref b] below meth c s.heap [] 0 0 Q (entryFrame m ([Value.ref b] : List Value).toArray 26) := by
  have hts : ∀ w ∈ wsL_law, w.before #[Value.ref b] s = true := fun w h => htb w (wsL_law_in w h)
  have hA : ∀ q : Nat, s.heap.size ≤ q → lA s q := fun _ h => h
  have hHX : ∀ {H : Heap} {locs : List Loc}, va_S (lA s) s.heap H locs → va_X b L xs s H := fun hS => va_X.kept hX (hS.2.1 b hbl (Nat.not_le.mpr hbl))
  have hO : n_O s := n_O.of (htb (.arrayOver (.array .int)) (by decide +kernel))
  have hZN : z_N s := va_Nw.of rfl (htb (.methodLinkNest RL 71 yX1_init RL) (by decide +kernel))
  obtain ⟨cA, hcA⟩ := k_row hO
  obtain ⟨cZ, hcZ⟩ := k_boo (hts (.arrayClass .boolean) (by decide +kernel))
  obtain ⟨c0, iS0, hKn0⟩ := u_known (C := RX0) (T := TX0) (N := 10) (n := 10) htb inX0 (hts (.instantiable RX0 10) (by decide +kernel))
  obtain ⟨c1, iS1, hKn1⟩ := u_known (C := RX1) (T := TX1) (N := 3) (n := 3) htb inX1 (hts (.instantiable RX1 3) (by decide +kernel))
  obtain ⟨D, hKc⟩ : ∃ (D : va_G), ∀ (k : Nat) (q : vw_C), vwCl[k]? = some q → u_Kn s q.1 q.2.1 q.2.2 (D.1 k) (D.2 k) := by
    refine ⟨(fun k => if k = 0 then c0 else c1, fun k => if k = 0 then iS0 else iS1), ?_⟩
    intro k q hq
    match k, hq with
    | 0, hq => cases hq; exact hKn0
    | 1, hq => cases hq; exact hKn1
    | k + 2, hq => simp [vwCl] at hq
  have hS : va_S (lA s) s.heap s.heap [] := va_S.rf
  have hK : va_K D vwCl [] s := ⟨hKc, fun k q h => by simp at h⟩
  have hP : va_P D vwCl [] s.heap := fun k q h => by simp at h
  have hD : va_D (lA s) [] := ⟨fun i j p q h => by simp at h, fun k q h => by simp at h⟩
  have hl := lv_entry ([.ref b]) (n := 26) (Nat.le_of_ble_eq_true rfl)
  rw [lg_entry_eq]
  generalize (lg_sl ([.ref b]) ++ List.replicate (26 - (lg_sl ([.ref b])).length) Slot.unset).toArray = ls at hl ⊢
  have hl : lv_has ls 26 [(0, .ref b)] := hl
  refine va_new (D := D) (ci := 0) (fs := [.null, .null, .null, .int 0, .null, .null, .int 0, .int 0, .int 0, .int 0]) (C := RX0) (T := TX0) (N := 10) hx hb htb inX0 tyX0 tyX0_ok hown (hts (.classLink RL 30 RX0) (by decide +kernel)) (hts (.instantiable RX0 10) (by decide +kernel)) (hts (.initialized RX0) (by decide +kernel)) hK hP hD hS hA rfl (fun j hj => by rcases (show j = 0 ∨ j = 1 ∨ j = 2 ∨ j = 3 ∨ j = 4 ∨ j = 5 ∨ j = 6 ∨ j = 7 ∨ j = 8 ∨ j = 9 by omega) with rfl | rfl | rfl | rfl | rfl | rfl | rfl | rfl | rfl | rfl <;> rfl) (Nat.le_of_ble_eq_true rfl) (Nat.le_of_ble_eq_true rfl) dL_law_0 (fun q0 H hP hD hS => ?_)
  have hP : va_P D vwCl (x_w0 q0) H := hP
  have hD : va_D (lA s) (x_w0 q0) := hD
  refine W.widen (k := 1) (n := 10) (by omega) (by omega) ?_
  refine lv_dup hx hb dL_law_3 rfl ?_
  have hFc := va_free (wc := x_w0 q0) hD hS hA [0] rfl
  refine va_callv (va_runI (As := []) (rest := [.ref q0]) ⟨hx, hb, hml, hown, hts⟩ (c_X0_init l D q0 H.size) (cwI 0 hts gL_law_X0_init rfl rfl rfl (hts (.initialized RX0) (by decide +kernel)) (hts (.methodLink RL 80 yX0_init) (by decide +kernel)) (hts (.instanceMethod yX0_init) (by decide +kernel)) rfl (by decide +kernel) ⟨Nat.le_of_ble_eq_true rfl, Nat.le_of_ble_eq_true rfl⟩) ⟨m_B_blind, fun U hU hW => ⟨rfl, by rw [hU], ⟨by rw [hU]; exact hP, va_K.moved hW.alike hK⟩, hD.weaken (fun _ _ _ _ => trivial)⟩⟩ rfl rfl hl.1 rfl (lv_room (Nat.le_of_ble_eq_true rfl)) dL_law_4 ⟨Nat.le_of_ble_eq_true rfl, Nat.le_of_ble_eq_true rfl⟩) hS (fun q _ h => hFc q h) hFc (fun u t H1 locs ht hvm hw hB hz1 hk1 hS => ?_)
  obtain ⟨cI, ad⟩ := u
  have hw : ad 0 = q0 := hw
  subst hw
  obtain ⟨hP1, hK1, hD1⟩ := hB
  rw [ht] at hP1
  have hK1 := va_K.moved hvm.symm hK1
  obtain ⟨hP, hD⟩ := va_join (wr := []) (w1 := xw cI ad 0 0 0 30 0 x_z x_z x_z x_z x_z) hP hD [0] [] rfl rfl (by decide) (by decide) hk1 hFc hP1 hD1
  have hK := hK.app hK1
  generalize H1 = H at hP hS ⊢
  have hP : va_P D vwCl (xw cI ad 0 0 0 30 0 x_z x_z x_z x_z x_z) H := hP
  have hD : va_D (lA s) (xw cI ad 0 0 0 30 0 x_z x_z x_z x_z x_z) := hD
  have hK : va_K D vwCl (lt3 cI cA cZ) s := by
    refine ⟨hK.1, fun k q h => ?_⟩
    match k, h with
    | 0, h => cases h; exact hK.2 0 _ rfl
    | 1, h => cases h; exact hcA
    | 2, h => cases h; exact hcZ
    | k + 3, h => cases h
  have hinj : ∀ i j, i < 6 → j < 6 → ad i = ad j → i = j := fun i j hi hj e => by
    obtain ⟨x, h1, e1⟩ := xw_get cI ad 0 0 0 30 0 x_z x_z x_z x_z x_z i hi
    obtain ⟨y, h2, e2⟩ := xw_get cI ad 0 0 0 30 0 x_z x_z x_z x_z x_z j hj
    exact hD.1 i j x y h1 h2 (by rw [e1, e2]; exact e)
  have hta : ∀ k, k < 6 → s.heap.size ≤ ad k := fun k hk => by
    obtain ⟨x, h1, e1⟩ := xw_get cI ad 0 0 0 30 0 x_z x_z x_z x_z x_z k hk
    have h9 : s.heap.size ≤ x.1 := hD.2 k x h1
    rw [← e1]
    exact h9
  have hbk : ∀ k, k < 6 → b ≠ ad k := fun k hk e => by
    have := hta k hk
    omega
  refine W.widen (k := 6) (n := 130) (by omega) (by omega) ?_
  refine lv_astore_n (lv' := [(1, .ref (ad 0)), (0, .ref b)]) hx hb dL_law_7 rfl hl (by decide) rfl (fun ls hl => ?_)
  refine lv_aload_n hx hb dL_law_8 rfl (lv_at hl 0 rfl) ?_
  refine lv_aload_n hx hb dL_law_9 rfl (lv_at hl 1 rfl) ?_
  have hC9 : ∀ {q1 : Nat}, q1 = H.size → lC p s m c #[Value.ref b] b L xs D cI cA cZ ad q1 := fun h => by
    subst h
    exact ⟨hx, hb, hml, hts, hown, hK, hO, ⟨xw_lt hP, hinj⟩, hta, hS.1, hX, hbl, by omega⟩
  refine e_callSR (As := [.ref (ad 0), .ref b]) (rest := []) ⟨hx, hb, hml, hown, hts⟩ (c_L_build l D cI cA ad b L xs (by omega) hinj hbk) (va_cwS 2 hts gL_law_L_build rfl rfl rfl ks_L_build ⟨Nat.le_of_ble_eq_true rfl, Nat.le_of_ble_eq_true rfl⟩) pB.mv (fun U hU hW => ⟨pX_at (hHX hS) U hU hW, by rw [hU]; exact hP, z_N.warm hW hZN⟩) (hK.sub [0, 1] rfl) hO (fun q h => h.elim (fun k h => by show s.heap.size ≤ q; rw [h.2]; exact hta k h.1)) hA rfl hl.1 rfl (Nat.le_of_ble_eq_true rfl) dL_law_10 (Nat.le_of_ble_eq_true rfl) (Nat.le_of_ble_eq_true rfl) hS (fun _ S H2 locs HZ hz hk hS => ?_)
  have hC := hC9 rfl
  have HZ : zST D cI cA ad S H.size H2 := HZ
  refine lv_astore_n (lv' := [(2, .ref S), (1, .ref (ad 0)), (0, .ref b)]) hx hb dL_law_13 rfl hl (by decide) rfl (fun ls hl => ?_)
  refine lv_aload_n hx hb dL_law_14 rfl (lv_at hl 0 rfl) ?_
  refine lv_ifnonnull (tgt := 20) hx hb dL_law_15 (by decide) ?_
  refine lv_iconst (v := 0) hx hb dL_law_20 (by decide) ?_
  refine lv_istore_n (lv' := [(3, .int 0), (2, .ref S), (1, .ref (ad 0)), (0, .ref b)]) hx hb dL_law_21 rfl hl (by decide) rfl (fun ls hl => ?_)
  refine W.widen (k := 2000 + 70 * 0) (n := 12000 + 600 * 0) (by omega) (by omega) ?_
  exact law_loop hC kend H2 locs ls HZ hS (lv_sub hl [0, 3, 2, 1] rfl)
