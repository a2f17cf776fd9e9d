/-! own rows, written by wip/whole/xro.py: the class's methods that only read, the rest -/
theorem kv_X0_brokenChangeBySplice : yX0_brokenChangeBySplice.cls = RX0 ∧ yX0_brokenChangeBySplice.cls ≠ "java/lang/invoke/MethodHandle" ∧ yX0_brokenChangeBySplice.cls ≠ "java/lang/invoke/VarHandle" ∧ (parseMethodDescriptor yX0_brokenChangeBySplice.desc).map (fun d => d.parameters.length) = some 1 := by decide +kernel
theorem ks_X0_brokenChangeBySplice : yX0_brokenChangeBySplice.cls ≠ "java/lang/invoke/MethodHandle" ∧ yX0_brokenChangeBySplice.cls ≠ "java/lang/invoke/VarHandle" ∧ (parseMethodDescriptor yX0_brokenChangeBySplice.desc).map (fun d => d.parameters.length) = some 1 := kv_X0_brokenChangeBySplice.2
set_option maxHeartbeats 4000000 in
set_option maxRecDepth 100000 in
theorem c_X0_brokenChangeBySplice (l : Launch) (D : va_G) (cI : ClassId) (ad : Nat → Nat) (n : Int32) (w : Int32) (t : Int32) (pa pe : Int32) (f0 f1 f2 f3 f4 : Nat → Int32) (x1 : Int32) : q_I l yX0_brokenChangeBySplice wsX0_brokenChangeBySplice ({ frames := 4, cells := 0, slots := 0, locals := 85 } : Room) D ([(cI, .int)]) (xw cI ad n w t pa pe f0 f1 f2 f3 f4) [.ref (ad 0), .int x1] (x_bc f0 f1 f2 f3 x1) := by
  refine q_startI (cc := cX0_brokenChangeBySplice) (maxL := 8) (rt := .int) (by decide) rfl (Nat.le_of_ble_eq_true rfl) ?_
  intro p e s m below meth c hx hb hml hr hts hown hlocks hK H locs ls hP hS hl
  have hin : ∀ w ∈ wsX00, w ∈ wsX0_brokenChangeBySplice := by decide +kernel
  have hl : lv_has ls 8 [(0, .ref (ad 0)), (1, .int x1)] := hl
  refine lv_aload_n hx hb dX0_brokenChangeBySplice_0 rfl (lv_at hl 0 rfl) ?_
  refine lv_iload_n hx hb dX0_brokenChangeBySplice_1 rfl (lv_at hl 1 rfl) ?_
  refine q_callV (As := [.int x1]) (rest := []) ⟨hx, hb, hml, hown, hts⟩ (c_X0_kindOfGap l D cI ad n w t pa pe f0 f1 f2 f3 f4 x1) (cwV 1 hts gX0_brokenChangeBySplice_X0_kindOfGap rfl rfl rfl kv_X0_kindOfGap ⟨Nat.le_of_ble_eq_true rfl, Nat.le_of_ble_eq_true rfl⟩) (va_recv hK hP (ci := 0) (q0 := 0) rfl rfl) hP hK rfl hl.1 rfl (Nat.le_of_ble_eq_true rfl) dX0_brokenChangeBySplice_2 (Nat.zero_le _) (Nat.zero_le _) hS (fun H locs hsm hS => ?_)
  have hP := hsm.P hP
  refine lv_iconst (v := 2) hx hb dX0_brokenChangeBySplice_5 (by decide) ?_
  suffices K_6 : ∀ v9 : Int32, v9 = (bI (decide ((x_kg f0 f1 f2 f3 x1) = 2))) → W p l e ({ frames := 4, cells := 0, slots := 0, locals := 85 } : Room) s m [.ref (ad 0), .int x1].toArray below meth c H locs 0 0 (q_EI below [.ref (ad 0), .int x1].toArray s (x_bc f0 f1 f2 f3 x1)) (F0 m 14 ls [.int v9]) from by
    refine lv_icmp_ne (tgt := 13) hx hb dX0_brokenChangeBySplice_6 (by decide) (fun c_6 => ?_) (fun c_6 => ?_)
    · refine lv_iconst (v := 0) hx hb dX0_brokenChangeBySplice_13 (by decide) ?_
      exact K_6 _ (bI_df c_6)
    · refine lv_iconst (v := 1) hx hb dX0_brokenChangeBySplice_9 (by decide) ?_
      refine lv_goto (tgt := 14) hx hb dX0_brokenChangeBySplice_10 (by decide) ?_
      exact K_6 _ (bI_dt c_6)
  intro v9 hv9
  rw [hv9]; clear hv9
  refine lv_istore_n (lv' := [(2, .int (bI (decide ((x_kg f0 f1 f2 f3 x1) = 2)))), (0, .ref (ad 0)), (1, .int x1)]) hx hb dX0_brokenChangeBySplice_14 rfl hl (by decide) rfl (fun ls hl => ?_)
  refine lv_aload_n hx hb dX0_brokenChangeBySplice_15 rfl (lv_at hl 1 rfl) ?_
  refine lv_iload_n hx hb dX0_brokenChangeBySplice_16 rfl (lv_at hl 2 rfl) ?_
  refine q_callV (As := [.int x1]) (rest := []) ⟨hx, hb, hml, hown, hts⟩ (c_X0_topicOfWord l D cI ad n w t pa pe f0 f1 f2 f3 f4 x1) (cwV 1 hts gX0_brokenChangeBySplice_X0_topicOfWord rfl rfl rfl kv_X0_topicOfWord ⟨Nat.le_of_ble_eq_true rfl, Nat.le_of_ble_eq_true rfl⟩) (va_recv hK hP (ci := 0) (q0 := 0) rfl rfl) hP hK rfl hl.1 rfl (Nat.le_of_ble_eq_true rfl) dX0_brokenChangeBySplice_17 (Nat.zero_le _) (Nat.zero_le _) hS (fun H locs hsm hS => ?_)
  have hP := hsm.P hP
  refine lv_aload_n hx hb dX0_brokenChangeBySplice_20 rfl (lv_at hl 1 rfl) ?_
  refine lv_iload_n hx hb dX0_brokenChangeBySplice_21 rfl (lv_at hl 2 rfl) ?_
  refine lv_iconst (v := 1) hx hb dX0_brokenChangeBySplice_22 (by decide) ?_
  refine lv_iadd hx hb dX0_brokenChangeBySplice_23 ?_
  refine q_callV (As := [.int (x1 + 1)]) (rest := [.int (x_tp f1 f3 x1)]) ⟨hx, hb, hml, hown, hts⟩ (c_X0_topicOfWord l D cI ad n w t pa pe f0 f1 f2 f3 f4 (x1 + 1)) (cwV 1 hts gX0_brokenChangeBySplice_X0_topicOfWord rfl rfl rfl kv_X0_topicOfWord ⟨Nat.le_of_ble_eq_true rfl, Nat.le_of_ble_eq_true rfl⟩) (va_recv hK hP (ci := 0) (q0 := 0) rfl rfl) hP hK rfl hl.1 rfl (Nat.le_of_ble_eq_true rfl) dX0_brokenChangeBySplice_24 (Nat.zero_le _) (Nat.zero_le _) hS (fun H locs hsm hS => ?_)
  have hP := hsm.P hP
  refine q_callS (As := [.int (x_tp f1 f3 x1), .int (x_tp f1 f3 (x1 + 1))]) (rest := []) ⟨hx, hb, hml, hown, hts⟩ (c_X0_topicBetween l D (x_tp f1 f3 x1) (x_tp f1 f3 (x1 + 1))) (va_cwS 2 hts gX0_brokenChangeBySplice_X0_topicBetween rfl rfl rfl ks_X0_topicBetween ⟨Nat.le_of_ble_eq_true rfl, Nat.le_of_ble_eq_true rfl⟩) (hP.sub [] rfl) (hK.sub [] rfl) rfl hl.1 rfl (Nat.le_of_ble_eq_true rfl) dX0_brokenChangeBySplice_27 (Nat.zero_le _) (Nat.zero_le _) hS (fun H locs hsm hS => ?_)
  have hP := hsm.P hP
  refine lv_istore_n (lv' := [(3, .int (x_btw (x_tp f1 f3 x1) (x_tp f1 f3 (x1 + 1)))), (2, .int (bI (decide ((x_kg f0 f1 f2 f3 x1) = 2)))), (0, .ref (ad 0)), (1, .int x1)]) hx hb dX0_brokenChangeBySplice_30 rfl hl (by decide) rfl (fun ls hl => ?_)
  refine lv_aload_n hx hb dX0_brokenChangeBySplice_31 rfl (lv_at hl 2 rfl) ?_
  refine lv_iload_n hx hb dX0_brokenChangeBySplice_32 rfl (lv_at hl 3 rfl) ?_
  refine q_callV (As := [.int x1]) (rest := []) ⟨hx, hb, hml, hown, hts⟩ (c_X0_topicOfWord l D cI ad n w t pa pe f0 f1 f2 f3 f4 x1) (cwV 1 hts gX0_brokenChangeBySplice_X0_topicOfWord rfl rfl rfl kv_X0_topicOfWord ⟨Nat.le_of_ble_eq_true rfl, Nat.le_of_ble_eq_true rfl⟩) (va_recv hK hP (ci := 0) (q0 := 0) rfl rfl) hP hK rfl hl.1 rfl (Nat.le_of_ble_eq_true rfl) dX0_brokenChangeBySplice_33 (Nat.zero_le _) (Nat.zero_le _) hS (fun H locs hsm hS => ?_)
  have hP := hsm.P hP
  refine lv_iload_n hx hb dX0_brokenChangeBySplice_36 rfl (lv_at hl 0 rfl) ?_
  refine q_callS (As := [.int (x_tp f1 f3 x1), .int (x_btw (x_tp f1 f3 x1) (x_tp f1 f3 (x1 + 1)))]) (rest := []) ⟨hx, hb, hml, hown, hts⟩ (c_X0_topicDistance l D (x_tp f1 f3 x1) (x_btw (x_tp f1 f3 x1) (x_tp f1 f3 (x1 + 1)))) (va_cwS 2 hts gX0_brokenChangeBySplice_X0_topicDistance rfl rfl rfl ks_X0_topicDistance ⟨Nat.le_of_ble_eq_true rfl, Nat.le_of_ble_eq_true rfl⟩) (hP.sub [] rfl) (hK.sub [] rfl) rfl hl.1 rfl (Nat.le_of_ble_eq_true rfl) dX0_brokenChangeBySplice_37 (Nat.zero_le _) (Nat.zero_le _) hS (fun H locs hsm hS => ?_)
  have hP := hsm.P hP
  refine lv_istore (lv' := [(4, .int (x_ds (x_tp f1 f3 x1) (x_btw (x_tp f1 f3 x1) (x_tp f1 f3 (x1 + 1))))), (3, .int (x_btw (x_tp f1 f3 x1) (x_tp f1 f3 (x1 + 1)))), (2, .int (bI (decide ((x_kg f0 f1 f2 f3 x1) = 2)))), (0, .ref (ad 0)), (1, .int x1)]) hx hb dX0_brokenChangeBySplice_40 hl (by decide) rfl (fun ls hl => ?_)
  refine lv_iload_n hx hb dX0_brokenChangeBySplice_42 rfl (lv_at hl 1 rfl) ?_
  refine lv_aload_n hx hb dX0_brokenChangeBySplice_43 rfl (lv_at hl 3 rfl) ?_
  refine lv_iload_n hx hb dX0_brokenChangeBySplice_44 rfl (lv_at hl 4 rfl) ?_
  refine lv_iconst (v := 1) hx hb dX0_brokenChangeBySplice_45 (by decide) ?_
  refine lv_iadd hx hb dX0_brokenChangeBySplice_46 ?_
  refine q_callV (As := [.int (x1 + 1)]) (rest := [.int (x_btw (x_tp f1 f3 x1) (x_tp f1 f3 (x1 + 1)))]) ⟨hx, hb, hml, hown, hts⟩ (c_X0_topicOfWord l D cI ad n w t pa pe f0 f1 f2 f3 f4 (x1 + 1)) (cwV 1 hts gX0_brokenChangeBySplice_X0_topicOfWord rfl rfl rfl kv_X0_topicOfWord ⟨Nat.le_of_ble_eq_true rfl, Nat.le_of_ble_eq_true rfl⟩) (va_recv hK hP (ci := 0) (q0 := 0) rfl rfl) hP hK rfl hl.1 rfl (Nat.le_of_ble_eq_true rfl) dX0_brokenChangeBySplice_47 (Nat.zero_le _) (Nat.zero_le _) hS (fun H locs hsm hS => ?_)
  have hP := hsm.P hP
  refine q_callS (As := [.int (x_btw (x_tp f1 f3 x1) (x_tp f1 f3 (x1 + 1))), .int (x_tp f1 f3 (x1 + 1))]) (rest := []) ⟨hx, hb, hml, hown, hts⟩ (c_X0_topicDistance l D (x_btw (x_tp f1 f3 x1) (x_tp f1 f3 (x1 + 1))) (x_tp f1 f3 (x1 + 1))) (va_cwS 2 hts gX0_brokenChangeBySplice_X0_topicDistance rfl rfl rfl ks_X0_topicDistance ⟨Nat.le_of_ble_eq_true rfl, Nat.le_of_ble_eq_true rfl⟩) (hP.sub [] rfl) (hK.sub [] rfl) rfl hl.1 rfl (Nat.le_of_ble_eq_true rfl) dX0_brokenChangeBySplice_50 (Nat.zero_le _) (Nat.zero_le _) hS (fun H locs hsm hS => ?_)
  have hP := hsm.P hP
  refine lv_aload_n hx hb dX0_brokenChangeBySplice_53 rfl (lv_at hl 3 rfl) ?_
  refine lv_iload_n hx hb dX0_brokenChangeBySplice_54 rfl (lv_at hl 4 rfl) ?_
  refine q_callV (As := [.int x1]) (rest := [.int (x_ds (x_btw (x_tp f1 f3 x1) (x_tp f1 f3 (x1 + 1))) (x_tp f1 f3 (x1 + 1)))]) ⟨hx, hb, hml, hown, hts⟩ (c_X0_coughsOfGap l D cI ad n w t pa pe f0 f1 f2 f3 f4 x1) (cwV 1 hts gX0_brokenChangeBySplice_X0_coughsOfGap rfl rfl rfl kv_X0_coughsOfGap ⟨Nat.le_of_ble_eq_true rfl, Nat.le_of_ble_eq_true rfl⟩) (va_recv hK hP (ci := 0) (q0 := 0) rfl rfl) hP hK rfl hl.1 rfl (Nat.le_of_ble_eq_true rfl) dX0_brokenChangeBySplice_55 (Nat.zero_le _) (Nat.zero_le _) hS (fun H locs hsm hS => ?_)
  have hP := hsm.P hP
  refine lv_iadd hx hb dX0_brokenChangeBySplice_58 ?_
  refine lv_istore (lv' := [(5, .int ((x_ds (x_btw (x_tp f1 f3 x1) (x_tp f1 f3 (x1 + 1))) (x_tp f1 f3 (x1 + 1))) + (x_cg f3 x1))), (4, .int (x_ds (x_tp f1 f3 x1) (x_btw (x_tp f1 f3 x1) (x_tp f1 f3 (x1 + 1))))), (3, .int (x_btw (x_tp f1 f3 x1) (x_tp f1 f3 (x1 + 1)))), (2, .int (bI (decide ((x_kg f0 f1 f2 f3 x1) = 2)))), (0, .ref (ad 0)), (1, .int x1)]) hx hb dX0_brokenChangeBySplice_59 hl (by decide) rfl (fun ls hl => ?_)
  refine lv_iconst (v := 0) hx hb dX0_brokenChangeBySplice_61 (by decide) ?_
  refine lv_iload hx hb dX0_brokenChangeBySplice_62 (lv_at hl 1 rfl) ?_
  refine lv_iconst (v := 1) hx hb dX0_brokenChangeBySplice_64 (by decide) ?_
  refine q_callS (As := [.int 0, .int (x_ds (x_tp f1 f3 x1) (x_btw (x_tp f1 f3 x1) (x_tp f1 f3 (x1 + 1)))), .int 1]) (rest := []) ⟨hx, hb, hml, hown, hts⟩ (c_X0_kindOf l D false (x_ds (x_tp f1 f3 x1) (x_btw (x_tp f1 f3 x1) (x_tp f1 f3 (x1 + 1)))) true) (va_cwS 3 hts gX0_brokenChangeBySplice_X0_kindOf rfl rfl rfl ks_X0_kindOf ⟨Nat.le_of_ble_eq_true rfl, Nat.le_of_ble_eq_true rfl⟩) (hP.sub [] rfl) (hK.sub [] rfl) rfl hl.1 rfl (Nat.le_of_ble_eq_true rfl) dX0_brokenChangeBySplice_65 (Nat.zero_le _) (Nat.zero_le _) hS (fun H locs hsm hS => ?_)
  have hP := hsm.P hP
  refine lv_iconst (v := 2) hx hb dX0_brokenChangeBySplice_68 (by decide) ?_
  suffices K_69 : ∀ v9 : Int32, v9 = (bI (decide ((x_kind false (x_ds (x_tp f1 f3 x1) (x_btw (x_tp f1 f3 x1) (x_tp f1 f3 (x1 + 1)))) true) = 2))) → W p l e ({ frames := 4, cells := 0, slots := 0, locals := 85 } : Room) s m [.ref (ad 0), .int x1].toArray below meth c H locs 0 0 (q_EI below [.ref (ad 0), .int x1].toArray s (x_bc f0 f1 f2 f3 x1)) (F0 m 77 ls [.int v9]) from by
    refine lv_icmp_ne (tgt := 76) hx hb dX0_brokenChangeBySplice_69 (by decide) (fun c_69 => ?_) (fun c_69 => ?_)
    · refine lv_iconst (v := 0) hx hb dX0_brokenChangeBySplice_76 (by decide) ?_
      exact K_69 _ (bI_df c_69)
    · refine lv_iconst (v := 1) hx hb dX0_brokenChangeBySplice_72 (by decide) ?_
      refine lv_goto (tgt := 77) hx hb dX0_brokenChangeBySplice_73 (by decide) ?_
      exact K_69 _ (bI_dt c_69)
  intro v9 hv9
  rw [hv9]; clear hv9
  refine lv_istore (lv' := [(6, .int (bI (decide ((x_kind false (x_ds (x_tp f1 f3 x1) (x_btw (x_tp f1 f3 x1) (x_tp f1 f3 (x1 + 1)))) true) = 2)))), (5, .int ((x_ds (x_btw (x_tp f1 f3 x1) (x_tp f1 f3 (x1 + 1))) (x_tp f1 f3 (x1 + 1))) + (x_cg f3 x1))), (4, .int (x_ds (x_tp f1 f3 x1) (x_btw (x_tp f1 f3 x1) (x_tp f1 f3 (x1 + 1))))), (3, .int (x_btw (x_tp f1 f3 x1) (x_tp f1 f3 (x1 + 1)))), (2, .int (bI (decide ((x_kg f0 f1 f2 f3 x1) = 2)))), (0, .ref (ad 0)), (1, .int x1)]) hx hb dX0_brokenChangeBySplice_77 hl (by decide) rfl (fun ls hl => ?_)
  refine lv_iconst (v := 0) hx hb dX0_brokenChangeBySplice_79 (by decide) ?_
  refine lv_iload hx hb dX0_brokenChangeBySplice_80 (lv_at hl 1 rfl) ?_
  refine lv_aload_n hx hb dX0_brokenChangeBySplice_82 rfl (lv_at hl 5 rfl) ?_
  refine lv_iload_n hx hb dX0_brokenChangeBySplice_83 rfl (lv_at hl 6 rfl) ?_
  refine q_callV (As := [.int x1]) (rest := [.int ((x_ds (x_btw (x_tp f1 f3 x1) (x_tp f1 f3 (x1 + 1))) (x_tp f1 f3 (x1 + 1))) + (x_cg f3 x1)), .int 0]) ⟨hx, hb, hml, hown, hts⟩ (c_X0_ofOneSpeaker l D cI ad n w t pa pe f0 f1 f2 f3 f4 x1) (cwV 1 hts gX0_brokenChangeBySplice_X0_ofOneSpeaker rfl rfl rfl kv_X0_ofOneSpeaker ⟨Nat.le_of_ble_eq_true rfl, Nat.le_of_ble_eq_true rfl⟩) (va_recv hK hP (ci := 0) (q0 := 0) rfl rfl) hP hK rfl hl.1 rfl (Nat.le_of_ble_eq_true rfl) dX0_brokenChangeBySplice_84 (Nat.zero_le _) (Nat.zero_le _) hS (fun H locs hsm hS => ?_)
  have hP := hsm.P hP
  refine q_callS (As := [.int 0, .int ((x_ds (x_btw (x_tp f1 f3 x1) (x_tp f1 f3 (x1 + 1))) (x_tp f1 f3 (x1 + 1))) + (x_cg f3 x1)), .int (bI (x_one f0 f3 x1))]) (rest := []) ⟨hx, hb, hml, hown, hts⟩ (c_X0_kindOf l D false ((x_ds (x_btw (x_tp f1 f3 x1) (x_tp f1 f3 (x1 + 1))) (x_tp f1 f3 (x1 + 1))) + (x_cg f3 x1)) (x_one f0 f3 x1)) (va_cwS 3 hts gX0_brokenChangeBySplice_X0_kindOf rfl rfl rfl ks_X0_kindOf ⟨Nat.le_of_ble_eq_true rfl, Nat.le_of_ble_eq_true rfl⟩) (hP.sub [] rfl) (hK.sub [] rfl) rfl hl.1 rfl (Nat.le_of_ble_eq_true rfl) dX0_brokenChangeBySplice_87 (Nat.zero_le _) (Nat.zero_le _) hS (fun H locs hsm hS => ?_)
  have hP := hsm.P hP
  refine lv_iconst (v := 2) hx hb dX0_brokenChangeBySplice_90 (by decide) ?_
  suffices K_91 : ∀ v9 : Int32, v9 = (bI (decide ((x_kind false ((x_ds (x_btw (x_tp f1 f3 x1) (x_tp f1 f3 (x1 + 1))) (x_tp f1 f3 (x1 + 1))) + (x_cg f3 x1)) (x_one f0 f3 x1)) = 2))) → W p l e ({ frames := 4, cells := 0, slots := 0, locals := 85 } : Room) s m [.ref (ad 0), .int x1].toArray below meth c H locs 0 0 (q_EI below [.ref (ad 0), .int x1].toArray s (x_bc f0 f1 f2 f3 x1)) (F0 m 99 ls [.int v9]) from by
    refine lv_icmp_ne (tgt := 98) hx hb dX0_brokenChangeBySplice_91 (by decide) (fun c_91 => ?_) (fun c_91 => ?_)
    · refine lv_iconst (v := 0) hx hb dX0_brokenChangeBySplice_98 (by decide) ?_
      exact K_91 _ (bI_df c_91)
    · refine lv_iconst (v := 1) hx hb dX0_brokenChangeBySplice_94 (by decide) ?_
      refine lv_goto (tgt := 99) hx hb dX0_brokenChangeBySplice_95 (by decide) ?_
      exact K_91 _ (bI_dt c_91)
  intro v9 hv9
  rw [hv9]; clear hv9
  refine lv_istore (lv' := [(7, .int (bI (decide ((x_kind false ((x_ds (x_btw (x_tp f1 f3 x1) (x_tp f1 f3 (x1 + 1))) (x_tp f1 f3 (x1 + 1))) + (x_cg f3 x1)) (x_one f0 f3 x1)) = 2)))), (6, .int (bI (decide ((x_kind false (x_ds (x_tp f1 f3 x1) (x_btw (x_tp f1 f3 x1) (x_tp f1 f3 (x1 + 1)))) true) = 2)))), (5, .int ((x_ds (x_btw (x_tp f1 f3 x1) (x_tp f1 f3 (x1 + 1))) (x_tp f1 f3 (x1 + 1))) + (x_cg f3 x1))), (4, .int (x_ds (x_tp f1 f3 x1) (x_btw (x_tp f1 f3 x1) (x_tp f1 f3 (x1 + 1))))), (3, .int (x_btw (x_tp f1 f3 x1) (x_tp f1 f3 (x1 + 1)))), (2, .int (bI (decide ((x_kg f0 f1 f2 f3 x1) = 2)))), (0, .ref (ad 0)), (1, .int x1)]) hx hb dX0_brokenChangeBySplice_99 hl (by decide) rfl (fun ls hl => ?_)
  refine lv_iload hx hb dX0_brokenChangeBySplice_101 (lv_at hl 1 rfl) ?_
  refine lv_iload hx hb dX0_brokenChangeBySplice_103 (lv_at hl 0 rfl) ?_
  refine lv_iadd hx hb dX0_brokenChangeBySplice_105 ?_
  refine lv_iload_n hx hb dX0_brokenChangeBySplice_106 rfl (lv_at hl 5 rfl) ?_
  refine lv_isub hx hb dX0_brokenChangeBySplice_107 ?_
  exact q_retI hx hb hr hlocks hS rfl dX0_brokenChangeBySplice_108

theorem kv_X0_longestThread : yX0_longestThread.cls = RX0 ∧ yX0_longestThread.cls ≠ "java/lang/invoke/MethodHandle" ∧ yX0_longestThread.cls ≠ "java/lang/invoke/VarHandle" ∧ (parseMethodDescriptor yX0_longestThread.desc).map (fun d => d.parameters.length) = some 0 := by decide +kernel
theorem ks_X0_longestThread : yX0_longestThread.cls ≠ "java/lang/invoke/MethodHandle" ∧ yX0_longestThread.cls ≠ "java/lang/invoke/VarHandle" ∧ (parseMethodDescriptor yX0_longestThread.desc).map (fun d => d.parameters.length) = some 0 := kv_X0_longestThread.2
set_option maxHeartbeats 4000000 in
set_option maxRecDepth 100000 in
theorem c_X0_longestThread (l : Launch) (D : va_G) (cI : ClassId) (ad : Nat → Nat) (n : Int32) (wN : Nat) (tN : Nat) (pa pe : Int32) (f0 f1 f2 f3 f4 : Nat → Int32) (hwN : wN ≤ 24) (htN : tN ≤ 24) : q_I l yX0_longestThread wsX0_longestThread ({ frames := 3, cells := 0, slots := 0, locals := 65 } : Room) D ([(cI, .int)]) (xw cI ad n (nI wN) (nI tN) pa pe f0 f1 f2 f3 f4) [.ref (ad 0)] ((x_lg f4 wN tN).1) := by
  refine q_startI (cc := cX0_longestThread) (maxL := 5) (rt := .int) (by decide) rfl (Nat.le_of_ble_eq_true rfl) ?_
  intro p e s m below meth c hx hb hml hr hts hown hlocks hK H locs ls hP hS hl
  have hin : ∀ w ∈ wsX00, w ∈ wsX0_longestThread := by decide +kernel
  have hl : lv_has ls 5 [(0, .ref (ad 0))] := hl
  refine lv_iconst (v := -1) hx hb dX0_longestThread_0 (by decide) ?_
  refine lv_istore_n (lv' := [(1, .int (-1)), (0, .ref (ad 0))]) hx hb dX0_longestThread_1 rfl hl (by decide) rfl (fun ls hl => ?_)
  refine lv_iconst (v := 0) hx hb dX0_longestThread_2 (by decide) ?_
  refine lv_istore_n (lv' := [(2, .int 0), (1, .int (-1)), (0, .ref (ad 0))]) hx hb dX0_longestThread_3 rfl hl (by decide) rfl (fun ls hl => ?_)
  refine lv_iconst (v := 0) hx hb dX0_longestThread_4 (by decide) ?_
  refine lv_istore_n (lv' := [(3, .int 0), (2, .int 0), (1, .int (-1)), (0, .ref (ad 0))]) hx hb dX0_longestThread_5 rfl hl (by decide) rfl (fun ls hl => ?_)
  have lo_6 : ∀ (fu i : Nat), tN - i < fu → i ≤ tN → ∀ (H : Heap) (locs : List Loc) (ls : Array Slot), va_P D vwCl (xw cI ad n (nI wN) (nI tN) pa pe f0 f1 f2 f3 f4) H → va_S q_no s.heap H locs → lv_has ls 5 [(1, .int ((x_lg f4 wN i).1)), (2, .int ((x_lg f4 wN i).2)), (3, .int (nI i)), (0, .ref (ad 0))] → W p l e ({ frames := 3, cells := 0, slots := 0, locals := 65 } : Room) s m [.ref (ad 0)].toArray below meth c H locs 0 0 (q_EI below [.ref (ad 0)].toArray s ((x_lg f4 wN tN).1)) (F0 m 6 ls []) := by
    intro fu
    induction fu with
    | zero => intro i hi; exact absurd hi (Nat.not_lt_zero _)
    | succ fu ih =>
      intro i hi hiN H locs ls hP hS hl
      refine lv_iload_n hx hb dX0_longestThread_6 rfl (lv_at hl 2 rfl) ?_
      refine lv_aload_n hx hb dX0_longestThread_7 rfl (lv_at hl 3 rfl) ?_
      refine va_get (D := D) (ci := 0) (v := .int (nI tN)) (C := RX0) (T := TX0) (N := 10) hx hb hts hin hown hK hP 0 rfl rfl 7 (by decide) (hts (.fieldLink RX0 86 "SplicedTalk" "threadCount" "I") (by decide +kernel)) (fun _ h9 => h9) rfl dX0_longestThread_8 ?_
      refine lv_icmp_ge (tgt := 38) hx hb dX0_longestThread_11 (by decide) (fun c_11 => ?_) (fun c_11 => ?_)
      · have hi9 := nI_ge' hiN (by omega) c_11
        refine lv_iload_n hx hb dX0_longestThread_38 rfl (lv_at hl 0 rfl) ?_
        exact q_retI hx hb hr hlocks hS (by rw [hi9]) dX0_longestThread_39
      · have hi9 := nI_lt' hiN (by omega) c_11
        refine lv_aload_n hx hb dX0_longestThread_14 rfl (lv_at hl 3 rfl) ?_
        refine lv_iload_n hx hb dX0_longestThread_15 rfl (lv_at hl 2 rfl) ?_
        refine q_callV (As := [.int (nI i)]) (rest := []) ⟨hx, hb, hml, hown, hts⟩ (c_X0_wordsInThread l D cI ad n wN (nI tN) pa pe f0 f1 f2 f3 f4 (nI i) hwN) (cwV 1 hts gX0_longestThread_X0_wordsInThread rfl rfl rfl kv_X0_wordsInThread ⟨Nat.le_of_ble_eq_true rfl, Nat.le_of_ble_eq_true rfl⟩) (va_recv hK hP (ci := 0) (q0 := 0) rfl rfl) hP hK rfl hl.1 rfl (Nat.le_of_ble_eq_true rfl) dX0_longestThread_16 (Nat.zero_le _) (Nat.zero_le _) hS (fun H locs hsm hS => ?_)
        have hP := hsm.P hP
        refine lv_istore (lv' := [(4, .int (x_wt f4 (nI i) wN)), (1, .int ((x_lg f4 wN i).1)), (2, .int ((x_lg f4 wN i).2)), (3, .int (nI i)), (0, .ref (ad 0))]) hx hb dX0_longestThread_19 hl (by decide) rfl (fun ls hl => ?_)
        refine lv_iload hx hb dX0_longestThread_21 (lv_at hl 0 rfl) ?_
        refine lv_iload_n hx hb dX0_longestThread_23 rfl (lv_at hl 2 rfl) ?_
        refine lv_icmp_le (tgt := 32) hx hb dX0_longestThread_24 (by decide) (fun c_24 => ?_) (fun c_24 => ?_)
        · refine lv_iinc (v := ((nI i) + 1)) (lv' := [(3, .int ((nI i) + 1)), (4, .int (x_wt f4 (nI i) wN)), (1, .int ((x_lg f4 wN i).1)), (2, .int ((x_lg f4 wN i).2)), (0, .ref (ad 0))]) hx hb dX0_longestThread_32 hl (k := 3) rfl (by rfl) (by decide) rfl (fun ls hl => ?_)
          refine lv_goto (tgt := 6) hx hb dX0_longestThread_35 (by decide) ?_
          have e_1 : ((x_lg f4 wN i).1 : Int32) = (x_lg f4 wN (i + 1)).1 := (by rw [x_lg_s, if_neg (Int32.not_lt.mpr c_24)])
          have e_2 : ((x_lg f4 wN i).2 : Int32) = (x_lg f4 wN (i + 1)).2 := (by rw [x_lg_s, if_neg (Int32.not_lt.mpr c_24)])
          have e_3 : (((nI i) + 1) : Int32) = (nI (i + 1)) := nI_1 i
          exact ih (i + 1) (by omega) (by omega) H locs ls hP hS (lv_eq (lv_sub (l' := [(1, .int ((x_lg f4 wN i).1)), (2, .int ((x_lg f4 wN i).2)), (3, .int ((nI i) + 1)), (0, .ref (ad 0))]) hl [2, 3, 0, 4] rfl) (by rw [e_1, e_2, e_3]))
        · refine lv_iload hx hb dX0_longestThread_27 (lv_at hl 0 rfl) ?_
          refine lv_istore_n (lv' := [(2, .int (x_wt f4 (nI i) wN)), (4, .int (x_wt f4 (nI i) wN)), (1, .int ((x_lg f4 wN i).1)), (3, .int (nI i)), (0, .ref (ad 0))]) hx hb dX0_longestThread_29 rfl hl (by decide) rfl (fun ls hl => ?_)
          refine lv_iload_n hx hb dX0_longestThread_30 rfl (lv_at hl 3 rfl) ?_
          refine lv_istore_n (lv' := [(1, .int (nI i)), (2, .int (x_wt f4 (nI i) wN)), (4, .int (x_wt f4 (nI i) wN)), (3, .int (nI i)), (0, .ref (ad 0))]) hx hb dX0_longestThread_31 rfl hl (by decide) rfl (fun ls hl => ?_)
          refine lv_iinc (v := ((nI i) + 1)) (lv' := [(3, .int ((nI i) + 1)), (1, .int (nI i)), (2, .int (x_wt f4 (nI i) wN)), (4, .int (x_wt f4 (nI i) wN)), (0, .ref (ad 0))]) hx hb dX0_longestThread_32 hl (k := 3) rfl (by rfl) (by decide) rfl (fun ls hl => ?_)
          refine lv_goto (tgt := 6) hx hb dX0_longestThread_35 (by decide) ?_
          have e_1 : ((nI i) : Int32) = (x_lg f4 wN (i + 1)).1 := (by rw [x_lg_s, if_pos (Int32.not_le.mp c_24)])
          have e_2 : ((x_wt f4 (nI i) wN) : Int32) = (x_lg f4 wN (i + 1)).2 := (by rw [x_lg_s, if_pos (Int32.not_le.mp c_24)])
          have e_3 : (((nI i) + 1) : Int32) = (nI (i + 1)) := nI_1 i
          exact ih (i + 1) (by omega) (by omega) H locs ls hP hS (lv_eq (lv_sub (l' := [(1, .int (nI i)), (2, .int (x_wt f4 (nI i) wN)), (3, .int ((nI i) + 1)), (0, .ref (ad 0))]) hl [1, 2, 0, 4] rfl) (by rw [e_2, e_3, e_1]))
  exact lo_6 (tN + 1) 0 (by omega) (by omega) H locs ls hP hS (lv_sub hl [2, 1, 0, 3] rfl)

theorem kv_X0_bestSplice : yX0_bestSplice.cls = RX0 ∧ yX0_bestSplice.cls ≠ "java/lang/invoke/MethodHandle" ∧ yX0_bestSplice.cls ≠ "java/lang/invoke/VarHandle" ∧ (parseMethodDescriptor yX0_bestSplice.desc).map (fun d => d.parameters.length) = some 0 := by decide +kernel
theorem ks_X0_bestSplice : yX0_bestSplice.cls ≠ "java/lang/invoke/MethodHandle" ∧ yX0_bestSplice.cls ≠ "java/lang/invoke/VarHandle" ∧ (parseMethodDescriptor yX0_bestSplice.desc).map (fun d => d.parameters.length) = some 0 := kv_X0_bestSplice.2
set_option maxHeartbeats 4000000 in
set_option maxRecDepth 100000 in
theorem c_X0_bestSplice (l : Launch) (D : va_G) (cI : ClassId) (ad : Nat → Nat) (n : Int32) (wN : Nat) (t : Int32) (pa pe : Int32) (f0 f1 f2 f3 f4 : Nat → Int32) (hwN : wN ≤ 24) : q_I l yX0_bestSplice wsX0_bestSplice ({ frames := 5, cells := 0, slots := 0, locals := 112 } : Room) D ([(cI, .int)]) (xw cI ad n (nI wN) t pa pe f0 f1 f2 f3 f4) [.ref (ad 0)] ((x_bs f0 f1 f2 f3 (wN - 1)).1) := by
  refine q_startI (cc := cX0_bestSplice) (maxL := 4) (rt := .int) (by decide) rfl (Nat.le_of_ble_eq_true rfl) ?_
  intro p e s m below meth c hx hb hml hr hts hown hlocks hK H locs ls hP hS hl
  have hin : ∀ w ∈ wsX00, w ∈ wsX0_bestSplice := by decide +kernel
  have hl : lv_has ls 4 [(0, .ref (ad 0))] := hl
  refine lv_iconst (v := -1) hx hb dX0_bestSplice_0 (by decide) ?_
  refine lv_istore_n (lv' := [(1, .int (-1)), (0, .ref (ad 0))]) hx hb dX0_bestSplice_1 rfl hl (by decide) rfl (fun ls hl => ?_)
  refine lv_iconst (v := 0) hx hb dX0_bestSplice_2 (by decide) ?_
  refine lv_istore_n (lv' := [(2, .int 0), (1, .int (-1)), (0, .ref (ad 0))]) hx hb dX0_bestSplice_3 rfl hl (by decide) rfl (fun ls hl => ?_)
  refine lv_iconst (v := 0) hx hb dX0_bestSplice_4 (by decide) ?_
  refine lv_istore_n (lv' := [(3, .int 0), (2, .int 0), (1, .int (-1)), (0, .ref (ad 0))]) hx hb dX0_bestSplice_5 rfl hl (by decide) rfl (fun ls hl => ?_)
  have lo_6 : ∀ (fu i : Nat), (wN - 1) - i < fu → i ≤ (wN - 1) → ∀ (H : Heap) (locs : List Loc) (ls : Array Slot), va_P D vwCl (xw cI ad n (nI wN) t pa pe f0 f1 f2 f3 f4) H → va_S q_no s.heap H locs → lv_has ls 4 [(1, .int ((x_bs f0 f1 f2 f3 i).1)), (2, .int ((x_bs f0 f1 f2 f3 i).2)), (3, .int (nI i)), (0, .ref (ad 0))] → W p l e ({ frames := 5, cells := 0, slots := 0, locals := 112 } : Room) s m [.ref (ad 0)].toArray below meth c H locs 0 0 (q_EI below [.ref (ad 0)].toArray s ((x_bs f0 f1 f2 f3 (wN - 1)).1)) (F0 m 6 ls []) := by
    intro fu
    induction fu with
    | zero => intro i hi; exact absurd hi (Nat.not_lt_zero _)
    | succ fu ih =>
      intro i hi hiN H locs ls hP hS hl
      refine lv_iload_n hx hb dX0_bestSplice_6 rfl (lv_at hl 2 rfl) ?_
      refine lv_aload_n hx hb dX0_bestSplice_7 rfl (lv_at hl 3 rfl) ?_
      refine q_callV (As := []) (rest := [.int (nI i)]) ⟨hx, hb, hml, hown, hts⟩ (c_X0_gapCount l D cI ad n (nI wN) t pa pe f0 f1 f2 f3 f4) (cwV 0 hts gX0_bestSplice_X0_gapCount rfl rfl rfl kv_X0_gapCount ⟨Nat.le_of_ble_eq_true rfl, Nat.le_of_ble_eq_true rfl⟩) (va_recv hK hP (ci := 0) (q0 := 0) rfl rfl) hP hK rfl hl.1 rfl (Nat.le_of_ble_eq_true rfl) dX0_bestSplice_8 (Nat.zero_le _) (Nat.zero_le _) hS (fun H locs hsm hS => ?_)
      have hP := hsm.P hP
      rw [x_gc_nI (by omega)]
      refine lv_icmp_ge (tgt := 45) hx hb dX0_bestSplice_11 (by decide) (fun c_11 => ?_) (fun c_11 => ?_)
      · have hi9 := nI_ge' hiN (by omega) c_11
        refine lv_iload_n hx hb dX0_bestSplice_45 rfl (lv_at hl 0 rfl) ?_
        exact q_retI hx hb hr hlocks hS (by rw [hi9]) dX0_bestSplice_46
      · have hi9 := nI_lt' hiN (by omega) c_11
        refine lv_aload_n hx hb dX0_bestSplice_14 rfl (lv_at hl 3 rfl) ?_
        refine lv_iload_n hx hb dX0_bestSplice_15 rfl (lv_at hl 2 rfl) ?_
        refine q_callV (As := [.int (nI i)]) (rest := []) ⟨hx, hb, hml, hown, hts⟩ (c_X0_gapTied l D cI ad n (nI wN) t pa pe f0 f1 f2 f3 f4 (nI i)) (cwV 1 hts gX0_bestSplice_X0_gapTied rfl rfl rfl kv_X0_gapTied ⟨Nat.le_of_ble_eq_true rfl, Nat.le_of_ble_eq_true rfl⟩) (va_recv hK hP (ci := 0) (q0 := 0) rfl rfl) hP hK rfl hl.1 rfl (Nat.le_of_ble_eq_true rfl) dX0_bestSplice_16 (Nat.zero_le _) (Nat.zero_le _) hS (fun H locs hsm hS => ?_)
        have hP := hsm.P hP
        refine lv_if_ne (tgt := 39) hx hb dX0_bestSplice_19 (by decide) (fun c_19 => ?_) (fun c_19 => ?_)
        · refine lv_iinc (v := ((nI i) + 1)) (lv' := [(3, .int ((nI i) + 1)), (1, .int ((x_bs f0 f1 f2 f3 i).1)), (2, .int ((x_bs f0 f1 f2 f3 i).2)), (0, .ref (ad 0))]) hx hb dX0_bestSplice_39 hl (k := 2) rfl (by rfl) (by decide) rfl (fun ls hl => ?_)
          refine lv_goto (tgt := 6) hx hb dX0_bestSplice_42 (by decide) ?_
          have e_1 : ((x_bs f0 f1 f2 f3 i).1 : Int32) = (x_bs f0 f1 f2 f3 (i + 1)).1 := (by rw [x_bs_s, if_neg (fun h => c_19 (bI_0.mpr h.1))])
          have e_2 : ((x_bs f0 f1 f2 f3 i).2 : Int32) = (x_bs f0 f1 f2 f3 (i + 1)).2 := (by rw [x_bs_s, if_neg (fun h => c_19 (bI_0.mpr h.1))])
          have e_3 : (((nI i) + 1) : Int32) = (nI (i + 1)) := nI_1 i
          exact ih (i + 1) (by omega) (by omega) H locs ls hP hS (lv_eq (lv_sub (l' := [(1, .int ((x_bs f0 f1 f2 f3 i).1)), (2, .int ((x_bs f0 f1 f2 f3 i).2)), (3, .int ((nI i) + 1)), (0, .ref (ad 0))]) hl [1, 2, 0, 3] rfl) (by rw [e_1, e_2, e_3]))
        · refine lv_aload_n hx hb dX0_bestSplice_22 rfl (lv_at hl 3 rfl) ?_
          refine lv_iload_n hx hb dX0_bestSplice_23 rfl (lv_at hl 2 rfl) ?_
          refine q_callV (As := [.int (nI i)]) (rest := []) ⟨hx, hb, hml, hown, hts⟩ (c_X0_brokenChangeBySplice l D cI ad n (nI wN) t pa pe f0 f1 f2 f3 f4 (nI i)) (cwV 1 hts gX0_bestSplice_X0_brokenChangeBySplice rfl rfl rfl kv_X0_brokenChangeBySplice ⟨Nat.le_of_ble_eq_true rfl, Nat.le_of_ble_eq_true rfl⟩) (va_recv hK hP (ci := 0) (q0 := 0) rfl rfl) hP hK rfl hl.1 rfl (Nat.le_of_ble_eq_true rfl) dX0_bestSplice_24 (Nat.zero_le _) (Nat.zero_le _) hS (fun H locs hsm hS => ?_)
          have hP := hsm.P hP
          refine lv_iload_n hx hb dX0_bestSplice_27 rfl (lv_at hl 1 rfl) ?_
          refine lv_icmp_ge (tgt := 39) hx hb dX0_bestSplice_28 (by decide) (fun c_28 => ?_) (fun c_28 => ?_)
          · refine lv_iinc (v := ((nI i) + 1)) (lv' := [(3, .int ((nI i) + 1)), (1, .int ((x_bs f0 f1 f2 f3 i).1)), (2, .int ((x_bs f0 f1 f2 f3 i).2)), (0, .ref (ad 0))]) hx hb dX0_bestSplice_39 hl (k := 2) rfl (by rfl) (by decide) rfl (fun ls hl => ?_)
            refine lv_goto (tgt := 6) hx hb dX0_bestSplice_42 (by decide) ?_
            have e_1 : ((x_bs f0 f1 f2 f3 i).1 : Int32) = (x_bs f0 f1 f2 f3 (i + 1)).1 := (by rw [x_bs_s, if_neg (fun h => absurd h.2 (Int32.not_lt.mpr c_28))])
            have e_2 : ((x_bs f0 f1 f2 f3 i).2 : Int32) = (x_bs f0 f1 f2 f3 (i + 1)).2 := (by rw [x_bs_s, if_neg (fun h => absurd h.2 (Int32.not_lt.mpr c_28))])
            have e_3 : (((nI i) + 1) : Int32) = (nI (i + 1)) := nI_1 i
            exact ih (i + 1) (by omega) (by omega) H locs ls hP hS (lv_eq (lv_sub (l' := [(1, .int ((x_bs f0 f1 f2 f3 i).1)), (2, .int ((x_bs f0 f1 f2 f3 i).2)), (3, .int ((nI i) + 1)), (0, .ref (ad 0))]) hl [1, 2, 0, 3] rfl) (by rw [e_1, e_2, e_3]))
          · refine lv_aload_n hx hb dX0_bestSplice_31 rfl (lv_at hl 3 rfl) ?_
            refine lv_iload_n hx hb dX0_bestSplice_32 rfl (lv_at hl 2 rfl) ?_
            refine q_callV (As := [.int (nI i)]) (rest := []) ⟨hx, hb, hml, hown, hts⟩ (c_X0_brokenChangeBySplice l D cI ad n (nI wN) t pa pe f0 f1 f2 f3 f4 (nI i)) (cwV 1 hts gX0_bestSplice_X0_brokenChangeBySplice rfl rfl rfl kv_X0_brokenChangeBySplice ⟨Nat.le_of_ble_eq_true rfl, Nat.le_of_ble_eq_true rfl⟩) (va_recv hK hP (ci := 0) (q0 := 0) rfl rfl) hP hK rfl hl.1 rfl (Nat.le_of_ble_eq_true rfl) dX0_bestSplice_33 (Nat.zero_le _) (Nat.zero_le _) hS (fun H locs hsm hS => ?_)
            have hP := hsm.P hP
            refine lv_istore_n (lv' := [(2, .int (x_bc f0 f1 f2 f3 (nI i))), (1, .int ((x_bs f0 f1 f2 f3 i).1)), (3, .int (nI i)), (0, .ref (ad 0))]) hx hb dX0_bestSplice_36 rfl hl (by decide) rfl (fun ls hl => ?_)
            refine lv_iload_n hx hb dX0_bestSplice_37 rfl (lv_at hl 2 rfl) ?_
            refine lv_istore_n (lv' := [(1, .int (nI i)), (2, .int (x_bc f0 f1 f2 f3 (nI i))), (3, .int (nI i)), (0, .ref (ad 0))]) hx hb dX0_bestSplice_38 rfl hl (by decide) rfl (fun ls hl => ?_)
            refine lv_iinc (v := ((nI i) + 1)) (lv' := [(3, .int ((nI i) + 1)), (1, .int (nI i)), (2, .int (x_bc f0 f1 f2 f3 (nI i))), (0, .ref (ad 0))]) hx hb dX0_bestSplice_39 hl (k := 2) rfl (by rfl) (by decide) rfl (fun ls hl => ?_)
            refine lv_goto (tgt := 6) hx hb dX0_bestSplice_42 (by decide) ?_
            have e_1 : ((nI i) : Int32) = (x_bs f0 f1 f2 f3 (i + 1)).1 := (by rw [x_bs_s, if_pos ⟨bI_0.mp c_19, Int32.not_le.mp c_28⟩])
            have e_2 : ((x_bc f0 f1 f2 f3 (nI i)) : Int32) = (x_bs f0 f1 f2 f3 (i + 1)).2 := (by rw [x_bs_s, if_pos ⟨bI_0.mp c_19, Int32.not_le.mp c_28⟩])
            have e_3 : (((nI i) + 1) : Int32) = (nI (i + 1)) := nI_1 i
            exact ih (i + 1) (by omega) (by omega) H locs ls hP hS (lv_eq (lv_sub (l' := [(1, .int (nI i)), (2, .int (x_bc f0 f1 f2 f3 (nI i))), (3, .int ((nI i) + 1)), (0, .ref (ad 0))]) hl [1, 2, 0, 3] rfl) (by rw [e_2, e_3, e_1]))
  exact lo_6 ((wN - 1) + 1) 0 (by omega) (by omega) H locs ls hP hS (lv_sub hl [2, 1, 0, 3] rfl)

theorem kv_X0_digest : yX0_digest.cls = RX0 ∧ yX0_digest.cls ≠ "java/lang/invoke/MethodHandle" ∧ yX0_digest.cls ≠ "java/lang/invoke/VarHandle" ∧ (parseMethodDescriptor yX0_digest.desc).map (fun d => d.parameters.length) = some 0 := by decide +kernel
theorem ks_X0_digest : yX0_digest.cls ≠ "java/lang/invoke/MethodHandle" ∧ yX0_digest.cls ≠ "java/lang/invoke/VarHandle" ∧ (parseMethodDescriptor yX0_digest.desc).map (fun d => d.parameters.length) = some 0 := kv_X0_digest.2
set_option maxHeartbeats 4000000 in
set_option maxRecDepth 100000 in
theorem c_X0_digest (l : Launch) (D : va_G) (cI : ClassId) (ad : Nat → Nat) (N : Nat) (wN : Nat) (tN : Nat) (pa pe : Int32) (f0 f1 f2 f3 f4 : Nat → Int32) (hN : N ≤ 24) (hwN : wN ≤ 24) (htN : tN ≤ 24) : q_L l yX0_digest wsX0_digest ({ frames := 6, cells := 0, slots := 0, locals := 135 } : Room) D ([(cI, .int)]) (xw cI ad (nI N) (nI wN) (nI tN) pa pe f0 f1 f2 f3 f4) [.ref (ad 0)] (x_dg pa pe f0 f1 f2 f3 f4 wN N tN) := by
  refine q_startL (cc := cX0_digest) (maxL := 3) (rt := .long) (by decide) rfl (Nat.le_of_ble_eq_true rfl) ?_
  intro p e s m below meth c hx hb hml hr hts hown hlocks hK H locs ls hP hS hl
  have hin : ∀ w ∈ wsX00, w ∈ wsX0_digest := by decide +kernel
  have hl : lv_has ls 3 [(0, .ref (ad 0))] := hl
  refine lv_ldc2 hx hb hown (hts (.constantLong RX0 171 (1997)) (by decide +kernel)) dX0_digest_0 ?_
  refine lv_lstore_n (lv' := [(1, .long 1997), (0, .ref (ad 0))]) hx hb dX0_digest_3 rfl hl (by decide) rfl (fun ls hl => ?_)
  refine lv_lload_n hx hb dX0_digest_4 rfl (lv_at hl 0 rfl) ?_
  refine lv_aload_n hx hb dX0_digest_5 rfl (lv_at hl 1 rfl) ?_
  refine va_get (D := D) (ci := 0) (v := .int (nI N)) (C := RX0) (T := TX0) (N := 10) hx hb hts hin hown hK hP 0 rfl rfl 3 (by decide) (hts (.fieldLink RX0 69 "SplicedTalk" "remarkCount" "I") (by decide +kernel)) (fun _ h9 => h9) rfl dX0_digest_6 ?_
  refine q_callSL (As := [.long 1997, .int (nI N)]) (rest := []) ⟨hx, hb, hml, hown, hts⟩ (c_X0_mixed l D 1997 (nI N)) (va_cwS 2 hts gX0_digest_X0_mixed rfl rfl rfl ks_X0_mixed ⟨Nat.le_of_ble_eq_true rfl, Nat.le_of_ble_eq_true rfl⟩) (hP.sub [] rfl) (hK.sub [] rfl) rfl hl.1 rfl (Nat.le_of_ble_eq_true rfl) dX0_digest_9 (Nat.zero_le _) (Nat.zero_le _) hS (fun H locs hsm hS => ?_)
  have hP := hsm.P hP
  refine lv_lstore_n (lv' := [(1, .long (x_mix 1997 (nI N))), (0, .ref (ad 0))]) hx hb dX0_digest_12 rfl hl (by decide) rfl (fun ls hl => ?_)
  refine lv_lload_n hx hb dX0_digest_13 rfl (lv_at hl 0 rfl) ?_
  refine lv_aload_n hx hb dX0_digest_14 rfl (lv_at hl 1 rfl) ?_
  refine va_get (D := D) (ci := 0) (v := .int (nI wN)) (C := RX0) (T := TX0) (N := 10) hx hb hts hin hown hK hP 0 rfl rfl 6 (by decide) (hts (.fieldLink RX0 116 "SplicedTalk" "wordCount" "I") (by decide +kernel)) (fun _ h9 => h9) rfl dX0_digest_15 ?_
  refine q_callSL (As := [.long (x_mix 1997 (nI N)), .int (nI wN)]) (rest := []) ⟨hx, hb, hml, hown, hts⟩ (c_X0_mixed l D (x_mix 1997 (nI N)) (nI wN)) (va_cwS 2 hts gX0_digest_X0_mixed rfl rfl rfl ks_X0_mixed ⟨Nat.le_of_ble_eq_true rfl, Nat.le_of_ble_eq_true rfl⟩) (hP.sub [] rfl) (hK.sub [] rfl) rfl hl.1 rfl (Nat.le_of_ble_eq_true rfl) dX0_digest_18 (Nat.zero_le _) (Nat.zero_le _) hS (fun H locs hsm hS => ?_)
  have hP := hsm.P hP
  refine lv_lstore_n (lv' := [(1, .long (x_mix (x_mix 1997 (nI N)) (nI wN))), (0, .ref (ad 0))]) hx hb dX0_digest_21 rfl hl (by decide) rfl (fun ls hl => ?_)
  refine lv_lload_n hx hb dX0_digest_22 rfl (lv_at hl 0 rfl) ?_
  refine lv_aload_n hx hb dX0_digest_23 rfl (lv_at hl 1 rfl) ?_
  refine va_get (D := D) (ci := 0) (v := .int pa) (C := RX0) (T := TX0) (N := 10) hx hb hts hin hown hK hP 0 rfl rfl 8 (by decide) (hts (.fieldLink RX0 25 "SplicedTalk" "patienceLeft" "I") (by decide +kernel)) (fun _ h9 => h9) rfl dX0_digest_24 ?_
  refine q_callSL (As := [.long (x_mix (x_mix 1997 (nI N)) (nI wN)), .int pa]) (rest := []) ⟨hx, hb, hml, hown, hts⟩ (c_X0_mixed l D (x_mix (x_mix 1997 (nI N)) (nI wN)) pa) (va_cwS 2 hts gX0_digest_X0_mixed rfl rfl rfl ks_X0_mixed ⟨Nat.le_of_ble_eq_true rfl, Nat.le_of_ble_eq_true rfl⟩) (hP.sub [] rfl) (hK.sub [] rfl) rfl hl.1 rfl (Nat.le_of_ble_eq_true rfl) dX0_digest_27 (Nat.zero_le _) (Nat.zero_le _) hS (fun H locs hsm hS => ?_)
  have hP := hsm.P hP
  refine lv_lstore_n (lv' := [(1, .long (x_mix (x_mix (x_mix 1997 (nI N)) (nI wN)) pa)), (0, .ref (ad 0))]) hx hb dX0_digest_30 rfl hl (by decide) rfl (fun ls hl => ?_)
  refine lv_lload_n hx hb dX0_digest_31 rfl (lv_at hl 0 rfl) ?_
  refine lv_aload_n hx hb dX0_digest_32 rfl (lv_at hl 1 rfl) ?_
  refine va_get (D := D) (ci := 0) (v := .int pe) (C := RX0) (T := TX0) (N := 10) hx hb hts hin hown hK hP 0 rfl rfl 9 (by decide) (hts (.fieldLink RX0 119 "SplicedTalk" "patienceSpent" "I") (by decide +kernel)) (fun _ h9 => h9) rfl dX0_digest_33 ?_
  refine q_callSL (As := [.long (x_mix (x_mix (x_mix 1997 (nI N)) (nI wN)) pa), .int pe]) (rest := []) ⟨hx, hb, hml, hown, hts⟩ (c_X0_mixed l D (x_mix (x_mix (x_mix 1997 (nI N)) (nI wN)) pa) pe) (va_cwS 2 hts gX0_digest_X0_mixed rfl rfl rfl ks_X0_mixed ⟨Nat.le_of_ble_eq_true rfl, Nat.le_of_ble_eq_true rfl⟩) (hP.sub [] rfl) (hK.sub [] rfl) rfl hl.1 rfl (Nat.le_of_ble_eq_true rfl) dX0_digest_36 (Nat.zero_le _) (Nat.zero_le _) hS (fun H locs hsm hS => ?_)
  have hP := hsm.P hP
  refine lv_lstore_n (lv' := [(1, .long (x_mix (x_mix (x_mix (x_mix 1997 (nI N)) (nI wN)) pa) pe)), (0, .ref (ad 0))]) hx hb dX0_digest_39 rfl hl (by decide) rfl (fun ls hl => ?_)
  refine lv_lload_n hx hb dX0_digest_40 rfl (lv_at hl 0 rfl) ?_
  refine lv_aload_n hx hb dX0_digest_41 rfl (lv_at hl 1 rfl) ?_
  refine lv_iconst (v := 2) hx hb dX0_digest_42 (by decide) ?_
  refine q_callV (As := [.int 2]) (rest := [.long (x_mix (x_mix (x_mix (x_mix 1997 (nI N)) (nI wN)) pa) pe)]) ⟨hx, hb, hml, hown, hts⟩ (c_X0_gapsOfKind l D cI ad (nI N) wN (nI tN) pa pe f0 f1 f2 f3 f4 2 hwN) (cwV 1 hts gX0_digest_X0_gapsOfKind rfl rfl rfl kv_X0_gapsOfKind ⟨Nat.le_of_ble_eq_true rfl, Nat.le_of_ble_eq_true rfl⟩) (va_recv hK hP (ci := 0) (q0 := 0) rfl rfl) hP hK rfl hl.1 rfl (Nat.le_of_ble_eq_true rfl) dX0_digest_43 (Nat.zero_le _) (Nat.zero_le _) hS (fun H locs hsm hS => ?_)
  have hP := hsm.P hP
  refine q_callSL (As := [.long (x_mix (x_mix (x_mix (x_mix 1997 (nI N)) (nI wN)) pa) pe), .int (x_gk f0 f1 f2 f3 2 wN)]) (rest := []) ⟨hx, hb, hml, hown, hts⟩ (c_X0_mixed l D (x_mix (x_mix (x_mix (x_mix 1997 (nI N)) (nI wN)) pa) pe) (x_gk f0 f1 f2 f3 2 wN)) (va_cwS 2 hts gX0_digest_X0_mixed rfl rfl rfl ks_X0_mixed ⟨Nat.le_of_ble_eq_true rfl, Nat.le_of_ble_eq_true rfl⟩) (hP.sub [] rfl) (hK.sub [] rfl) rfl hl.1 rfl (Nat.le_of_ble_eq_true rfl) dX0_digest_46 (Nat.zero_le _) (Nat.zero_le _) hS (fun H locs hsm hS => ?_)
  have hP := hsm.P hP
  refine lv_lstore_n (lv' := [(1, .long (x_mix (x_mix (x_mix (x_mix (x_mix 1997 (nI N)) (nI wN)) pa) pe) (x_gk f0 f1 f2 f3 2 wN))), (0, .ref (ad 0))]) hx hb dX0_digest_49 rfl hl (by decide) rfl (fun ls hl => ?_)
  refine lv_lload_n hx hb dX0_digest_50 rfl (lv_at hl 0 rfl) ?_
  refine lv_aload_n hx hb dX0_digest_51 rfl (lv_at hl 1 rfl) ?_
  refine lv_iconst (v := 1) hx hb dX0_digest_52 (by decide) ?_
  refine q_callV (As := [.int 1]) (rest := [.long (x_mix (x_mix (x_mix (x_mix (x_mix 1997 (nI N)) (nI wN)) pa) pe) (x_gk f0 f1 f2 f3 2 wN))]) ⟨hx, hb, hml, hown, hts⟩ (c_X0_gapsOfKind l D cI ad (nI N) wN (nI tN) pa pe f0 f1 f2 f3 f4 1 hwN) (cwV 1 hts gX0_digest_X0_gapsOfKind rfl rfl rfl kv_X0_gapsOfKind ⟨Nat.le_of_ble_eq_true rfl, Nat.le_of_ble_eq_true rfl⟩) (va_recv hK hP (ci := 0) (q0 := 0) rfl rfl) hP hK rfl hl.1 rfl (Nat.le_of_ble_eq_true rfl) dX0_digest_53 (Nat.zero_le _) (Nat.zero_le _) hS (fun H locs hsm hS => ?_)
  have hP := hsm.P hP
  refine q_callSL (As := [.long (x_mix (x_mix (x_mix (x_mix (x_mix 1997 (nI N)) (nI wN)) pa) pe) (x_gk f0 f1 f2 f3 2 wN)), .int (x_gk f0 f1 f2 f3 1 wN)]) (rest := []) ⟨hx, hb, hml, hown, hts⟩ (c_X0_mixed l D (x_mix (x_mix (x_mix (x_mix (x_mix 1997 (nI N)) (nI wN)) pa) pe) (x_gk f0 f1 f2 f3 2 wN)) (x_gk f0 f1 f2 f3 1 wN)) (va_cwS 2 hts gX0_digest_X0_mixed rfl rfl rfl ks_X0_mixed ⟨Nat.le_of_ble_eq_true rfl, Nat.le_of_ble_eq_true rfl⟩) (hP.sub [] rfl) (hK.sub [] rfl) rfl hl.1 rfl (Nat.le_of_ble_eq_true rfl) dX0_digest_56 (Nat.zero_le _) (Nat.zero_le _) hS (fun H locs hsm hS => ?_)
  have hP := hsm.P hP
  refine lv_lstore_n (lv' := [(1, .long (x_mix (x_mix (x_mix (x_mix (x_mix (x_mix 1997 (nI N)) (nI wN)) pa) pe) (x_gk f0 f1 f2 f3 2 wN)) (x_gk f0 f1 f2 f3 1 wN))), (0, .ref (ad 0))]) hx hb dX0_digest_59 rfl hl (by decide) rfl (fun ls hl => ?_)
  refine lv_lload_n hx hb dX0_digest_60 rfl (lv_at hl 0 rfl) ?_
  refine lv_aload_n hx hb dX0_digest_61 rfl (lv_at hl 1 rfl) ?_
  refine va_get (D := D) (ci := 0) (v := .int (nI tN)) (C := RX0) (T := TX0) (N := 10) hx hb hts hin hown hK hP 0 rfl rfl 7 (by decide) (hts (.fieldLink RX0 86 "SplicedTalk" "threadCount" "I") (by decide +kernel)) (fun _ h9 => h9) rfl dX0_digest_62 ?_
  refine q_callSL (As := [.long (x_mix (x_mix (x_mix (x_mix (x_mix (x_mix 1997 (nI N)) (nI wN)) pa) pe) (x_gk f0 f1 f2 f3 2 wN)) (x_gk f0 f1 f2 f3 1 wN)), .int (nI tN)]) (rest := []) ⟨hx, hb, hml, hown, hts⟩ (c_X0_mixed l D (x_mix (x_mix (x_mix (x_mix (x_mix (x_mix 1997 (nI N)) (nI wN)) pa) pe) (x_gk f0 f1 f2 f3 2 wN)) (x_gk f0 f1 f2 f3 1 wN)) (nI tN)) (va_cwS 2 hts gX0_digest_X0_mixed rfl rfl rfl ks_X0_mixed ⟨Nat.le_of_ble_eq_true rfl, Nat.le_of_ble_eq_true rfl⟩) (hP.sub [] rfl) (hK.sub [] rfl) rfl hl.1 rfl (Nat.le_of_ble_eq_true rfl) dX0_digest_65 (Nat.zero_le _) (Nat.zero_le _) hS (fun H locs hsm hS => ?_)
  have hP := hsm.P hP
  refine lv_lstore_n (lv' := [(1, .long (x_mix (x_mix (x_mix (x_mix (x_mix (x_mix (x_mix 1997 (nI N)) (nI wN)) pa) pe) (x_gk f0 f1 f2 f3 2 wN)) (x_gk f0 f1 f2 f3 1 wN)) (nI tN))), (0, .ref (ad 0))]) hx hb dX0_digest_68 rfl hl (by decide) rfl (fun ls hl => ?_)
  refine lv_lload_n hx hb dX0_digest_69 rfl (lv_at hl 0 rfl) ?_
  refine lv_aload_n hx hb dX0_digest_70 rfl (lv_at hl 1 rfl) ?_
  refine q_callV (As := []) (rest := [.long (x_mix (x_mix (x_mix (x_mix (x_mix (x_mix (x_mix 1997 (nI N)) (nI wN)) pa) pe) (x_gk f0 f1 f2 f3 2 wN)) (x_gk f0 f1 f2 f3 1 wN)) (nI tN))]) ⟨hx, hb, hml, hown, hts⟩ (c_X0_longestThread l D cI ad (nI N) wN tN pa pe f0 f1 f2 f3 f4 hwN htN) (cwV 0 hts gX0_digest_X0_longestThread rfl rfl rfl kv_X0_longestThread ⟨Nat.le_of_ble_eq_true rfl, Nat.le_of_ble_eq_true rfl⟩) (va_recv hK hP (ci := 0) (q0 := 0) rfl rfl) hP hK rfl hl.1 rfl (Nat.le_of_ble_eq_true rfl) dX0_digest_71 (Nat.zero_le _) (Nat.zero_le _) hS (fun H locs hsm hS => ?_)
  have hP := hsm.P hP
  refine q_callSL (As := [.long (x_mix (x_mix (x_mix (x_mix (x_mix (x_mix (x_mix 1997 (nI N)) (nI wN)) pa) pe) (x_gk f0 f1 f2 f3 2 wN)) (x_gk f0 f1 f2 f3 1 wN)) (nI tN)), .int ((x_lg f4 wN tN).1)]) (rest := []) ⟨hx, hb, hml, hown, hts⟩ (c_X0_mixed l D (x_mix (x_mix (x_mix (x_mix (x_mix (x_mix (x_mix 1997 (nI N)) (nI wN)) pa) pe) (x_gk f0 f1 f2 f3 2 wN)) (x_gk f0 f1 f2 f3 1 wN)) (nI tN)) ((x_lg f4 wN tN).1)) (va_cwS 2 hts gX0_digest_X0_mixed rfl rfl rfl ks_X0_mixed ⟨Nat.le_of_ble_eq_true rfl, Nat.le_of_ble_eq_true rfl⟩) (hP.sub [] rfl) (hK.sub [] rfl) rfl hl.1 rfl (Nat.le_of_ble_eq_true rfl) dX0_digest_74 (Nat.zero_le _) (Nat.zero_le _) hS (fun H locs hsm hS => ?_)
  have hP := hsm.P hP
  refine lv_lstore_n (lv' := [(1, .long (x_mix (x_mix (x_mix (x_mix (x_mix (x_mix (x_mix (x_mix 1997 (nI N)) (nI wN)) pa) pe) (x_gk f0 f1 f2 f3 2 wN)) (x_gk f0 f1 f2 f3 1 wN)) (nI tN)) ((x_lg f4 wN tN).1))), (0, .ref (ad 0))]) hx hb dX0_digest_77 rfl hl (by decide) rfl (fun ls hl => ?_)
  refine lv_lload_n hx hb dX0_digest_78 rfl (lv_at hl 0 rfl) ?_
  refine lv_aload_n hx hb dX0_digest_79 rfl (lv_at hl 1 rfl) ?_
  refine q_callV (As := []) (rest := [.long (x_mix (x_mix (x_mix (x_mix (x_mix (x_mix (x_mix (x_mix 1997 (nI N)) (nI wN)) pa) pe) (x_gk f0 f1 f2 f3 2 wN)) (x_gk f0 f1 f2 f3 1 wN)) (nI tN)) ((x_lg f4 wN tN).1))]) ⟨hx, hb, hml, hown, hts⟩ (c_X0_costOfAll l D cI ad (nI N) wN (nI tN) pa pe f0 f1 f2 f3 f4 hwN) (cwV 0 hts gX0_digest_X0_costOfAll rfl rfl rfl kv_X0_costOfAll ⟨Nat.le_of_ble_eq_true rfl, Nat.le_of_ble_eq_true rfl⟩) (va_recv hK hP (ci := 0) (q0 := 0) rfl rfl) hP hK rfl hl.1 rfl (Nat.le_of_ble_eq_true rfl) dX0_digest_80 (Nat.zero_le _) (Nat.zero_le _) hS (fun H locs hsm hS => ?_)
  have hP := hsm.P hP
  refine q_callSL (As := [.long (x_mix (x_mix (x_mix (x_mix (x_mix (x_mix (x_mix (x_mix 1997 (nI N)) (nI wN)) pa) pe) (x_gk f0 f1 f2 f3 2 wN)) (x_gk f0 f1 f2 f3 1 wN)) (nI tN)) ((x_lg f4 wN tN).1)), .int (x_ca f0 f1 f2 f3 (wN - 1))]) (rest := []) ⟨hx, hb, hml, hown, hts⟩ (c_X0_mixed l D (x_mix (x_mix (x_mix (x_mix (x_mix (x_mix (x_mix (x_mix 1997 (nI N)) (nI wN)) pa) pe) (x_gk f0 f1 f2 f3 2 wN)) (x_gk f0 f1 f2 f3 1 wN)) (nI tN)) ((x_lg f4 wN tN).1)) (x_ca f0 f1 f2 f3 (wN - 1))) (va_cwS 2 hts gX0_digest_X0_mixed rfl rfl rfl ks_X0_mixed ⟨Nat.le_of_ble_eq_true rfl, Nat.le_of_ble_eq_true rfl⟩) (hP.sub [] rfl) (hK.sub [] rfl) rfl hl.1 rfl (Nat.le_of_ble_eq_true rfl) dX0_digest_83 (Nat.zero_le _) (Nat.zero_le _) hS (fun H locs hsm hS => ?_)
  have hP := hsm.P hP
  refine lv_lstore_n (lv' := [(1, .long (x_mix (x_mix (x_mix (x_mix (x_mix (x_mix (x_mix (x_mix (x_mix 1997 (nI N)) (nI wN)) pa) pe) (x_gk f0 f1 f2 f3 2 wN)) (x_gk f0 f1 f2 f3 1 wN)) (nI tN)) ((x_lg f4 wN tN).1)) (x_ca f0 f1 f2 f3 (wN - 1)))), (0, .ref (ad 0))]) hx hb dX0_digest_86 rfl hl (by decide) rfl (fun ls hl => ?_)
  refine lv_lload_n hx hb dX0_digest_87 rfl (lv_at hl 0 rfl) ?_
  refine lv_aload_n hx hb dX0_digest_88 rfl (lv_at hl 1 rfl) ?_
  refine q_callV (As := []) (rest := [.long (x_mix (x_mix (x_mix (x_mix (x_mix (x_mix (x_mix (x_mix (x_mix 1997 (nI N)) (nI wN)) pa) pe) (x_gk f0 f1 f2 f3 2 wN)) (x_gk f0 f1 f2 f3 1 wN)) (nI tN)) ((x_lg f4 wN tN).1)) (x_ca f0 f1 f2 f3 (wN - 1)))]) ⟨hx, hb, hml, hown, hts⟩ (c_X0_bestSplice l D cI ad (nI N) wN (nI tN) pa pe f0 f1 f2 f3 f4 hwN) (cwV 0 hts gX0_digest_X0_bestSplice rfl rfl rfl kv_X0_bestSplice ⟨Nat.le_of_ble_eq_true rfl, Nat.le_of_ble_eq_true rfl⟩) (va_recv hK hP (ci := 0) (q0 := 0) rfl rfl) hP hK rfl hl.1 rfl (Nat.le_of_ble_eq_true rfl) dX0_digest_89 (Nat.zero_le _) (Nat.zero_le _) hS (fun H locs hsm hS => ?_)
  have hP := hsm.P hP
  refine q_callSL (As := [.long (x_mix (x_mix (x_mix (x_mix (x_mix (x_mix (x_mix (x_mix (x_mix 1997 (nI N)) (nI wN)) pa) pe) (x_gk f0 f1 f2 f3 2 wN)) (x_gk f0 f1 f2 f3 1 wN)) (nI tN)) ((x_lg f4 wN tN).1)) (x_ca f0 f1 f2 f3 (wN - 1))), .int ((x_bs f0 f1 f2 f3 (wN - 1)).1)]) (rest := []) ⟨hx, hb, hml, hown, hts⟩ (c_X0_mixed l D (x_mix (x_mix (x_mix (x_mix (x_mix (x_mix (x_mix (x_mix (x_mix 1997 (nI N)) (nI wN)) pa) pe) (x_gk f0 f1 f2 f3 2 wN)) (x_gk f0 f1 f2 f3 1 wN)) (nI tN)) ((x_lg f4 wN tN).1)) (x_ca f0 f1 f2 f3 (wN - 1))) ((x_bs f0 f1 f2 f3 (wN - 1)).1)) (va_cwS 2 hts gX0_digest_X0_mixed rfl rfl rfl ks_X0_mixed ⟨Nat.le_of_ble_eq_true rfl, Nat.le_of_ble_eq_true rfl⟩) (hP.sub [] rfl) (hK.sub [] rfl) rfl hl.1 rfl (Nat.le_of_ble_eq_true rfl) dX0_digest_92 (Nat.zero_le _) (Nat.zero_le _) hS (fun H locs hsm hS => ?_)
  have hP := hsm.P hP
  refine lv_lstore_n (lv' := [(1, .long (x_mix (x_mix (x_mix (x_mix (x_mix (x_mix (x_mix (x_mix (x_mix (x_mix 1997 (nI N)) (nI wN)) pa) pe) (x_gk f0 f1 f2 f3 2 wN)) (x_gk f0 f1 f2 f3 1 wN)) (nI tN)) ((x_lg f4 wN tN).1)) (x_ca f0 f1 f2 f3 (wN - 1))) ((x_bs f0 f1 f2 f3 (wN - 1)).1))), (0, .ref (ad 0))]) hx hb dX0_digest_95 rfl hl (by decide) rfl (fun ls hl => ?_)
  refine lv_aload_n hx hb dX0_digest_96 rfl (lv_at hl 1 rfl) ?_
  refine lv_lload_n hx hb dX0_digest_97 rfl (lv_at hl 0 rfl) ?_
  refine q_callVL (As := [.long (x_mix (x_mix (x_mix (x_mix (x_mix (x_mix (x_mix (x_mix (x_mix (x_mix 1997 (nI N)) (nI wN)) pa) pe) (x_gk f0 f1 f2 f3 2 wN)) (x_gk f0 f1 f2 f3 1 wN)) (nI tN)) ((x_lg f4 wN tN).1)) (x_ca f0 f1 f2 f3 (wN - 1))) ((x_bs f0 f1 f2 f3 (wN - 1)).1))]) (rest := []) ⟨hx, hb, hml, hown, hts⟩ (c_X0_mixedWithRemarks l D cI ad N (nI wN) (nI tN) pa pe f0 f1 f2 f3 f4 (x_mix (x_mix (x_mix (x_mix (x_mix (x_mix (x_mix (x_mix (x_mix (x_mix 1997 (nI N)) (nI wN)) pa) pe) (x_gk f0 f1 f2 f3 2 wN)) (x_gk f0 f1 f2 f3 1 wN)) (nI tN)) ((x_lg f4 wN tN).1)) (x_ca f0 f1 f2 f3 (wN - 1))) ((x_bs f0 f1 f2 f3 (wN - 1)).1)) hN) (cwV 1 hts gX0_digest_X0_mixedWithRemarks rfl rfl rfl kv_X0_mixedWithRemarks ⟨Nat.le_of_ble_eq_true rfl, Nat.le_of_ble_eq_true rfl⟩) (va_recv hK hP (ci := 0) (q0 := 0) rfl rfl) hP hK rfl hl.1 rfl (Nat.le_of_ble_eq_true rfl) dX0_digest_98 (Nat.zero_le _) (Nat.zero_le _) hS (fun H locs hsm hS => ?_)
  have hP := hsm.P hP
  refine lv_lstore_n (lv' := [(1, .long (x_mr f0 f1 (x_mix (x_mix (x_mix (x_mix (x_mix (x_mix (x_mix (x_mix (x_mix (x_mix 1997 (nI N)) (nI wN)) pa) pe) (x_gk f0 f1 f2 f3 2 wN)) (x_gk f0 f1 f2 f3 1 wN)) (nI tN)) ((x_lg f4 wN tN).1)) (x_ca f0 f1 f2 f3 (wN - 1))) ((x_bs f0 f1 f2 f3 (wN - 1)).1)) N)), (0, .ref (ad 0))]) hx hb dX0_digest_101 rfl hl (by decide) rfl (fun ls hl => ?_)
  refine lv_aload_n hx hb dX0_digest_102 rfl (lv_at hl 1 rfl) ?_
  refine lv_lload_n hx hb dX0_digest_103 rfl (lv_at hl 0 rfl) ?_
  refine q_callVL (As := [.long (x_mr f0 f1 (x_mix (x_mix (x_mix (x_mix (x_mix (x_mix (x_mix (x_mix (x_mix (x_mix 1997 (nI N)) (nI wN)) pa) pe) (x_gk f0 f1 f2 f3 2 wN)) (x_gk f0 f1 f2 f3 1 wN)) (nI tN)) ((x_lg f4 wN tN).1)) (x_ca f0 f1 f2 f3 (wN - 1))) ((x_bs f0 f1 f2 f3 (wN - 1)).1)) N)]) (rest := []) ⟨hx, hb, hml, hown, hts⟩ (c_X0_mixedWithWords l D cI ad (nI N) wN (nI tN) pa pe f0 f1 f2 f3 f4 (x_mr f0 f1 (x_mix (x_mix (x_mix (x_mix (x_mix (x_mix (x_mix (x_mix (x_mix (x_mix 1997 (nI N)) (nI wN)) pa) pe) (x_gk f0 f1 f2 f3 2 wN)) (x_gk f0 f1 f2 f3 1 wN)) (nI tN)) ((x_lg f4 wN tN).1)) (x_ca f0 f1 f2 f3 (wN - 1))) ((x_bs f0 f1 f2 f3 (wN - 1)).1)) N) hwN) (cwV 1 hts gX0_digest_X0_mixedWithWords rfl rfl rfl kv_X0_mixedWithWords ⟨Nat.le_of_ble_eq_true rfl, Nat.le_of_ble_eq_true rfl⟩) (va_recv hK hP (ci := 0) (q0 := 0) rfl rfl) hP hK rfl hl.1 rfl (Nat.le_of_ble_eq_true rfl) dX0_digest_104 (Nat.zero_le _) (Nat.zero_le _) hS (fun H locs hsm hS => ?_)
  have hP := hsm.P hP
  refine lv_lstore_n (lv' := [(1, .long (x_mw f1 f3 f4 (x_mr f0 f1 (x_mix (x_mix (x_mix (x_mix (x_mix (x_mix (x_mix (x_mix (x_mix (x_mix 1997 (nI N)) (nI wN)) pa) pe) (x_gk f0 f1 f2 f3 2 wN)) (x_gk f0 f1 f2 f3 1 wN)) (nI tN)) ((x_lg f4 wN tN).1)) (x_ca f0 f1 f2 f3 (wN - 1))) ((x_bs f0 f1 f2 f3 (wN - 1)).1)) N) wN)), (0, .ref (ad 0))]) hx hb dX0_digest_107 rfl hl (by decide) rfl (fun ls hl => ?_)
  refine lv_aload_n hx hb dX0_digest_108 rfl (lv_at hl 1 rfl) ?_
  refine lv_lload_n hx hb dX0_digest_109 rfl (lv_at hl 0 rfl) ?_
  refine q_callVL (As := [.long (x_mw f1 f3 f4 (x_mr f0 f1 (x_mix (x_mix (x_mix (x_mix (x_mix (x_mix (x_mix (x_mix (x_mix (x_mix 1997 (nI N)) (nI wN)) pa) pe) (x_gk f0 f1 f2 f3 2 wN)) (x_gk f0 f1 f2 f3 1 wN)) (nI tN)) ((x_lg f4 wN tN).1)) (x_ca f0 f1 f2 f3 (wN - 1))) ((x_bs f0 f1 f2 f3 (wN - 1)).1)) N) wN)]) (rest := []) ⟨hx, hb, hml, hown, hts⟩ (c_X0_mixedWithGaps l D cI ad (nI N) wN (nI tN) pa pe f0 f1 f2 f3 f4 (x_mw f1 f3 f4 (x_mr f0 f1 (x_mix (x_mix (x_mix (x_mix (x_mix (x_mix (x_mix (x_mix (x_mix (x_mix 1997 (nI N)) (nI wN)) pa) pe) (x_gk f0 f1 f2 f3 2 wN)) (x_gk f0 f1 f2 f3 1 wN)) (nI tN)) ((x_lg f4 wN tN).1)) (x_ca f0 f1 f2 f3 (wN - 1))) ((x_bs f0 f1 f2 f3 (wN - 1)).1)) N) wN) hwN) (cwV 1 hts gX0_digest_X0_mixedWithGaps rfl rfl rfl kv_X0_mixedWithGaps ⟨Nat.le_of_ble_eq_true rfl, Nat.le_of_ble_eq_true rfl⟩) (va_recv hK hP (ci := 0) (q0 := 0) rfl rfl) hP hK rfl hl.1 rfl (Nat.le_of_ble_eq_true rfl) dX0_digest_110 (Nat.zero_le _) (Nat.zero_le _) hS (fun H locs hsm hS => ?_)
  have hP := hsm.P hP
  exact q_retL hx hb hr hlocks hS rfl dX0_digest_113
