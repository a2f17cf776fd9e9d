/-! own rows, written by wip/whole/xro.py: the class's methods that only read -/
theorem k_gt (x : Int32) (b : Bool) : (if x_most b < x then (2 : Int32) else 1) = if x ≤ x_most b then 1 else 2 := by
  by_cases h : x ≤ x_most b
  · rw [if_pos h, if_neg (Int32.not_lt.mpr h)]
  · rw [if_neg h, if_pos (Int32.not_le.mp h)]
theorem k_nd (x y z z2 : Int32) : (if (!decide (y < x)) = true then z else z2) = if x ≤ y then z else z2 := by
  by_cases h : x ≤ y
  · rw [if_pos h, decide_eq_false (Int32.not_lt.mpr h)]; rfl
  · rw [if_neg h, decide_eq_true (Int32.not_le.mp h)]; rfl
theorem k_mc (x y : Int32) (z : Int32) : (if (!decide (y < x)) = true then z else 3) = if x ≤ y then z else 3 := by
  by_cases h : x ≤ y
  · rw [if_pos h, decide_eq_false (Int32.not_lt.mpr h)]; rfl
  · rw [if_neg h, decide_eq_true (Int32.not_le.mp h)]; rfl
theorem x_lg_s (f4 : Nat → Int32) (N t : Nat) : x_lg f4 N (t + 1) = if (x_lg f4 N t).2 < x_wt f4 (nI t) N then (nI t, x_wt f4 (nI t) N) else x_lg f4 N t := rfl
theorem x_bs_s (f0 f1 f2 f3 : Nat → Int32) (g : Nat) : x_bs f0 f1 f2 f3 (g + 1) = if x_ti f2 f3 (nI g) = false ∧ x_bc f0 f1 f2 f3 (nI g) < (x_bs f0 f1 f2 f3 g).2 then (nI g, x_bc f0 f1 f2 f3 (nI g)) else x_bs f0 f1 f2 f3 g := rfl
def x_ms (f1 f3 : Nat → Int32) (wN : Nat) : UInt64 := if wN - 1 = 0 then FP.dconst0 else FP.ddiv (FP.i2d (x_ss f1 f3 (wN - 1))) (FP.i2d (nI (wN - 1)))
theorem kv_X0_read : yX0_read.cls = RX0 ∧ yX0_read.cls ≠ "java/lang/invoke/MethodHandle" ∧ yX0_read.cls ≠ "java/lang/invoke/VarHandle" ∧ (parseMethodDescriptor yX0_read.desc).map (fun d => d.parameters.length) = some 2 := by decide +kernel
theorem ks_X0_read : yX0_read.cls ≠ "java/lang/invoke/MethodHandle" ∧ yX0_read.cls ≠ "java/lang/invoke/VarHandle" ∧ (parseMethodDescriptor yX0_read.desc).map (fun d => d.parameters.length) = some 2 := kv_X0_read.2
set_option maxHeartbeats 4000000 in
set_option maxRecDepth 100000 in
theorem c_X0_read (l : Launch) (D : va_G) (cI : ClassId) (a : Nat) (f : Nat → Int32) (x1 : Int32) : q_I l yX0_read wsX0_read ({ frames := 0, cells := 0, slots := 0, locals := 0 } : Room) D ([(cI, .int)]) ([(a, .inl (cI, 24, .inl f))]) [.ref a, .int x1] (rd f x1) := by
  refine q_startI (cc := cX0_read) (maxL := 2) (rt := .int) (by decide) rfl (Nat.le_of_ble_eq_true rfl) ?_
  intro p e s m below meth c hx hb hml hr hts hown hlocks hK H locs ls hP hS hl
  have hl : lv_has ls 2 [(0, .ref a), (1, .int x1)] := hl
  refine lv_iload_n hx hb dX0_read_0 rfl (lv_at hl 1 rfl) ?_
  refine lv_if_lt (tgt := 16) hx hb dX0_read_1 (by decide) (fun c_1 => ?_) (fun c_1 => ?_)
  · refine lv_iconst (v := 0) hx hb dX0_read_16 (by decide) ?_
    exact q_retI hx hb hr hlocks hS (by rw [rd, if_pos c_1]) dX0_read_17
  · refine lv_iload_n hx hb dX0_read_4 rfl (lv_at hl 1 rfl) ?_
    refine lv_aload_n hx hb dX0_read_5 rfl (lv_at hl 0 rfl) ?_
    refine va_alen hx hb hK hP 0 0 rfl rfl (v := 24) rfl dX0_read_6 ?_
    refine lv_icmp_ge (tgt := 16) hx hb dX0_read_7 (by decide) (fun c_7 => ?_) (fun c_7 => ?_)
    · refine lv_iconst (v := 0) hx hb dX0_read_16 (by decide) ?_
      exact q_retI hx hb hr hlocks hS (by rw [rd, if_neg c_1, if_pos c_7]) dX0_read_17
    · refine lv_aload_n hx hb dX0_read_10 rfl (lv_at hl 0 rfl) ?_
      refine lv_iload_n hx hb dX0_read_11 rfl (lv_at hl 1 rfl) ?_
      refine va_iald hx hb hK hP 0 0 rfl rfl (vp_in_c rfl (by decide) c_1 c_7) dX0_read_12 ?_
      refine lv_goto (tgt := 17) hx hb dX0_read_13 (by decide) ?_
      exact q_retI hx hb hr hlocks hS (by rw [rd, if_neg c_1, if_neg c_7]) dX0_read_17

theorem kv_X0_topicDistance : yX0_topicDistance.cls = RX0 ∧ yX0_topicDistance.cls ≠ "java/lang/invoke/MethodHandle" ∧ yX0_topicDistance.cls ≠ "java/lang/invoke/VarHandle" ∧ (parseMethodDescriptor yX0_topicDistance.desc).map (fun d => d.parameters.length) = some 2 := by decide +kernel
theorem ks_X0_topicDistance : yX0_topicDistance.cls ≠ "java/lang/invoke/MethodHandle" ∧ yX0_topicDistance.cls ≠ "java/lang/invoke/VarHandle" ∧ (parseMethodDescriptor yX0_topicDistance.desc).map (fun d => d.parameters.length) = some 2 := kv_X0_topicDistance.2
set_option maxHeartbeats 4000000 in
set_option maxRecDepth 100000 in
theorem c_X0_topicDistance (l : Launch) (D : va_G) (x1 : Int32) (x2 : Int32) : q_I l yX0_topicDistance wsX0_topicDistance ({ frames := 1, cells := 0, slots := 0, locals := 21 } : Room) D ([]) ([]) [.int x1, .int x2] (x_ds x1 x2) := by
  refine q_startI (cc := cX0_topicDistance) (maxL := 3) (rt := .int) (by decide) rfl (Nat.le_of_ble_eq_true rfl) ?_
  intro p e s m below meth c hx hb hml hr hts hown hlocks hK H locs ls hP hS hl
  have hl : lv_has ls 3 [(0, .int x1), (1, .int x2)] := hl
  refine lv_iload_n hx hb dX0_topicDistance_0 rfl (lv_at hl 0 rfl) ?_
  refine lv_iload_n hx hb dX0_topicDistance_1 rfl (lv_at hl 1 rfl) ?_
  refine lv_isub hx hb dX0_topicDistance_2 ?_
  refine va_mabs hx hb (hml.trans hl.1.symm) hown (hts (.methodLink RX0 228 Lib.Math.abs.name) (by decide +kernel)) (hts (.static Lib.Math.abs.name) (by decide +kernel)) (hts (.initialized "java/lang/Math") (by decide +kernel)) (hts (.code Lib.Math.abs.name Lib.Math.abs.code 1 (some .int)) (by decide +kernel)) (Nat.le_of_ble_eq_true rfl) (Nat.le_of_ble_eq_true rfl) (Nat.zero_le _) (Nat.zero_le _) dX0_topicDistance_3 ?_
  refine lv_istore_n (lv' := [(2, .int (i_abs (x1 - x2))), (0, .int x1), (1, .int x2)]) hx hb dX0_topicDistance_6 rfl hl (by decide) rfl (fun ls hl => ?_)
  refine lv_iload_n hx hb dX0_topicDistance_7 rfl (lv_at hl 0 rfl) ?_
  refine lv_bipush (v := 10) hx hb dX0_topicDistance_8 (by decide) ?_
  refine lv_iload_n hx hb dX0_topicDistance_10 rfl (lv_at hl 0 rfl) ?_
  refine lv_isub hx hb dX0_topicDistance_11 ?_
  refine va_mmin hx hb (hml.trans hl.1.symm) hown (hts (.methodLink RX0 111 Lib.Math.min.name) (by decide +kernel)) (hts (.static Lib.Math.min.name) (by decide +kernel)) (hts (.initialized "java/lang/Math") (by decide +kernel)) (hts (.code Lib.Math.min.name Lib.Math.min.code 2 (some .int)) (by decide +kernel)) (Nat.le_of_ble_eq_true rfl) (Nat.le_of_ble_eq_true rfl) (Nat.zero_le _) (Nat.zero_le _) dX0_topicDistance_12 ?_
  exact q_retI hx hb hr hlocks hS rfl dX0_topicDistance_15

theorem kv_X0_mostUnbrokenStrain : yX0_mostUnbrokenStrain.cls = RX0 ∧ yX0_mostUnbrokenStrain.cls ≠ "java/lang/invoke/MethodHandle" ∧ yX0_mostUnbrokenStrain.cls ≠ "java/lang/invoke/VarHandle" ∧ (parseMethodDescriptor yX0_mostUnbrokenStrain.desc).map (fun d => d.parameters.length) = some 1 := by decide +kernel
theorem ks_X0_mostUnbrokenStrain : yX0_mostUnbrokenStrain.cls ≠ "java/lang/invoke/MethodHandle" ∧ yX0_mostUnbrokenStrain.cls ≠ "java/lang/invoke/VarHandle" ∧ (parseMethodDescriptor yX0_mostUnbrokenStrain.desc).map (fun d => d.parameters.length) = some 1 := kv_X0_mostUnbrokenStrain.2
set_option maxHeartbeats 4000000 in
set_option maxRecDepth 100000 in
theorem c_X0_mostUnbrokenStrain (l : Launch) (D : va_G) (b1 : Bool) : q_I l yX0_mostUnbrokenStrain wsX0_mostUnbrokenStrain ({ frames := 0, cells := 0, slots := 0, locals := 0 } : Room) D ([]) ([]) [.int (bI b1)] (x_most b1) := by
  refine q_startI (cc := cX0_mostUnbrokenStrain) (maxL := 1) (rt := .int) (by decide) rfl (Nat.le_of_ble_eq_true rfl) ?_
  intro p e s m below meth c hx hb hml hr hts hown hlocks hK H locs ls hP hS hl
  have hl : lv_has ls 1 [(0, .int (bI b1))] := hl
  refine lv_iload_n hx hb dX0_mostUnbrokenStrain_0 rfl (lv_at hl 0 rfl) ?_
  suffices K_1 : ∀ v9 : Int32, v9 = (if b1 = true then (4 : Int32) else 2) → W p l e ({ frames := 0, cells := 0, slots := 0, locals := 0 } : Room) s m [.int (bI b1)].toArray below meth c H locs 0 0 (q_EI below [.int (bI b1)].toArray s (x_most b1)) (F0 m 9 ls [.int v9]) from by
    refine lv_if_eq (tgt := 8) hx hb dX0_mostUnbrokenStrain_1 (by decide) (fun c_1 => ?_) (fun c_1 => ?_)
    · refine lv_iconst (v := 2) hx hb dX0_mostUnbrokenStrain_8 (by decide) ?_
      exact K_1 _ (if_neg (by rw [bI_0.mp c_1]; exact Bool.false_ne_true)).symm
    · refine lv_iconst (v := 4) hx hb dX0_mostUnbrokenStrain_4 (by decide) ?_
      refine lv_goto (tgt := 9) hx hb dX0_mostUnbrokenStrain_5 (by decide) ?_
      exact K_1 _ (if_pos (bI_n0.mp c_1)).symm
  intro v9 hv9
  rw [hv9]; clear hv9
  exact q_retI hx hb hr hlocks hS rfl dX0_mostUnbrokenStrain_9

theorem kv_X0_kindOf : yX0_kindOf.cls = RX0 ∧ yX0_kindOf.cls ≠ "java/lang/invoke/MethodHandle" ∧ yX0_kindOf.cls ≠ "java/lang/invoke/VarHandle" ∧ (parseMethodDescriptor yX0_kindOf.desc).map (fun d => d.parameters.length) = some 3 := by decide +kernel
theorem ks_X0_kindOf : yX0_kindOf.cls ≠ "java/lang/invoke/MethodHandle" ∧ yX0_kindOf.cls ≠ "java/lang/invoke/VarHandle" ∧ (parseMethodDescriptor yX0_kindOf.desc).map (fun d => d.parameters.length) = some 3 := kv_X0_kindOf.2
set_option maxHeartbeats 4000000 in
set_option maxRecDepth 100000 in
theorem c_X0_kindOf (l : Launch) (D : va_G) (b1 : Bool) (x2 : Int32) (b3 : Bool) : q_I l yX0_kindOf wsX0_kindOf ({ frames := 1, cells := 0, slots := 0, locals := 20 } : Room) D ([]) ([]) [.int (bI b1), .int x2, .int (bI b3)] (x_kind b1 x2 b3) := by
  refine q_startI (cc := cX0_kindOf) (maxL := 3) (rt := .int) (by decide) rfl (Nat.le_of_ble_eq_true rfl) ?_
  intro p e s m below meth c hx hb hml hr hts hown hlocks hK H locs ls hP hS hl
  have hl : lv_has ls 3 [(0, .int (bI b1)), (1, .int x2), (2, .int (bI b3))] := hl
  refine lv_iload_n hx hb dX0_kindOf_0 rfl (lv_at hl 0 rfl) ?_
  refine lv_if_ne (tgt := 9) hx hb dX0_kindOf_1 (by decide) (fun c_1 => ?_) (fun c_1 => ?_)
  · refine lv_iconst (v := 0) hx hb dX0_kindOf_9 (by decide) ?_
    exact q_retI hx hb hr hlocks hS (by rw [x_kind, if_pos (bI_n0.mp c_1)]) dX0_kindOf_10
  · refine lv_iload_n hx hb dX0_kindOf_4 rfl (lv_at hl 1 rfl) ?_
    refine lv_iconst (v := 1) hx hb dX0_kindOf_5 (by decide) ?_
    refine lv_icmp_gt (tgt := 11) hx hb dX0_kindOf_6 (by decide) (fun c_6 => ?_) (fun c_6 => ?_)
    · refine lv_iload_n hx hb dX0_kindOf_11 rfl (lv_at hl 1 rfl) ?_
      refine lv_iload_n hx hb dX0_kindOf_12 rfl (lv_at hl 2 rfl) ?_
      refine q_callS (As := [.int (bI b3)]) (rest := [.int x2]) ⟨hx, hb, hml, hown, hts⟩ (c_X0_mostUnbrokenStrain l D b3) (va_cwS 1 hts gX0_kindOf_X0_mostUnbrokenStrain rfl rfl rfl ks_X0_mostUnbrokenStrain ⟨Nat.le_of_ble_eq_true rfl, Nat.le_of_ble_eq_true rfl⟩) (hP.sub [] rfl) (hK.sub [] rfl) rfl hl.1 rfl (Nat.le_of_ble_eq_true rfl) dX0_kindOf_13 (Nat.zero_le _) (Nat.zero_le _) hS (fun H locs hsm hS => ?_)
      have hP := hsm.P hP
      suffices K_16 : ∀ v9 : Int32, v9 = (if (x_most b3) < x2 then (2 : Int32) else 1) → W p l e ({ frames := 1, cells := 0, slots := 0, locals := 20 } : Room) s m [.int (bI b1), .int x2, .int (bI b3)].toArray below meth c H locs 0 0 (q_EI below [.int (bI b1), .int x2, .int (bI b3)].toArray s (x_kind b1 x2 b3)) (F0 m 24 ls [.int v9]) from by
        refine lv_icmp_gt (tgt := 23) hx hb dX0_kindOf_16 (by decide) (fun c_16 => ?_) (fun c_16 => ?_)
        · refine lv_iconst (v := 2) hx hb dX0_kindOf_23 (by decide) ?_
          exact K_16 _ (if_pos c_16).symm
        · refine lv_iconst (v := 1) hx hb dX0_kindOf_19 (by decide) ?_
          refine lv_goto (tgt := 24) hx hb dX0_kindOf_20 (by decide) ?_
          exact K_16 _ (if_neg c_16).symm
      intro v9 hv9
      rw [hv9]; clear hv9
      exact q_retI hx hb hr hlocks hS (by rw [x_kind, bI_0.mp c_1, if_neg Bool.false_ne_true, if_neg (Int32.not_le.mpr c_6)]; exact k_gt _ _) dX0_kindOf_24
    · refine lv_iconst (v := 0) hx hb dX0_kindOf_9 (by decide) ?_
      exact q_retI hx hb hr hlocks hS (by rw [x_kind, bI_0.mp c_1, if_neg Bool.false_ne_true, if_pos (Int32.not_lt.mp c_6)]) dX0_kindOf_10

theorem kv_X0_coughStandsAt : yX0_coughStandsAt.cls = RX0 ∧ yX0_coughStandsAt.cls ≠ "java/lang/invoke/MethodHandle" ∧ yX0_coughStandsAt.cls ≠ "java/lang/invoke/VarHandle" ∧ (parseMethodDescriptor yX0_coughStandsAt.desc).map (fun d => d.parameters.length) = some 1 := by decide +kernel
theorem ks_X0_coughStandsAt : yX0_coughStandsAt.cls ≠ "java/lang/invoke/MethodHandle" ∧ yX0_coughStandsAt.cls ≠ "java/lang/invoke/VarHandle" ∧ (parseMethodDescriptor yX0_coughStandsAt.desc).map (fun d => d.parameters.length) = some 1 := kv_X0_coughStandsAt.2
set_option maxHeartbeats 4000000 in
set_option maxRecDepth 100000 in
theorem c_X0_coughStandsAt (l : Launch) (D : va_G) (cI : ClassId) (ad : Nat → Nat) (n : Int32) (w : Int32) (t : Int32) (pa pe : Int32) (f0 f1 f2 f3 f4 : Nat → Int32) (x1 : Int32) : q_I l yX0_coughStandsAt wsX0_coughStandsAt ({ frames := 1, cells := 0, slots := 0, locals := 21 } : Room) D ([(cI, .int)]) (xw cI ad n w t pa pe f0 f1 f2 f3 f4) [.ref (ad 0), .int x1] (bI (x_cs f1 x1)) := by
  refine q_startI (cc := cX0_coughStandsAt) (maxL := 2) (rt := .boolean) (by decide) rfl (Nat.le_of_ble_eq_true rfl) ?_
  intro p e s m below meth c hx hb hml hr hts hown hlocks hK H locs ls hP hS hl
  have hin : ∀ w ∈ wsX00, w ∈ wsX0_coughStandsAt := by decide +kernel
  have hl : lv_has ls 2 [(0, .ref (ad 0)), (1, .int x1)] := hl
  refine lv_aload_n hx hb dX0_coughStandsAt_0 rfl (lv_at hl 0 rfl) ?_
  refine va_get (D := D) (ci := 0) (v := .ref (ad 2)) (C := RX0) (T := TX0) (N := 10) hx hb hts hin hown hK hP 0 rfl rfl 1 (by decide) (hts (.fieldLink RX0 13 "SplicedTalk" "topics" "[I") (by decide +kernel)) (fun _ h9 => h9) rfl dX0_coughStandsAt_1 ?_
  refine lv_iload_n hx hb dX0_coughStandsAt_4 rfl (lv_at hl 1 rfl) ?_
  refine q_callS (As := [.ref (ad 2), .int x1]) (rest := []) ⟨hx, hb, hml, hown, hts⟩ (c_X0_read l D cI (ad 2) f1 x1) (va_cwS 2 hts gX0_coughStandsAt_X0_read rfl rfl rfl ks_X0_read ⟨Nat.le_of_ble_eq_true rfl, Nat.le_of_ble_eq_true rfl⟩) (hP.sub [2] rfl) hK rfl hl.1 rfl (Nat.le_of_ble_eq_true rfl) dX0_coughStandsAt_5 (Nat.zero_le _) (Nat.zero_le _) hS (fun H locs hsm hS => ?_)
  have hP := hsm.P hP
  refine lv_iconst (v := -1) hx hb dX0_coughStandsAt_8 (by decide) ?_
  suffices K_9 : ∀ v9 : Int32, v9 = (bI (decide ((rd f1 x1) = (-1)))) → W p l e ({ frames := 1, cells := 0, slots := 0, locals := 21 } : Room) s m [.ref (ad 0), .int x1].toArray below meth c H locs 0 0 (q_EI below [.ref (ad 0), .int x1].toArray s (bI (x_cs f1 x1))) (F0 m 17 ls [.int v9]) from by
    refine lv_icmp_ne (tgt := 16) hx hb dX0_coughStandsAt_9 (by decide) (fun c_9 => ?_) (fun c_9 => ?_)
    · refine lv_iconst (v := 0) hx hb dX0_coughStandsAt_16 (by decide) ?_
      exact K_9 _ (bI_df c_9)
    · refine lv_iconst (v := 1) hx hb dX0_coughStandsAt_12 (by decide) ?_
      refine lv_goto (tgt := 17) hx hb dX0_coughStandsAt_13 (by decide) ?_
      exact K_9 _ (bI_dt c_9)
  intro v9 hv9
  rw [hv9]; clear hv9
  exact q_retZ hx hb hr hlocks hS rfl (bI_01 _) dX0_coughStandsAt_17

theorem kv_X0_speakerOfWord : yX0_speakerOfWord.cls = RX0 ∧ yX0_speakerOfWord.cls ≠ "java/lang/invoke/MethodHandle" ∧ yX0_speakerOfWord.cls ≠ "java/lang/invoke/VarHandle" ∧ (parseMethodDescriptor yX0_speakerOfWord.desc).map (fun d => d.parameters.length) = some 1 := by decide +kernel
theorem ks_X0_speakerOfWord : yX0_speakerOfWord.cls ≠ "java/lang/invoke/MethodHandle" ∧ yX0_speakerOfWord.cls ≠ "java/lang/invoke/VarHandle" ∧ (parseMethodDescriptor yX0_speakerOfWord.desc).map (fun d => d.parameters.length) = some 1 := kv_X0_speakerOfWord.2
set_option maxHeartbeats 4000000 in
set_option maxRecDepth 100000 in
theorem c_X0_speakerOfWord (l : Launch) (D : va_G) (cI : ClassId) (ad : Nat → Nat) (n : Int32) (w : Int32) (t : Int32) (pa pe : Int32) (f0 f1 f2 f3 f4 : Nat → Int32) (x1 : Int32) : q_I l yX0_speakerOfWord wsX0_speakerOfWord ({ frames := 1, cells := 0, slots := 0, locals := 21 } : Room) D ([(cI, .int)]) (xw cI ad n w t pa pe f0 f1 f2 f3 f4) [.ref (ad 0), .int x1] (x_sp f0 f3 x1) := by
  refine q_startI (cc := cX0_speakerOfWord) (maxL := 2) (rt := .int) (by decide) rfl (Nat.le_of_ble_eq_true rfl) ?_
  intro p e s m below meth c hx hb hml hr hts hown hlocks hK H locs ls hP hS hl
  have hin : ∀ w ∈ wsX00, w ∈ wsX0_speakerOfWord := by decide +kernel
  have hl : lv_has ls 2 [(0, .ref (ad 0)), (1, .int x1)] := hl
  refine lv_aload_n hx hb dX0_speakerOfWord_0 rfl (lv_at hl 0 rfl) ?_
  refine va_get (D := D) (ci := 0) (v := .ref (ad 1)) (C := RX0) (T := TX0) (N := 10) hx hb hts hin hown hK hP 0 rfl rfl 0 (by decide) (hts (.fieldLink RX0 9 "SplicedTalk" "speakers" "[I") (by decide +kernel)) (fun _ h9 => h9) rfl dX0_speakerOfWord_1 ?_
  refine lv_aload_n hx hb dX0_speakerOfWord_4 rfl (lv_at hl 0 rfl) ?_
  refine va_get (D := D) (ci := 0) (v := .ref (ad 4)) (C := RX0) (T := TX0) (N := 10) hx hb hts hin hown hK hP 0 rfl rfl 4 (by decide) (hts (.fieldLink RX0 19 "SplicedTalk" "wordPlaces" "[I") (by decide +kernel)) (fun _ h9 => h9) rfl dX0_speakerOfWord_5 ?_
  refine lv_iload_n hx hb dX0_speakerOfWord_8 rfl (lv_at hl 1 rfl) ?_
  refine q_callS (As := [.ref (ad 4), .int x1]) (rest := [.ref (ad 1)]) ⟨hx, hb, hml, hown, hts⟩ (c_X0_read l D cI (ad 4) f3 x1) (va_cwS 2 hts gX0_speakerOfWord_X0_read rfl rfl rfl ks_X0_read ⟨Nat.le_of_ble_eq_true rfl, Nat.le_of_ble_eq_true rfl⟩) (hP.sub [4] rfl) hK rfl hl.1 rfl (Nat.le_of_ble_eq_true rfl) dX0_speakerOfWord_9 (Nat.zero_le _) (Nat.zero_le _) hS (fun H locs hsm hS => ?_)
  have hP := hsm.P hP
  refine q_callS (As := [.ref (ad 1), .int (rd f3 x1)]) (rest := []) ⟨hx, hb, hml, hown, hts⟩ (c_X0_read l D cI (ad 1) f0 (rd f3 x1)) (va_cwS 2 hts gX0_speakerOfWord_X0_read rfl rfl rfl ks_X0_read ⟨Nat.le_of_ble_eq_true rfl, Nat.le_of_ble_eq_true rfl⟩) (hP.sub [1] rfl) hK rfl hl.1 rfl (Nat.le_of_ble_eq_true rfl) dX0_speakerOfWord_12 (Nat.zero_le _) (Nat.zero_le _) hS (fun H locs hsm hS => ?_)
  have hP := hsm.P hP
  exact q_retI hx hb hr hlocks hS rfl dX0_speakerOfWord_15

theorem kv_X0_topicOfWord : yX0_topicOfWord.cls = RX0 ∧ yX0_topicOfWord.cls ≠ "java/lang/invoke/MethodHandle" ∧ yX0_topicOfWord.cls ≠ "java/lang/invoke/VarHandle" ∧ (parseMethodDescriptor yX0_topicOfWord.desc).map (fun d => d.parameters.length) = some 1 := by decide +kernel
theorem ks_X0_topicOfWord : yX0_topicOfWord.cls ≠ "java/lang/invoke/MethodHandle" ∧ yX0_topicOfWord.cls ≠ "java/lang/invoke/VarHandle" ∧ (parseMethodDescriptor yX0_topicOfWord.desc).map (fun d => d.parameters.length) = some 1 := kv_X0_topicOfWord.2
set_option maxHeartbeats 4000000 in
set_option maxRecDepth 100000 in
theorem c_X0_topicOfWord (l : Launch) (D : va_G) (cI : ClassId) (ad : Nat → Nat) (n : Int32) (w : Int32) (t : Int32) (pa pe : Int32) (f0 f1 f2 f3 f4 : Nat → Int32) (x1 : Int32) : q_I l yX0_topicOfWord wsX0_topicOfWord ({ frames := 1, cells := 0, slots := 0, locals := 21 } : Room) D ([(cI, .int)]) (xw cI ad n w t pa pe f0 f1 f2 f3 f4) [.ref (ad 0), .int x1] (x_tp f1 f3 x1) := by
  refine q_startI (cc := cX0_topicOfWord) (maxL := 2) (rt := .int) (by decide) rfl (Nat.le_of_ble_eq_true rfl) ?_
  intro p e s m below meth c hx hb hml hr hts hown hlocks hK H locs ls hP hS hl
  have hin : ∀ w ∈ wsX00, w ∈ wsX0_topicOfWord := by decide +kernel
  have hl : lv_has ls 2 [(0, .ref (ad 0)), (1, .int x1)] := hl
  refine lv_aload_n hx hb dX0_topicOfWord_0 rfl (lv_at hl 0 rfl) ?_
  refine va_get (D := D) (ci := 0) (v := .ref (ad 2)) (C := RX0) (T := TX0) (N := 10) hx hb hts hin hown hK hP 0 rfl rfl 1 (by decide) (hts (.fieldLink RX0 13 "SplicedTalk" "topics" "[I") (by decide +kernel)) (fun _ h9 => h9) rfl dX0_topicOfWord_1 ?_
  refine lv_aload_n hx hb dX0_topicOfWord_4 rfl (lv_at hl 0 rfl) ?_
  refine va_get (D := D) (ci := 0) (v := .ref (ad 4)) (C := RX0) (T := TX0) (N := 10) hx hb hts hin hown hK hP 0 rfl rfl 4 (by decide) (hts (.fieldLink RX0 19 "SplicedTalk" "wordPlaces" "[I") (by decide +kernel)) (fun _ h9 => h9) rfl dX0_topicOfWord_5 ?_
  refine lv_iload_n hx hb dX0_topicOfWord_8 rfl (lv_at hl 1 rfl) ?_
  refine q_callS (As := [.ref (ad 4), .int x1]) (rest := [.ref (ad 2)]) ⟨hx, hb, hml, hown, hts⟩ (c_X0_read l D cI (ad 4) f3 x1) (va_cwS 2 hts gX0_topicOfWord_X0_read rfl rfl rfl ks_X0_read ⟨Nat.le_of_ble_eq_true rfl, Nat.le_of_ble_eq_true rfl⟩) (hP.sub [4] rfl) hK rfl hl.1 rfl (Nat.le_of_ble_eq_true rfl) dX0_topicOfWord_9 (Nat.zero_le _) (Nat.zero_le _) hS (fun H locs hsm hS => ?_)
  have hP := hsm.P hP
  refine q_callS (As := [.ref (ad 2), .int (rd f3 x1)]) (rest := []) ⟨hx, hb, hml, hown, hts⟩ (c_X0_read l D cI (ad 2) f1 (rd f3 x1)) (va_cwS 2 hts gX0_topicOfWord_X0_read rfl rfl rfl ks_X0_read ⟨Nat.le_of_ble_eq_true rfl, Nat.le_of_ble_eq_true rfl⟩) (hP.sub [2] rfl) hK rfl hl.1 rfl (Nat.le_of_ble_eq_true rfl) dX0_topicOfWord_12 (Nat.zero_le _) (Nat.zero_le _) hS (fun H locs hsm hS => ?_)
  have hP := hsm.P hP
  exact q_retI hx hb hr hlocks hS rfl dX0_topicOfWord_15

theorem kv_X0_threadOfWord : yX0_threadOfWord.cls = RX0 ∧ yX0_threadOfWord.cls ≠ "java/lang/invoke/MethodHandle" ∧ yX0_threadOfWord.cls ≠ "java/lang/invoke/VarHandle" ∧ (parseMethodDescriptor yX0_threadOfWord.desc).map (fun d => d.parameters.length) = some 1 := by decide +kernel
theorem ks_X0_threadOfWord : yX0_threadOfWord.cls ≠ "java/lang/invoke/MethodHandle" ∧ yX0_threadOfWord.cls ≠ "java/lang/invoke/VarHandle" ∧ (parseMethodDescriptor yX0_threadOfWord.desc).map (fun d => d.parameters.length) = some 1 := kv_X0_threadOfWord.2
set_option maxHeartbeats 4000000 in
set_option maxRecDepth 100000 in
theorem c_X0_threadOfWord (l : Launch) (D : va_G) (cI : ClassId) (ad : Nat → Nat) (n : Int32) (w : Int32) (t : Int32) (pa pe : Int32) (f0 f1 f2 f3 f4 : Nat → Int32) (x1 : Int32) : q_I l yX0_threadOfWord wsX0_threadOfWord ({ frames := 1, cells := 0, slots := 0, locals := 21 } : Room) D ([(cI, .int)]) (xw cI ad n w t pa pe f0 f1 f2 f3 f4) [.ref (ad 0), .int x1] (rd f4 x1) := by
  refine q_startI (cc := cX0_threadOfWord) (maxL := 2) (rt := .int) (by decide) rfl (Nat.le_of_ble_eq_true rfl) ?_
  intro p e s m below meth c hx hb hml hr hts hown hlocks hK H locs ls hP hS hl
  have hin : ∀ w ∈ wsX00, w ∈ wsX0_threadOfWord := by decide +kernel
  have hl : lv_has ls 2 [(0, .ref (ad 0)), (1, .int x1)] := hl
  refine lv_aload_n hx hb dX0_threadOfWord_0 rfl (lv_at hl 0 rfl) ?_
  refine va_get (D := D) (ci := 0) (v := .ref (ad 5)) (C := RX0) (T := TX0) (N := 10) hx hb hts hin hown hK hP 0 rfl rfl 5 (by decide) (hts (.fieldLink RX0 22 "SplicedTalk" "wordThreads" "[I") (by decide +kernel)) (fun _ h9 => h9) rfl dX0_threadOfWord_1 ?_
  refine lv_iload_n hx hb dX0_threadOfWord_4 rfl (lv_at hl 1 rfl) ?_
  refine q_callS (As := [.ref (ad 5), .int x1]) (rest := []) ⟨hx, hb, hml, hown, hts⟩ (c_X0_read l D cI (ad 5) f4 x1) (va_cwS 2 hts gX0_threadOfWord_X0_read rfl rfl rfl ks_X0_read ⟨Nat.le_of_ble_eq_true rfl, Nat.le_of_ble_eq_true rfl⟩) (hP.sub [5] rfl) hK rfl hl.1 rfl (Nat.le_of_ble_eq_true rfl) dX0_threadOfWord_5 (Nat.zero_le _) (Nat.zero_le _) hS (fun H locs hsm hS => ?_)
  have hP := hsm.P hP
  exact q_retI hx hb hr hlocks hS rfl dX0_threadOfWord_8

theorem kv_X0_gapTied : yX0_gapTied.cls = RX0 ∧ yX0_gapTied.cls ≠ "java/lang/invoke/MethodHandle" ∧ yX0_gapTied.cls ≠ "java/lang/invoke/VarHandle" ∧ (parseMethodDescriptor yX0_gapTied.desc).map (fun d => d.parameters.length) = some 1 := by decide +kernel
theorem ks_X0_gapTied : yX0_gapTied.cls ≠ "java/lang/invoke/MethodHandle" ∧ yX0_gapTied.cls ≠ "java/lang/invoke/VarHandle" ∧ (parseMethodDescriptor yX0_gapTied.desc).map (fun d => d.parameters.length) = some 1 := kv_X0_gapTied.2
set_option maxHeartbeats 4000000 in
set_option maxRecDepth 100000 in
theorem c_X0_gapTied (l : Launch) (D : va_G) (cI : ClassId) (ad : Nat → Nat) (n : Int32) (w : Int32) (t : Int32) (pa pe : Int32) (f0 f1 f2 f3 f4 : Nat → Int32) (x1 : Int32) : q_I l yX0_gapTied wsX0_gapTied ({ frames := 1, cells := 0, slots := 0, locals := 21 } : Room) D ([(cI, .int)]) (xw cI ad n w t pa pe f0 f1 f2 f3 f4) [.ref (ad 0), .int x1] (bI (x_ti f2 f3 x1)) := by
  refine q_startI (cc := cX0_gapTied) (maxL := 2) (rt := .boolean) (by decide) rfl (Nat.le_of_ble_eq_true rfl) ?_
  intro p e s m below meth c hx hb hml hr hts hown hlocks hK H locs ls hP hS hl
  have hin : ∀ w ∈ wsX00, w ∈ wsX0_gapTied := by decide +kernel
  have hl : lv_has ls 2 [(0, .ref (ad 0)), (1, .int x1)] := hl
  refine lv_aload_n hx hb dX0_gapTied_0 rfl (lv_at hl 0 rfl) ?_
  refine va_get (D := D) (ci := 0) (v := .ref (ad 3)) (C := RX0) (T := TX0) (N := 10) hx hb hts hin hown hK hP 0 rfl rfl 2 (by decide) (hts (.fieldLink RX0 16 "SplicedTalk" "ties" "[I") (by decide +kernel)) (fun _ h9 => h9) rfl dX0_gapTied_1 ?_
  refine lv_aload_n hx hb dX0_gapTied_4 rfl (lv_at hl 0 rfl) ?_
  refine va_get (D := D) (ci := 0) (v := .ref (ad 4)) (C := RX0) (T := TX0) (N := 10) hx hb hts hin hown hK hP 0 rfl rfl 4 (by decide) (hts (.fieldLink RX0 19 "SplicedTalk" "wordPlaces" "[I") (by decide +kernel)) (fun _ h9 => h9) rfl dX0_gapTied_5 ?_
  refine lv_iload_n hx hb dX0_gapTied_8 rfl (lv_at hl 1 rfl) ?_
  refine q_callS (As := [.ref (ad 4), .int x1]) (rest := [.ref (ad 3)]) ⟨hx, hb, hml, hown, hts⟩ (c_X0_read l D cI (ad 4) f3 x1) (va_cwS 2 hts gX0_gapTied_X0_read rfl rfl rfl ks_X0_read ⟨Nat.le_of_ble_eq_true rfl, Nat.le_of_ble_eq_true rfl⟩) (hP.sub [4] rfl) hK rfl hl.1 rfl (Nat.le_of_ble_eq_true rfl) dX0_gapTied_9 (Nat.zero_le _) (Nat.zero_le _) hS (fun H locs hsm hS => ?_)
  have hP := hsm.P hP
  refine q_callS (As := [.ref (ad 3), .int (rd f3 x1)]) (rest := []) ⟨hx, hb, hml, hown, hts⟩ (c_X0_read l D cI (ad 3) f2 (rd f3 x1)) (va_cwS 2 hts gX0_gapTied_X0_read rfl rfl rfl ks_X0_read ⟨Nat.le_of_ble_eq_true rfl, Nat.le_of_ble_eq_true rfl⟩) (hP.sub [3] rfl) hK rfl hl.1 rfl (Nat.le_of_ble_eq_true rfl) dX0_gapTied_12 (Nat.zero_le _) (Nat.zero_le _) hS (fun H locs hsm hS => ?_)
  have hP := hsm.P hP
  refine lv_iconst (v := 1) hx hb dX0_gapTied_15 (by decide) ?_
  suffices K_16 : ∀ v9 : Int32, v9 = (bI (decide ((rd f2 (rd f3 x1)) = 1))) → W p l e ({ frames := 1, cells := 0, slots := 0, locals := 21 } : Room) s m [.ref (ad 0), .int x1].toArray below meth c H locs 0 0 (q_EI below [.ref (ad 0), .int x1].toArray s (bI (x_ti f2 f3 x1))) (F0 m 24 ls [.int v9]) from by
    refine lv_icmp_ne (tgt := 23) hx hb dX0_gapTied_16 (by decide) (fun c_16 => ?_) (fun c_16 => ?_)
    · refine lv_iconst (v := 0) hx hb dX0_gapTied_23 (by decide) ?_
      exact K_16 _ (bI_df c_16)
    · refine lv_iconst (v := 1) hx hb dX0_gapTied_19 (by decide) ?_
      refine lv_goto (tgt := 24) hx hb dX0_gapTied_20 (by decide) ?_
      exact K_16 _ (bI_dt c_16)
  intro v9 hv9
  rw [hv9]; clear hv9
  exact q_retZ hx hb hr hlocks hS rfl (bI_01 _) dX0_gapTied_24

theorem kv_X0_ofOneSpeaker : yX0_ofOneSpeaker.cls = RX0 ∧ yX0_ofOneSpeaker.cls ≠ "java/lang/invoke/MethodHandle" ∧ yX0_ofOneSpeaker.cls ≠ "java/lang/invoke/VarHandle" ∧ (parseMethodDescriptor yX0_ofOneSpeaker.desc).map (fun d => d.parameters.length) = some 1 := by decide +kernel
theorem ks_X0_ofOneSpeaker : yX0_ofOneSpeaker.cls ≠ "java/lang/invoke/MethodHandle" ∧ yX0_ofOneSpeaker.cls ≠ "java/lang/invoke/VarHandle" ∧ (parseMethodDescriptor yX0_ofOneSpeaker.desc).map (fun d => d.parameters.length) = some 1 := kv_X0_ofOneSpeaker.2
set_option maxHeartbeats 4000000 in
set_option maxRecDepth 100000 in
theorem c_X0_ofOneSpeaker (l : Launch) (D : va_G) (cI : ClassId) (ad : Nat → Nat) (n : Int32) (w : Int32) (t : Int32) (pa pe : Int32) (f0 f1 f2 f3 f4 : Nat → Int32) (x1 : Int32) : q_I l yX0_ofOneSpeaker wsX0_ofOneSpeaker ({ frames := 2, cells := 0, slots := 0, locals := 42 } : Room) D ([(cI, .int)]) (xw cI ad n w t pa pe f0 f1 f2 f3 f4) [.ref (ad 0), .int x1] (bI (x_one f0 f3 x1)) := by
  refine q_startI (cc := cX0_ofOneSpeaker) (maxL := 2) (rt := .boolean) (by decide) rfl (Nat.le_of_ble_eq_true rfl) ?_
  intro p e s m below meth c hx hb hml hr hts hown hlocks hK H locs ls hP hS hl
  have hin : ∀ w ∈ wsX00, w ∈ wsX0_ofOneSpeaker := by decide +kernel
  have hl : lv_has ls 2 [(0, .ref (ad 0)), (1, .int x1)] := hl
  refine lv_aload_n hx hb dX0_ofOneSpeaker_0 rfl (lv_at hl 0 rfl) ?_
  refine lv_iload_n hx hb dX0_ofOneSpeaker_1 rfl (lv_at hl 1 rfl) ?_
  refine q_callV (As := [.int x1]) (rest := []) ⟨hx, hb, hml, hown, hts⟩ (c_X0_speakerOfWord l D cI ad n w t pa pe f0 f1 f2 f3 f4 x1) (cwV 1 hts gX0_ofOneSpeaker_X0_speakerOfWord rfl rfl rfl kv_X0_speakerOfWord ⟨Nat.le_of_ble_eq_true rfl, Nat.le_of_ble_eq_true rfl⟩) (va_recv hK hP (ci := 0) (q0 := 0) rfl rfl) hP hK rfl hl.1 rfl (Nat.le_of_ble_eq_true rfl) dX0_ofOneSpeaker_2 (Nat.zero_le _) (Nat.zero_le _) hS (fun H locs hsm hS => ?_)
  have hP := hsm.P hP
  refine lv_aload_n hx hb dX0_ofOneSpeaker_5 rfl (lv_at hl 0 rfl) ?_
  refine lv_iload_n hx hb dX0_ofOneSpeaker_6 rfl (lv_at hl 1 rfl) ?_
  refine lv_iconst (v := 1) hx hb dX0_ofOneSpeaker_7 (by decide) ?_
  refine lv_iadd hx hb dX0_ofOneSpeaker_8 ?_
  refine q_callV (As := [.int (x1 + 1)]) (rest := [.int (x_sp f0 f3 x1)]) ⟨hx, hb, hml, hown, hts⟩ (c_X0_speakerOfWord l D cI ad n w t pa pe f0 f1 f2 f3 f4 (x1 + 1)) (cwV 1 hts gX0_ofOneSpeaker_X0_speakerOfWord rfl rfl rfl kv_X0_speakerOfWord ⟨Nat.le_of_ble_eq_true rfl, Nat.le_of_ble_eq_true rfl⟩) (va_recv hK hP (ci := 0) (q0 := 0) rfl rfl) hP hK rfl hl.1 rfl (Nat.le_of_ble_eq_true rfl) dX0_ofOneSpeaker_9 (Nat.zero_le _) (Nat.zero_le _) hS (fun H locs hsm hS => ?_)
  have hP := hsm.P hP
  suffices K_12 : ∀ v9 : Int32, v9 = (bI (decide ((x_sp f0 f3 x1) = (x_sp f0 f3 (x1 + 1))))) → W p l e ({ frames := 2, cells := 0, slots := 0, locals := 42 } : Room) s m [.ref (ad 0), .int x1].toArray below meth c H locs 0 0 (q_EI below [.ref (ad 0), .int x1].toArray s (bI (x_one f0 f3 x1))) (F0 m 20 ls [.int v9]) from by
    refine lv_icmp_ne (tgt := 19) hx hb dX0_ofOneSpeaker_12 (by decide) (fun c_12 => ?_) (fun c_12 => ?_)
    · refine lv_iconst (v := 0) hx hb dX0_ofOneSpeaker_19 (by decide) ?_
      exact K_12 _ (bI_df c_12)
    · refine lv_iconst (v := 1) hx hb dX0_ofOneSpeaker_15 (by decide) ?_
      refine lv_goto (tgt := 20) hx hb dX0_ofOneSpeaker_16 (by decide) ?_
      exact K_12 _ (bI_dt c_12)
  intro v9 hv9
  rw [hv9]; clear hv9
  exact q_retZ hx hb hr hlocks hS rfl (bI_01 _) dX0_ofOneSpeaker_20

theorem kv_X0_coughsOfGap : yX0_coughsOfGap.cls = RX0 ∧ yX0_coughsOfGap.cls ≠ "java/lang/invoke/MethodHandle" ∧ yX0_coughsOfGap.cls ≠ "java/lang/invoke/VarHandle" ∧ (parseMethodDescriptor yX0_coughsOfGap.desc).map (fun d => d.parameters.length) = some 1 := by decide +kernel
theorem ks_X0_coughsOfGap : yX0_coughsOfGap.cls ≠ "java/lang/invoke/MethodHandle" ∧ yX0_coughsOfGap.cls ≠ "java/lang/invoke/VarHandle" ∧ (parseMethodDescriptor yX0_coughsOfGap.desc).map (fun d => d.parameters.length) = some 1 := kv_X0_coughsOfGap.2
set_option maxHeartbeats 4000000 in
set_option maxRecDepth 100000 in
theorem c_X0_coughsOfGap (l : Launch) (D : va_G) (cI : ClassId) (ad : Nat → Nat) (n : Int32) (w : Int32) (t : Int32) (pa pe : Int32) (f0 f1 f2 f3 f4 : Nat → Int32) (x1 : Int32) : q_I l yX0_coughsOfGap wsX0_coughsOfGap ({ frames := 1, cells := 0, slots := 0, locals := 21 } : Room) D ([(cI, .int)]) (xw cI ad n w t pa pe f0 f1 f2 f3 f4) [.ref (ad 0), .int x1] (x_cg f3 x1) := by
  refine q_startI (cc := cX0_coughsOfGap) (maxL := 2) (rt := .int) (by decide) rfl (Nat.le_of_ble_eq_true rfl) ?_
  intro p e s m below meth c hx hb hml hr hts hown hlocks hK H locs ls hP hS hl
  have hin : ∀ w ∈ wsX00, w ∈ wsX0_coughsOfGap := by decide +kernel
  have hl : lv_has ls 2 [(0, .ref (ad 0)), (1, .int x1)] := hl
  refine lv_aload_n hx hb dX0_coughsOfGap_0 rfl (lv_at hl 0 rfl) ?_
  refine va_get (D := D) (ci := 0) (v := .ref (ad 4)) (C := RX0) (T := TX0) (N := 10) hx hb hts hin hown hK hP 0 rfl rfl 4 (by decide) (hts (.fieldLink RX0 19 "SplicedTalk" "wordPlaces" "[I") (by decide +kernel)) (fun _ h9 => h9) rfl dX0_coughsOfGap_1 ?_
  refine lv_iload_n hx hb dX0_coughsOfGap_4 rfl (lv_at hl 1 rfl) ?_
  refine lv_iconst (v := 1) hx hb dX0_coughsOfGap_5 (by decide) ?_
  refine lv_iadd hx hb dX0_coughsOfGap_6 ?_
  refine q_callS (As := [.ref (ad 4), .int (x1 + 1)]) (rest := []) ⟨hx, hb, hml, hown, hts⟩ (c_X0_read l D cI (ad 4) f3 (x1 + 1)) (va_cwS 2 hts gX0_coughsOfGap_X0_read rfl rfl rfl ks_X0_read ⟨Nat.le_of_ble_eq_true rfl, Nat.le_of_ble_eq_true rfl⟩) (hP.sub [4] rfl) hK rfl hl.1 rfl (Nat.le_of_ble_eq_true rfl) dX0_coughsOfGap_7 (Nat.zero_le _) (Nat.zero_le _) hS (fun H locs hsm hS => ?_)
  have hP := hsm.P hP
  refine lv_aload_n hx hb dX0_coughsOfGap_10 rfl (lv_at hl 0 rfl) ?_
  refine va_get (D := D) (ci := 0) (v := .ref (ad 4)) (C := RX0) (T := TX0) (N := 10) hx hb hts hin hown hK hP 0 rfl rfl 4 (by decide) (hts (.fieldLink RX0 19 "SplicedTalk" "wordPlaces" "[I") (by decide +kernel)) (fun _ h9 => h9) rfl dX0_coughsOfGap_11 ?_
  refine lv_iload_n hx hb dX0_coughsOfGap_14 rfl (lv_at hl 1 rfl) ?_
  refine q_callS (As := [.ref (ad 4), .int x1]) (rest := [.int (rd f3 (x1 + 1))]) ⟨hx, hb, hml, hown, hts⟩ (c_X0_read l D cI (ad 4) f3 x1) (va_cwS 2 hts gX0_coughsOfGap_X0_read rfl rfl rfl ks_X0_read ⟨Nat.le_of_ble_eq_true rfl, Nat.le_of_ble_eq_true rfl⟩) (hP.sub [4] rfl) hK rfl hl.1 rfl (Nat.le_of_ble_eq_true rfl) dX0_coughsOfGap_15 (Nat.zero_le _) (Nat.zero_le _) hS (fun H locs hsm hS => ?_)
  have hP := hsm.P hP
  refine lv_isub hx hb dX0_coughsOfGap_18 ?_
  refine lv_iconst (v := 1) hx hb dX0_coughsOfGap_19 (by decide) ?_
  refine lv_isub hx hb dX0_coughsOfGap_20 ?_
  exact q_retI hx hb hr hlocks hS rfl dX0_coughsOfGap_21

theorem kv_X0_strainOfGap : yX0_strainOfGap.cls = RX0 ∧ yX0_strainOfGap.cls ≠ "java/lang/invoke/MethodHandle" ∧ yX0_strainOfGap.cls ≠ "java/lang/invoke/VarHandle" ∧ (parseMethodDescriptor yX0_strainOfGap.desc).map (fun d => d.parameters.length) = some 1 := by decide +kernel
theorem ks_X0_strainOfGap : yX0_strainOfGap.cls ≠ "java/lang/invoke/MethodHandle" ∧ yX0_strainOfGap.cls ≠ "java/lang/invoke/VarHandle" ∧ (parseMethodDescriptor yX0_strainOfGap.desc).map (fun d => d.parameters.length) = some 1 := kv_X0_strainOfGap.2
set_option maxHeartbeats 4000000 in
set_option maxRecDepth 100000 in
theorem c_X0_strainOfGap (l : Launch) (D : va_G) (cI : ClassId) (ad : Nat → Nat) (n : Int32) (w : Int32) (t : Int32) (pa pe : Int32) (f0 f1 f2 f3 f4 : Nat → Int32) (x1 : Int32) : q_I l yX0_strainOfGap wsX0_strainOfGap ({ frames := 2, cells := 0, slots := 0, locals := 43 } : Room) D ([(cI, .int)]) (xw cI ad n w t pa pe f0 f1 f2 f3 f4) [.ref (ad 0), .int x1] (x_st f1 f3 x1) := by
  refine q_startI (cc := cX0_strainOfGap) (maxL := 2) (rt := .int) (by decide) rfl (Nat.le_of_ble_eq_true rfl) ?_
  intro p e s m below meth c hx hb hml hr hts hown hlocks hK H locs ls hP hS hl
  have hin : ∀ w ∈ wsX00, w ∈ wsX0_strainOfGap := by decide +kernel
  have hl : lv_has ls 2 [(0, .ref (ad 0)), (1, .int x1)] := hl
  refine lv_aload_n hx hb dX0_strainOfGap_0 rfl (lv_at hl 0 rfl) ?_
  refine lv_iload_n hx hb dX0_strainOfGap_1 rfl (lv_at hl 1 rfl) ?_
  refine q_callV (As := [.int x1]) (rest := []) ⟨hx, hb, hml, hown, hts⟩ (c_X0_topicOfWord l D cI ad n w t pa pe f0 f1 f2 f3 f4 x1) (cwV 1 hts gX0_strainOfGap_X0_topicOfWord rfl rfl rfl kv_X0_topicOfWord ⟨Nat.le_of_ble_eq_true rfl, Nat.le_of_ble_eq_true rfl⟩) (va_recv hK hP (ci := 0) (q0 := 0) rfl rfl) hP hK rfl hl.1 rfl (Nat.le_of_ble_eq_true rfl) dX0_strainOfGap_2 (Nat.zero_le _) (Nat.zero_le _) hS (fun H locs hsm hS => ?_)
  have hP := hsm.P hP
  refine lv_aload_n hx hb dX0_strainOfGap_5 rfl (lv_at hl 0 rfl) ?_
  refine lv_iload_n hx hb dX0_strainOfGap_6 rfl (lv_at hl 1 rfl) ?_
  refine lv_iconst (v := 1) hx hb dX0_strainOfGap_7 (by decide) ?_
  refine lv_iadd hx hb dX0_strainOfGap_8 ?_
  refine q_callV (As := [.int (x1 + 1)]) (rest := [.int (x_tp f1 f3 x1)]) ⟨hx, hb, hml, hown, hts⟩ (c_X0_topicOfWord l D cI ad n w t pa pe f0 f1 f2 f3 f4 (x1 + 1)) (cwV 1 hts gX0_strainOfGap_X0_topicOfWord rfl rfl rfl kv_X0_topicOfWord ⟨Nat.le_of_ble_eq_true rfl, Nat.le_of_ble_eq_true rfl⟩) (va_recv hK hP (ci := 0) (q0 := 0) rfl rfl) hP hK rfl hl.1 rfl (Nat.le_of_ble_eq_true rfl) dX0_strainOfGap_9 (Nat.zero_le _) (Nat.zero_le _) hS (fun H locs hsm hS => ?_)
  have hP := hsm.P hP
  refine q_callS (As := [.int (x_tp f1 f3 x1), .int (x_tp f1 f3 (x1 + 1))]) (rest := []) ⟨hx, hb, hml, hown, hts⟩ (c_X0_topicDistance l D (x_tp f1 f3 x1) (x_tp f1 f3 (x1 + 1))) (va_cwS 2 hts gX0_strainOfGap_X0_topicDistance rfl rfl rfl ks_X0_topicDistance ⟨Nat.le_of_ble_eq_true rfl, Nat.le_of_ble_eq_true rfl⟩) (hP.sub [] rfl) (hK.sub [] rfl) rfl hl.1 rfl (Nat.le_of_ble_eq_true rfl) dX0_strainOfGap_12 (Nat.zero_le _) (Nat.zero_le _) hS (fun H locs hsm hS => ?_)
  have hP := hsm.P hP
  refine lv_aload_n hx hb dX0_strainOfGap_15 rfl (lv_at hl 0 rfl) ?_
  refine lv_iload_n hx hb dX0_strainOfGap_16 rfl (lv_at hl 1 rfl) ?_
  refine q_callV (As := [.int x1]) (rest := [.int (x_ds (x_tp f1 f3 x1) (x_tp f1 f3 (x1 + 1)))]) ⟨hx, hb, hml, hown, hts⟩ (c_X0_coughsOfGap l D cI ad n w t pa pe f0 f1 f2 f3 f4 x1) (cwV 1 hts gX0_strainOfGap_X0_coughsOfGap rfl rfl rfl kv_X0_coughsOfGap ⟨Nat.le_of_ble_eq_true rfl, Nat.le_of_ble_eq_true rfl⟩) (va_recv hK hP (ci := 0) (q0 := 0) rfl rfl) hP hK rfl hl.1 rfl (Nat.le_of_ble_eq_true rfl) dX0_strainOfGap_17 (Nat.zero_le _) (Nat.zero_le _) hS (fun H locs hsm hS => ?_)
  have hP := hsm.P hP
  refine lv_iadd hx hb dX0_strainOfGap_20 ?_
  exact q_retI hx hb hr hlocks hS rfl dX0_strainOfGap_21

theorem kv_X0_kindOfGap : yX0_kindOfGap.cls = RX0 ∧ yX0_kindOfGap.cls ≠ "java/lang/invoke/MethodHandle" ∧ yX0_kindOfGap.cls ≠ "java/lang/invoke/VarHandle" ∧ (parseMethodDescriptor yX0_kindOfGap.desc).map (fun d => d.parameters.length) = some 1 := by decide +kernel
theorem ks_X0_kindOfGap : yX0_kindOfGap.cls ≠ "java/lang/invoke/MethodHandle" ∧ yX0_kindOfGap.cls ≠ "java/lang/invoke/VarHandle" ∧ (parseMethodDescriptor yX0_kindOfGap.desc).map (fun d => d.parameters.length) = some 1 := kv_X0_kindOfGap.2
set_option maxHeartbeats 4000000 in
set_option maxRecDepth 100000 in
theorem c_X0_kindOfGap (l : Launch) (D : va_G) (cI : ClassId) (ad : Nat → Nat) (n : Int32) (w : Int32) (t : Int32) (pa pe : Int32) (f0 f1 f2 f3 f4 : Nat → Int32) (x1 : Int32) : q_I l yX0_kindOfGap wsX0_kindOfGap ({ frames := 3, cells := 0, slots := 0, locals := 64 } : Room) D ([(cI, .int)]) (xw cI ad n w t pa pe f0 f1 f2 f3 f4) [.ref (ad 0), .int x1] (x_kg f0 f1 f2 f3 x1) := by
  refine q_startI (cc := cX0_kindOfGap) (maxL := 2) (rt := .int) (by decide) rfl (Nat.le_of_ble_eq_true rfl) ?_
  intro p e s m below meth c hx hb hml hr hts hown hlocks hK H locs ls hP hS hl
  have hin : ∀ w ∈ wsX00, w ∈ wsX0_kindOfGap := by decide +kernel
  have hl : lv_has ls 2 [(0, .ref (ad 0)), (1, .int x1)] := hl
  refine lv_aload_n hx hb dX0_kindOfGap_0 rfl (lv_at hl 0 rfl) ?_
  refine lv_iload_n hx hb dX0_kindOfGap_1 rfl (lv_at hl 1 rfl) ?_
  refine q_callV (As := [.int x1]) (rest := []) ⟨hx, hb, hml, hown, hts⟩ (c_X0_gapTied l D cI ad n w t pa pe f0 f1 f2 f3 f4 x1) (cwV 1 hts gX0_kindOfGap_X0_gapTied rfl rfl rfl kv_X0_gapTied ⟨Nat.le_of_ble_eq_true rfl, Nat.le_of_ble_eq_true rfl⟩) (va_recv hK hP (ci := 0) (q0 := 0) rfl rfl) hP hK rfl hl.1 rfl (Nat.le_of_ble_eq_true rfl) dX0_kindOfGap_2 (Nat.zero_le _) (Nat.zero_le _) hS (fun H locs hsm hS => ?_)
  have hP := hsm.P hP
  refine lv_aload_n hx hb dX0_kindOfGap_5 rfl (lv_at hl 0 rfl) ?_
  refine lv_iload_n hx hb dX0_kindOfGap_6 rfl (lv_at hl 1 rfl) ?_
  refine q_callV (As := [.int x1]) (rest := [.int (bI (x_ti f2 f3 x1))]) ⟨hx, hb, hml, hown, hts⟩ (c_X0_strainOfGap l D cI ad n w t pa pe f0 f1 f2 f3 f4 x1) (cwV 1 hts gX0_kindOfGap_X0_strainOfGap rfl rfl rfl kv_X0_strainOfGap ⟨Nat.le_of_ble_eq_true rfl, Nat.le_of_ble_eq_true rfl⟩) (va_recv hK hP (ci := 0) (q0 := 0) rfl rfl) hP hK rfl hl.1 rfl (Nat.le_of_ble_eq_true rfl) dX0_kindOfGap_7 (Nat.zero_le _) (Nat.zero_le _) hS (fun H locs hsm hS => ?_)
  have hP := hsm.P hP
  refine lv_aload_n hx hb dX0_kindOfGap_10 rfl (lv_at hl 0 rfl) ?_
  refine lv_iload_n hx hb dX0_kindOfGap_11 rfl (lv_at hl 1 rfl) ?_
  refine q_callV (As := [.int x1]) (rest := [.int (x_st f1 f3 x1), .int (bI (x_ti f2 f3 x1))]) ⟨hx, hb, hml, hown, hts⟩ (c_X0_ofOneSpeaker l D cI ad n w t pa pe f0 f1 f2 f3 f4 x1) (cwV 1 hts gX0_kindOfGap_X0_ofOneSpeaker rfl rfl rfl kv_X0_ofOneSpeaker ⟨Nat.le_of_ble_eq_true rfl, Nat.le_of_ble_eq_true rfl⟩) (va_recv hK hP (ci := 0) (q0 := 0) rfl rfl) hP hK rfl hl.1 rfl (Nat.le_of_ble_eq_true rfl) dX0_kindOfGap_12 (Nat.zero_le _) (Nat.zero_le _) hS (fun H locs hsm hS => ?_)
  have hP := hsm.P hP
  refine q_callS (As := [.int (bI (x_ti f2 f3 x1)), .int (x_st f1 f3 x1), .int (bI (x_one f0 f3 x1))]) (rest := []) ⟨hx, hb, hml, hown, hts⟩ (c_X0_kindOf l D (x_ti f2 f3 x1) (x_st f1 f3 x1) (x_one f0 f3 x1)) (va_cwS 3 hts gX0_kindOfGap_X0_kindOf rfl rfl rfl ks_X0_kindOf ⟨Nat.le_of_ble_eq_true rfl, Nat.le_of_ble_eq_true rfl⟩) (hP.sub [] rfl) (hK.sub [] rfl) rfl hl.1 rfl (Nat.le_of_ble_eq_true rfl) dX0_kindOfGap_15 (Nat.zero_le _) (Nat.zero_le _) hS (fun H locs hsm hS => ?_)
  have hP := hsm.P hP
  exact q_retI hx hb hr hlocks hS rfl dX0_kindOfGap_18

theorem kv_X0_gapCount : yX0_gapCount.cls = RX0 ∧ yX0_gapCount.cls ≠ "java/lang/invoke/MethodHandle" ∧ yX0_gapCount.cls ≠ "java/lang/invoke/VarHandle" ∧ (parseMethodDescriptor yX0_gapCount.desc).map (fun d => d.parameters.length) = some 0 := by decide +kernel
theorem ks_X0_gapCount : yX0_gapCount.cls ≠ "java/lang/invoke/MethodHandle" ∧ yX0_gapCount.cls ≠ "java/lang/invoke/VarHandle" ∧ (parseMethodDescriptor yX0_gapCount.desc).map (fun d => d.parameters.length) = some 0 := kv_X0_gapCount.2
set_option maxHeartbeats 4000000 in
set_option maxRecDepth 100000 in
theorem c_X0_gapCount (l : Launch) (D : va_G) (cI : ClassId) (ad : Nat → Nat) (n : Int32) (w : Int32) (t : Int32) (pa pe : Int32) (f0 f1 f2 f3 f4 : Nat → Int32) : q_I l yX0_gapCount wsX0_gapCount ({ frames := 0, cells := 0, slots := 0, locals := 0 } : Room) D ([(cI, .int)]) (xw cI ad n w t pa pe f0 f1 f2 f3 f4) [.ref (ad 0)] (x_gc w) := by
  refine q_startI (cc := cX0_gapCount) (maxL := 1) (rt := .int) (by decide) rfl (Nat.le_of_ble_eq_true rfl) ?_
  intro p e s m below meth c hx hb hml hr hts hown hlocks hK H locs ls hP hS hl
  have hin : ∀ w ∈ wsX00, w ∈ wsX0_gapCount := by decide +kernel
  have hl : lv_has ls 1 [(0, .ref (ad 0))] := hl
  refine lv_aload_n hx hb dX0_gapCount_0 rfl (lv_at hl 0 rfl) ?_
  refine va_get (D := D) (ci := 0) (v := .int w) (C := RX0) (T := TX0) (N := 10) hx hb hts hin hown hK hP 0 rfl rfl 6 (by decide) (hts (.fieldLink RX0 116 "SplicedTalk" "wordCount" "I") (by decide +kernel)) (fun _ h9 => h9) rfl dX0_gapCount_1 ?_
  suffices K_4 : ∀ v9 : Int32, v9 = (if w = 0 then (0 : Int32) else (w - 1)) → W p l e ({ frames := 0, cells := 0, slots := 0, locals := 0 } : Room) s m [.ref (ad 0)].toArray below meth c H locs 0 0 (q_EI below [.ref (ad 0)].toArray s (x_gc w)) (F0 m 17 ls [.int v9]) from by
    refine lv_if_ne (tgt := 11) hx hb dX0_gapCount_4 (by decide) (fun c_4 => ?_) (fun c_4 => ?_)
    · refine lv_aload_n hx hb dX0_gapCount_11 rfl (lv_at hl 0 rfl) ?_
      refine va_get (D := D) (ci := 0) (v := .int w) (C := RX0) (T := TX0) (N := 10) hx hb hts hin hown hK hP 0 rfl rfl 6 (by decide) (hts (.fieldLink RX0 116 "SplicedTalk" "wordCount" "I") (by decide +kernel)) (fun _ h9 => h9) rfl dX0_gapCount_12 ?_
      refine lv_iconst (v := 1) hx hb dX0_gapCount_15 (by decide) ?_
      refine lv_isub hx hb dX0_gapCount_16 ?_
      exact K_4 _ (if_neg c_4).symm
    · refine lv_iconst (v := 0) hx hb dX0_gapCount_7 (by decide) ?_
      refine lv_goto (tgt := 17) hx hb dX0_gapCount_8 (by decide) ?_
      exact K_4 _ (if_pos c_4).symm
  intro v9 hv9
  rw [hv9]; clear hv9
  exact q_retI hx hb hr hlocks hS rfl dX0_gapCount_17

theorem kv_X0_gapsOfKind : yX0_gapsOfKind.cls = RX0 ∧ yX0_gapsOfKind.cls ≠ "java/lang/invoke/MethodHandle" ∧ yX0_gapsOfKind.cls ≠ "java/lang/invoke/VarHandle" ∧ (parseMethodDescriptor yX0_gapsOfKind.desc).map (fun d => d.parameters.length) = some 1 := by decide +kernel
theorem ks_X0_gapsOfKind : yX0_gapsOfKind.cls ≠ "java/lang/invoke/MethodHandle" ∧ yX0_gapsOfKind.cls ≠ "java/lang/invoke/VarHandle" ∧ (parseMethodDescriptor yX0_gapsOfKind.desc).map (fun d => d.parameters.length) = some 1 := kv_X0_gapsOfKind.2
set_option maxHeartbeats 4000000 in
set_option maxRecDepth 100000 in
theorem c_X0_gapsOfKind (l : Launch) (D : va_G) (cI : ClassId) (ad : Nat → Nat) (n : Int32) (wN : Nat) (t : Int32) (pa pe : Int32) (f0 f1 f2 f3 f4 : Nat → Int32) (x1 : Int32) (hwN : wN ≤ 24) : q_I l yX0_gapsOfKind wsX0_gapsOfKind ({ frames := 4, cells := 0, slots := 0, locals := 85 } : Room) D ([(cI, .int)]) (xw cI ad n (nI wN) t pa pe f0 f1 f2 f3 f4) [.ref (ad 0), .int x1] (x_gk f0 f1 f2 f3 x1 wN) := by
  refine q_startI (cc := cX0_gapsOfKind) (maxL := 4) (rt := .int) (by decide) rfl (Nat.le_of_ble_eq_true rfl) ?_
  intro p e s m below meth c hx hb hml hr hts hown hlocks hK H locs ls hP hS hl
  have hin : ∀ w ∈ wsX00, w ∈ wsX0_gapsOfKind := by decide +kernel
  have hl : lv_has ls 4 [(0, .ref (ad 0)), (1, .int x1)] := hl
  refine lv_iconst (v := 0) hx hb dX0_gapsOfKind_0 (by decide) ?_
  refine lv_istore_n (lv' := [(2, .int 0), (0, .ref (ad 0)), (1, .int x1)]) hx hb dX0_gapsOfKind_1 rfl hl (by decide) rfl (fun ls hl => ?_)
  refine lv_iconst (v := 0) hx hb dX0_gapsOfKind_2 (by decide) ?_
  refine lv_istore_n (lv' := [(3, .int 0), (2, .int 0), (0, .ref (ad 0)), (1, .int x1)]) hx hb dX0_gapsOfKind_3 rfl hl (by decide) rfl (fun ls hl => ?_)
  have lo_4 : ∀ (fu i : Nat), (wN - 1) - i < fu → i ≤ (wN - 1) → ∀ (H : Heap) (locs : List Loc) (ls : Array Slot), va_P D vwCl (xw cI ad n (nI wN) t pa pe f0 f1 f2 f3 f4) H → va_S q_no s.heap H locs → lv_has ls 4 [(2, .int (nI (ct (fun g => decide (x_kg f0 f1 f2 f3 (nI g) = x1)) i))), (3, .int (nI i)), (0, .ref (ad 0)), (1, .int x1)] → W p l e ({ frames := 4, cells := 0, slots := 0, locals := 85 } : Room) s m [.ref (ad 0), .int x1].toArray below meth c H locs 0 0 (q_EI below [.ref (ad 0), .int x1].toArray s (x_gk f0 f1 f2 f3 x1 wN)) (F0 m 4 ls []) := by
    intro fu
    induction fu with
    | zero => intro i hi; exact absurd hi (Nat.not_lt_zero _)
    | succ fu ih =>
      intro i hi hiN H locs ls hP hS hl
      refine lv_iload_n hx hb dX0_gapsOfKind_4 rfl (lv_at hl 1 rfl) ?_
      refine lv_aload_n hx hb dX0_gapsOfKind_5 rfl (lv_at hl 2 rfl) ?_
      refine q_callV (As := []) (rest := [.int (nI i)]) ⟨hx, hb, hml, hown, hts⟩ (c_X0_gapCount l D cI ad n (nI wN) t pa pe f0 f1 f2 f3 f4) (cwV 0 hts gX0_gapsOfKind_X0_gapCount rfl rfl rfl kv_X0_gapCount ⟨Nat.le_of_ble_eq_true rfl, Nat.le_of_ble_eq_true rfl⟩) (va_recv hK hP (ci := 0) (q0 := 0) rfl rfl) hP hK rfl hl.1 rfl (Nat.le_of_ble_eq_true rfl) dX0_gapsOfKind_6 (Nat.zero_le _) (Nat.zero_le _) hS (fun H locs hsm hS => ?_)
      have hP := hsm.P hP
      rw [x_gc_nI (by omega)]
      refine lv_icmp_ge (tgt := 30) hx hb dX0_gapsOfKind_9 (by decide) (fun c_9 => ?_) (fun c_9 => ?_)
      · have hi9 := nI_ge' hiN (by omega) c_9
        refine lv_iload_n hx hb dX0_gapsOfKind_30 rfl (lv_at hl 0 rfl) ?_
        exact q_retI hx hb hr hlocks hS (by rw [hi9]; rfl) dX0_gapsOfKind_31
      · have hi9 := nI_lt' hiN (by omega) c_9
        refine lv_aload_n hx hb dX0_gapsOfKind_12 rfl (lv_at hl 2 rfl) ?_
        refine lv_iload_n hx hb dX0_gapsOfKind_13 rfl (lv_at hl 1 rfl) ?_
        refine q_callV (As := [.int (nI i)]) (rest := []) ⟨hx, hb, hml, hown, hts⟩ (c_X0_kindOfGap l D cI ad n (nI wN) t pa pe f0 f1 f2 f3 f4 (nI i)) (cwV 1 hts gX0_gapsOfKind_X0_kindOfGap rfl rfl rfl kv_X0_kindOfGap ⟨Nat.le_of_ble_eq_true rfl, Nat.le_of_ble_eq_true rfl⟩) (va_recv hK hP (ci := 0) (q0 := 0) rfl rfl) hP hK rfl hl.1 rfl (Nat.le_of_ble_eq_true rfl) dX0_gapsOfKind_14 (Nat.zero_le _) (Nat.zero_le _) hS (fun H locs hsm hS => ?_)
        have hP := hsm.P hP
        refine lv_iload_n hx hb dX0_gapsOfKind_17 rfl (lv_at hl 3 rfl) ?_
        refine lv_icmp_ne (tgt := 24) hx hb dX0_gapsOfKind_18 (by decide) (fun c_18 => ?_) (fun c_18 => ?_)
        · refine lv_iinc (v := ((nI i) + 1)) (lv' := [(3, .int ((nI i) + 1)), (2, .int (nI (ct (fun g => decide (x_kg f0 f1 f2 f3 (nI g) = x1)) i))), (0, .ref (ad 0)), (1, .int x1)]) hx hb dX0_gapsOfKind_24 hl (k := 1) rfl (by rfl) (by decide) rfl (fun ls hl => ?_)
          refine lv_goto (tgt := 4) hx hb dX0_gapsOfKind_27 (by decide) ?_
          have e_2 : ((nI (ct (fun g => decide (x_kg f0 f1 f2 f3 (nI g) = x1)) i)) : Int32) = (nI (ct (fun g => decide (x_kg f0 f1 f2 f3 (nI g) = x1)) (i + 1))) := (by rw [ct_f (fun h => c_18 (of_decide_eq_true h))])
          have e_3 : (((nI i) + 1) : Int32) = (nI (i + 1)) := nI_1 i
          exact ih (i + 1) (by omega) (by omega) H locs ls hP hS (lv_eq (lv_sub (l' := [(2, .int (nI (ct (fun g => decide (x_kg f0 f1 f2 f3 (nI g) = x1)) i))), (3, .int ((nI i) + 1)), (0, .ref (ad 0)), (1, .int x1)]) hl [1, 0, 2, 3] rfl) (by rw [e_2, e_3]))
        · refine lv_iinc (v := ((nI (ct (fun g => decide (x_kg f0 f1 f2 f3 (nI g) = x1)) i)) + 1)) (lv' := [(2, .int ((nI (ct (fun g => decide (x_kg f0 f1 f2 f3 (nI g) = x1)) i)) + 1)), (3, .int (nI i)), (0, .ref (ad 0)), (1, .int x1)]) hx hb dX0_gapsOfKind_21 hl (k := 0) rfl (by rfl) (by decide) rfl (fun ls hl => ?_)
          refine lv_iinc (v := ((nI i) + 1)) (lv' := [(3, .int ((nI i) + 1)), (2, .int ((nI (ct (fun g => decide (x_kg f0 f1 f2 f3 (nI g) = x1)) i)) + 1)), (0, .ref (ad 0)), (1, .int x1)]) hx hb dX0_gapsOfKind_24 hl (k := 1) rfl (by rfl) (by decide) rfl (fun ls hl => ?_)
          refine lv_goto (tgt := 4) hx hb dX0_gapsOfKind_27 (by decide) ?_
          have e_2 : (((nI (ct (fun g => decide (x_kg f0 f1 f2 f3 (nI g) = x1)) i)) + 1) : Int32) = (nI (ct (fun g => decide (x_kg f0 f1 f2 f3 (nI g) = x1)) (i + 1))) := (by rw [ct_t (decide_eq_true c_18), nI_1])
          have e_3 : (((nI i) + 1) : Int32) = (nI (i + 1)) := nI_1 i
          exact ih (i + 1) (by omega) (by omega) H locs ls hP hS (lv_eq (lv_sub (l' := [(2, .int ((nI (ct (fun g => decide (x_kg f0 f1 f2 f3 (nI g) = x1)) i)) + 1)), (3, .int ((nI i) + 1)), (0, .ref (ad 0)), (1, .int x1)]) hl [1, 0, 2, 3] rfl) (by rw [e_2, e_3]))
  exact lo_4 ((wN - 1) + 1) 0 (by omega) (by omega) H locs ls hP hS (lv_sub hl [1, 0, 2, 3] rfl)

theorem kv_X0_wordsInThread : yX0_wordsInThread.cls = RX0 ∧ yX0_wordsInThread.cls ≠ "java/lang/invoke/MethodHandle" ∧ yX0_wordsInThread.cls ≠ "java/lang/invoke/VarHandle" ∧ (parseMethodDescriptor yX0_wordsInThread.desc).map (fun d => d.parameters.length) = some 1 := by decide +kernel
theorem ks_X0_wordsInThread : yX0_wordsInThread.cls ≠ "java/lang/invoke/MethodHandle" ∧ yX0_wordsInThread.cls ≠ "java/lang/invoke/VarHandle" ∧ (parseMethodDescriptor yX0_wordsInThread.desc).map (fun d => d.parameters.length) = some 1 := kv_X0_wordsInThread.2
set_option maxHeartbeats 4000000 in
set_option maxRecDepth 100000 in
theorem c_X0_wordsInThread (l : Launch) (D : va_G) (cI : ClassId) (ad : Nat → Nat) (n : Int32) (wN : Nat) (t : Int32) (pa pe : Int32) (f0 f1 f2 f3 f4 : Nat → Int32) (x1 : Int32) (hwN : wN ≤ 24) : q_I l yX0_wordsInThread wsX0_wordsInThread ({ frames := 2, cells := 0, slots := 0, locals := 42 } : Room) D ([(cI, .int)]) (xw cI ad n (nI wN) t pa pe f0 f1 f2 f3 f4) [.ref (ad 0), .int x1] (x_wt f4 x1 wN) := by
  refine q_startI (cc := cX0_wordsInThread) (maxL := 4) (rt := .int) (by decide) rfl (Nat.le_of_ble_eq_true rfl) ?_
  intro p e s m below meth c hx hb hml hr hts hown hlocks hK H locs ls hP hS hl
  have hin : ∀ w ∈ wsX00, w ∈ wsX0_wordsInThread := by decide +kernel
  have hl : lv_has ls 4 [(0, .ref (ad 0)), (1, .int x1)] := hl
  refine lv_iconst (v := 0) hx hb dX0_wordsInThread_0 (by decide) ?_
  refine lv_istore_n (lv' := [(2, .int 0), (0, .ref (ad 0)), (1, .int x1)]) hx hb dX0_wordsInThread_1 rfl hl (by decide) rfl (fun ls hl => ?_)
  refine lv_iconst (v := 0) hx hb dX0_wordsInThread_2 (by decide) ?_
  refine lv_istore_n (lv' := [(3, .int 0), (2, .int 0), (0, .ref (ad 0)), (1, .int x1)]) hx hb dX0_wordsInThread_3 rfl hl (by decide) rfl (fun ls hl => ?_)
  have lo_4 : ∀ (fu i : Nat), wN - i < fu → i ≤ wN → ∀ (H : Heap) (locs : List Loc) (ls : Array Slot), va_P D vwCl (xw cI ad n (nI wN) t pa pe f0 f1 f2 f3 f4) H → va_S q_no s.heap H locs → lv_has ls 4 [(2, .int (nI (ct (fun k => decide (rd f4 (nI k) = x1)) i))), (3, .int (nI i)), (0, .ref (ad 0)), (1, .int x1)] → W p l e ({ frames := 2, cells := 0, slots := 0, locals := 42 } : Room) s m [.ref (ad 0), .int x1].toArray below meth c H locs 0 0 (q_EI below [.ref (ad 0), .int x1].toArray s (x_wt f4 x1 wN)) (F0 m 4 ls []) := by
    intro fu
    induction fu with
    | zero => intro i hi; exact absurd hi (Nat.not_lt_zero _)
    | succ fu ih =>
      intro i hi hiN H locs ls hP hS hl
      refine lv_iload_n hx hb dX0_wordsInThread_4 rfl (lv_at hl 1 rfl) ?_
      refine lv_aload_n hx hb dX0_wordsInThread_5 rfl (lv_at hl 2 rfl) ?_
      refine va_get (D := D) (ci := 0) (v := .int (nI wN)) (C := RX0) (T := TX0) (N := 10) hx hb hts hin hown hK hP 0 rfl rfl 6 (by decide) (hts (.fieldLink RX0 116 "SplicedTalk" "wordCount" "I") (by decide +kernel)) (fun _ h9 => h9) rfl dX0_wordsInThread_6 ?_
      refine lv_icmp_ge (tgt := 30) hx hb dX0_wordsInThread_9 (by decide) (fun c_9 => ?_) (fun c_9 => ?_)
      · have hi9 := nI_ge' hiN (by omega) c_9
        refine lv_iload_n hx hb dX0_wordsInThread_30 rfl (lv_at hl 0 rfl) ?_
        exact q_retI hx hb hr hlocks hS (by rw [hi9]; rfl) dX0_wordsInThread_31
      · have hi9 := nI_lt' hiN (by omega) c_9
        refine lv_aload_n hx hb dX0_wordsInThread_12 rfl (lv_at hl 2 rfl) ?_
        refine lv_iload_n hx hb dX0_wordsInThread_13 rfl (lv_at hl 1 rfl) ?_
        refine q_callV (As := [.int (nI i)]) (rest := []) ⟨hx, hb, hml, hown, hts⟩ (c_X0_threadOfWord l D cI ad n (nI wN) t pa pe f0 f1 f2 f3 f4 (nI i)) (cwV 1 hts gX0_wordsInThread_X0_threadOfWord rfl rfl rfl kv_X0_threadOfWord ⟨Nat.le_of_ble_eq_true rfl, Nat.le_of_ble_eq_true rfl⟩) (va_recv hK hP (ci := 0) (q0 := 0) rfl rfl) hP hK rfl hl.1 rfl (Nat.le_of_ble_eq_true rfl) dX0_wordsInThread_14 (Nat.zero_le _) (Nat.zero_le _) hS (fun H locs hsm hS => ?_)
        have hP := hsm.P hP
        refine lv_iload_n hx hb dX0_wordsInThread_17 rfl (lv_at hl 3 rfl) ?_
        refine lv_icmp_ne (tgt := 24) hx hb dX0_wordsInThread_18 (by decide) (fun c_18 => ?_) (fun c_18 => ?_)
        · refine lv_iinc (v := ((nI i) + 1)) (lv' := [(3, .int ((nI i) + 1)), (2, .int (nI (ct (fun k => decide (rd f4 (nI k) = x1)) i))), (0, .ref (ad 0)), (1, .int x1)]) hx hb dX0_wordsInThread_24 hl (k := 1) rfl (by rfl) (by decide) rfl (fun ls hl => ?_)
          refine lv_goto (tgt := 4) hx hb dX0_wordsInThread_27 (by decide) ?_
          have e_2 : ((nI (ct (fun k => decide (rd f4 (nI k) = x1)) i)) : Int32) = (nI (ct (fun k => decide (rd f4 (nI k) = x1)) (i + 1))) := (by rw [ct_f (fun h => c_18 (of_decide_eq_true h))])
          have e_3 : (((nI i) + 1) : Int32) = (nI (i + 1)) := nI_1 i
          exact ih (i + 1) (by omega) (by omega) H locs ls hP hS (lv_eq (lv_sub (l' := [(2, .int (nI (ct (fun k => decide (rd f4 (nI k) = x1)) i))), (3, .int ((nI i) + 1)), (0, .ref (ad 0)), (1, .int x1)]) hl [1, 0, 2, 3] rfl) (by rw [e_2, e_3]))
        · refine lv_iinc (v := ((nI (ct (fun k => decide (rd f4 (nI k) = x1)) i)) + 1)) (lv' := [(2, .int ((nI (ct (fun k => decide (rd f4 (nI k) = x1)) i)) + 1)), (3, .int (nI i)), (0, .ref (ad 0)), (1, .int x1)]) hx hb dX0_wordsInThread_21 hl (k := 0) rfl (by rfl) (by decide) rfl (fun ls hl => ?_)
          refine lv_iinc (v := ((nI i) + 1)) (lv' := [(3, .int ((nI i) + 1)), (2, .int ((nI (ct (fun k => decide (rd f4 (nI k) = x1)) i)) + 1)), (0, .ref (ad 0)), (1, .int x1)]) hx hb dX0_wordsInThread_24 hl (k := 1) rfl (by rfl) (by decide) rfl (fun ls hl => ?_)
          refine lv_goto (tgt := 4) hx hb dX0_wordsInThread_27 (by decide) ?_
          have e_2 : (((nI (ct (fun k => decide (rd f4 (nI k) = x1)) i)) + 1) : Int32) = (nI (ct (fun k => decide (rd f4 (nI k) = x1)) (i + 1))) := (by rw [ct_t (decide_eq_true c_18), nI_1])
          have e_3 : (((nI i) + 1) : Int32) = (nI (i + 1)) := nI_1 i
          exact ih (i + 1) (by omega) (by omega) H locs ls hP hS (lv_eq (lv_sub (l' := [(2, .int ((nI (ct (fun k => decide (rd f4 (nI k) = x1)) i)) + 1)), (3, .int ((nI i) + 1)), (0, .ref (ad 0)), (1, .int x1)]) hl [1, 0, 2, 3] rfl) (by rw [e_2, e_3]))
  exact lo_4 (wN + 1) 0 (by omega) (by omega) H locs ls hP hS (lv_sub hl [1, 0, 2, 3] rfl)

theorem kv_J9_floorMod_7cf53 : yJ9_floorMod_7cf53.cls = RJ9 ∧ yJ9_floorMod_7cf53.cls ≠ "java/lang/invoke/MethodHandle" ∧ yJ9_floorMod_7cf53.cls ≠ "java/lang/invoke/VarHandle" ∧ (parseMethodDescriptor yJ9_floorMod_7cf53.desc).map (fun d => d.parameters.length) = some 2 := by decide +kernel
theorem ks_J9_floorMod_7cf53 : yJ9_floorMod_7cf53.cls ≠ "java/lang/invoke/MethodHandle" ∧ yJ9_floorMod_7cf53.cls ≠ "java/lang/invoke/VarHandle" ∧ (parseMethodDescriptor yJ9_floorMod_7cf53.desc).map (fun d => d.parameters.length) = some 2 := kv_J9_floorMod_7cf53.2
set_option maxHeartbeats 4000000 in
set_option maxRecDepth 100000 in
theorem c_J9_floorMod_7cf53 (l : Launch) (D : va_G) (x1 x2 : Int32) (h0 : ¬ x2 = 0) : q_I l yJ9_floorMod_7cf53 wsJ9_floorMod_7cf53 ({ frames := 0, cells := 0, slots := 0, locals := 0 } : Room) D ([]) ([]) [.int x1, .int x2] (x_fm x1 x2) := by
  refine q_startJ (cc := cJ9_floorMod_7cf53) (maxL := 3) (rt := .int) (by decide +kernel) rfl (Nat.le_of_ble_eq_true rfl) ?_
  intro p e s m below meth c hx hb hml hr hts hown hlocks hK H locs ls hP hS hl
  have hl : lv_has ls 3 [(0, .int x1), (1, .int x2)] := hl
  refine lv_iload_n hx hb dJ9_floorMod_7cf53_0 rfl (lv_at hl 0 rfl) ?_
  refine lv_iload_n hx hb dJ9_floorMod_7cf53_1 rfl (lv_at hl 1 rfl) ?_
  refine lv_irem hx hb dJ9_floorMod_7cf53_2 h0 ?_
  refine lv_istore_n (lv' := [(2, .int (x1 - x1 / x2 * x2)), (0, .int x1), (1, .int x2)]) hx hb dJ9_floorMod_7cf53_3 rfl hl (by decide) rfl (fun ls hl => ?_)
  refine lv_iload_n hx hb dJ9_floorMod_7cf53_4 rfl (lv_at hl 1 rfl) ?_
  refine lv_iload_n hx hb dJ9_floorMod_7cf53_5 rfl (lv_at hl 2 rfl) ?_
  refine lv_ixor hx hb dJ9_floorMod_7cf53_6 ?_
  refine lv_if_ge (tgt := 18) hx hb dJ9_floorMod_7cf53_7 (by decide) (fun c_7 => ?_) (fun c_7 => ?_)
  · refine lv_iload_n hx hb dJ9_floorMod_7cf53_18 rfl (lv_at hl 0 rfl) ?_
    exact q_retI hx hb hr hlocks hS (by rw [x_fm, if_pos c_7]) dJ9_floorMod_7cf53_19
  · refine lv_iload_n hx hb dJ9_floorMod_7cf53_10 rfl (lv_at hl 0 rfl) ?_
    refine lv_if_eq (tgt := 18) hx hb dJ9_floorMod_7cf53_11 (by decide) (fun c_11 => ?_) (fun c_11 => ?_)
    · refine lv_iload_n hx hb dJ9_floorMod_7cf53_18 rfl (lv_at hl 0 rfl) ?_
      exact q_retI hx hb hr hlocks hS (by rw [x_fm, if_neg c_7, if_pos c_11]) dJ9_floorMod_7cf53_19
    · refine lv_iload_n hx hb dJ9_floorMod_7cf53_14 rfl (lv_at hl 0 rfl) ?_
      refine lv_iload_n hx hb dJ9_floorMod_7cf53_15 rfl (lv_at hl 2 rfl) ?_
      refine lv_iadd hx hb dJ9_floorMod_7cf53_16 ?_
      exact q_retI hx hb hr hlocks hS (by rw [x_fm, if_neg c_7, if_neg c_11]) dJ9_floorMod_7cf53_17

theorem kv_X0_topicBetween : yX0_topicBetween.cls = RX0 ∧ yX0_topicBetween.cls ≠ "java/lang/invoke/MethodHandle" ∧ yX0_topicBetween.cls ≠ "java/lang/invoke/VarHandle" ∧ (parseMethodDescriptor yX0_topicBetween.desc).map (fun d => d.parameters.length) = some 2 := by decide +kernel
theorem ks_X0_topicBetween : yX0_topicBetween.cls ≠ "java/lang/invoke/MethodHandle" ∧ yX0_topicBetween.cls ≠ "java/lang/invoke/VarHandle" ∧ (parseMethodDescriptor yX0_topicBetween.desc).map (fun d => d.parameters.length) = some 2 := kv_X0_topicBetween.2
set_option maxHeartbeats 4000000 in
set_option maxRecDepth 100000 in
theorem c_X0_topicBetween (l : Launch) (D : va_G) (x1 : Int32) (x2 : Int32) : q_I l yX0_topicBetween wsX0_topicBetween ({ frames := 2, cells := 0, slots := 0, locals := 43 } : Room) D ([]) ([]) [.int x1, .int x2] (x_btw x1 x2) := by
  refine q_startI (cc := cX0_topicBetween) (maxL := 4) (rt := .int) (by decide) rfl (Nat.le_of_ble_eq_true rfl) ?_
  intro p e s m below meth c hx hb hml hr hts hown hlocks hK H locs ls hP hS hl
  have hl : lv_has ls 4 [(0, .int x1), (1, .int x2)] := hl
  refine lv_iload_n hx hb dX0_topicBetween_0 rfl (lv_at hl 0 rfl) ?_
  refine lv_iload_n hx hb dX0_topicBetween_1 rfl (lv_at hl 1 rfl) ?_
  refine q_callS (As := [.int x1, .int x2]) (rest := []) ⟨hx, hb, hml, hown, hts⟩ (c_X0_topicDistance l D x1 x2) (va_cwS 2 hts gX0_topicBetween_X0_topicDistance rfl rfl rfl ks_X0_topicDistance ⟨Nat.le_of_ble_eq_true rfl, Nat.le_of_ble_eq_true rfl⟩) (hP.sub [] rfl) (hK.sub [] rfl) rfl hl.1 rfl (Nat.le_of_ble_eq_true rfl) dX0_topicBetween_2 (Nat.zero_le _) (Nat.zero_le _) hS (fun H locs hsm hS => ?_)
  have hP := hsm.P hP
  refine lv_iconst (v := 2) hx hb dX0_topicBetween_5 (by decide) ?_
  refine lv_idiv hx hb dX0_topicBetween_6 (by decide) ?_
  refine lv_istore_n (lv' := [(2, .int ((x_ds x1 x2) / 2)), (0, .int x1), (1, .int x2)]) hx hb dX0_topicBetween_7 rfl hl (by decide) rfl (fun ls hl => ?_)
  refine lv_iload_n hx hb dX0_topicBetween_8 rfl (lv_at hl 2 rfl) ?_
  refine lv_iload_n hx hb dX0_topicBetween_9 rfl (lv_at hl 1 rfl) ?_
  refine lv_isub hx hb dX0_topicBetween_10 ?_
  refine lv_bipush (v := 10) hx hb dX0_topicBetween_11 (by decide) ?_
  refine q_callS (As := [.int (x2 - x1), .int 10]) (rest := []) ⟨hx, hb, hml, hown, hts⟩ (c_J9_floorMod_7cf53 l D (x2 - x1) 10 (by decide)) (va_cwS 2 hts gX0_topicBetween_J9_floorMod_7cf53 rfl rfl rfl ks_J9_floorMod_7cf53 ⟨Nat.le_of_ble_eq_true rfl, Nat.le_of_ble_eq_true rfl⟩) (hP.sub [] rfl) (hK.sub [] rfl) rfl hl.1 rfl (Nat.le_of_ble_eq_true rfl) dX0_topicBetween_13 (Nat.zero_le _) (Nat.zero_le _) hS (fun H locs hsm hS => ?_)
  have hP := hsm.P hP
  refine lv_iconst (v := 5) hx hb dX0_topicBetween_16 (by decide) ?_
  suffices K_17 : ∀ v9 : Int32, v9 = (bI (!decide (5 < (x_fm (x2 - x1) 10)))) → W p l e ({ frames := 2, cells := 0, slots := 0, locals := 43 } : Room) s m [.int x1, .int x2].toArray below meth c H locs 0 0 (q_EI below [.int x1, .int x2].toArray s (x_btw x1 x2)) (F0 m 25 ls [.int v9]) from by
    refine lv_icmp_gt (tgt := 24) hx hb dX0_topicBetween_17 (by decide) (fun c_17 => ?_) (fun c_17 => ?_)
    · refine lv_iconst (v := 0) hx hb dX0_topicBetween_24 (by decide) ?_
      exact K_17 _ (bI_nt c_17)
    · refine lv_iconst (v := 1) hx hb dX0_topicBetween_20 (by decide) ?_
      refine lv_goto (tgt := 25) hx hb dX0_topicBetween_21 (by decide) ?_
      exact K_17 _ (bI_nf c_17)
  intro v9 hv9
  rw [hv9]; clear hv9
  refine lv_istore_n (lv' := [(3, .int (bI (!decide (5 < (x_fm (x2 - x1) 10))))), (2, .int ((x_ds x1 x2) / 2)), (0, .int x1), (1, .int x2)]) hx hb dX0_topicBetween_25 rfl hl (by decide) rfl (fun ls hl => ?_)
  refine lv_iload_n hx hb dX0_topicBetween_26 rfl (lv_at hl 0 rfl) ?_
  suffices K_27 : ∀ v9 : Int32, v9 = (if (!decide (5 < (x_fm (x2 - x1) 10))) = true then (x1 + ((x_ds x1 x2) / 2)) else (x1 - ((x_ds x1 x2) / 2))) → W p l e ({ frames := 2, cells := 0, slots := 0, locals := 43 } : Room) s m [.int x1, .int x2].toArray below meth c H locs 0 0 (q_EI below [.int x1, .int x2].toArray s (x_btw x1 x2)) (F0 m 39 ls [.int v9]) from by
    refine lv_if_eq (tgt := 36) hx hb dX0_topicBetween_27 (by decide) (fun c_27 => ?_) (fun c_27 => ?_)
    · refine lv_iload_n hx hb dX0_topicBetween_36 rfl (lv_at hl 2 rfl) ?_
      refine lv_iload_n hx hb dX0_topicBetween_37 rfl (lv_at hl 1 rfl) ?_
      refine lv_isub hx hb dX0_topicBetween_38 ?_
      exact K_27 _ (if_neg (by rw [bI_0.mp c_27]; exact Bool.false_ne_true)).symm
    · refine lv_iload_n hx hb dX0_topicBetween_30 rfl (lv_at hl 2 rfl) ?_
      refine lv_iload_n hx hb dX0_topicBetween_31 rfl (lv_at hl 1 rfl) ?_
      refine lv_iadd hx hb dX0_topicBetween_32 ?_
      refine lv_goto (tgt := 39) hx hb dX0_topicBetween_33 (by decide) ?_
      exact K_27 _ (if_pos (bI_n0.mp c_27)).symm
  intro v9 hv9
  rw [hv9]; clear hv9
  refine lv_bipush (v := 10) hx hb dX0_topicBetween_39 (by decide) ?_
  refine q_callS (As := [.int (if (!decide (5 < (x_fm (x2 - x1) 10))) = true then (x1 + ((x_ds x1 x2) / 2)) else (x1 - ((x_ds x1 x2) / 2))), .int 10]) (rest := []) ⟨hx, hb, hml, hown, hts⟩ (c_J9_floorMod_7cf53 l D (if (!decide (5 < (x_fm (x2 - x1) 10))) = true then (x1 + ((x_ds x1 x2) / 2)) else (x1 - ((x_ds x1 x2) / 2))) 10 (by decide)) (va_cwS 2 hts gX0_topicBetween_J9_floorMod_7cf53 rfl rfl rfl ks_J9_floorMod_7cf53 ⟨Nat.le_of_ble_eq_true rfl, Nat.le_of_ble_eq_true rfl⟩) (hP.sub [] rfl) (hK.sub [] rfl) rfl hl.1 rfl (Nat.le_of_ble_eq_true rfl) dX0_topicBetween_41 (Nat.zero_le _) (Nat.zero_le _) hS (fun H locs hsm hS => ?_)
  have hP := hsm.P hP
  exact q_retI hx hb hr hlocks hS (by rw [x_btw, k_nd]) dX0_topicBetween_44

theorem kv_X0_mendingCost : yX0_mendingCost.cls = RX0 ∧ yX0_mendingCost.cls ≠ "java/lang/invoke/MethodHandle" ∧ yX0_mendingCost.cls ≠ "java/lang/invoke/VarHandle" ∧ (parseMethodDescriptor yX0_mendingCost.desc).map (fun d => d.parameters.length) = some 1 := by decide +kernel
theorem ks_X0_mendingCost : yX0_mendingCost.cls ≠ "java/lang/invoke/MethodHandle" ∧ yX0_mendingCost.cls ≠ "java/lang/invoke/VarHandle" ∧ (parseMethodDescriptor yX0_mendingCost.desc).map (fun d => d.parameters.length) = some 1 := kv_X0_mendingCost.2
set_option maxHeartbeats 4000000 in
set_option maxRecDepth 100000 in
theorem c_X0_mendingCost (l : Launch) (D : va_G) (cI : ClassId) (ad : Nat → Nat) (n : Int32) (w : Int32) (t : Int32) (pa pe : Int32) (f0 f1 f2 f3 f4 : Nat → Int32) (x1 : Int32) : q_I l yX0_mendingCost wsX0_mendingCost ({ frames := 4, cells := 0, slots := 0, locals := 85 } : Room) D ([(cI, .int)]) (xw cI ad n w t pa pe f0 f1 f2 f3 f4) [.ref (ad 0), .int x1] (x_mc f0 f1 f2 f3 x1) := by
  refine q_startI (cc := cX0_mendingCost) (maxL := 4) (rt := .int) (by decide) rfl (Nat.le_of_ble_eq_true rfl) ?_
  intro p e s m below meth c hx hb hml hr hts hown hlocks hK H locs ls hP hS hl
  have hin : ∀ w ∈ wsX00, w ∈ wsX0_mendingCost := by decide +kernel
  have hl : lv_has ls 4 [(0, .ref (ad 0)), (1, .int x1)] := hl
  refine lv_aload_n hx hb dX0_mendingCost_0 rfl (lv_at hl 0 rfl) ?_
  refine lv_iload_n hx hb dX0_mendingCost_1 rfl (lv_at hl 1 rfl) ?_
  refine q_callV (As := [.int x1]) (rest := []) ⟨hx, hb, hml, hown, hts⟩ (c_X0_kindOfGap l D cI ad n w t pa pe f0 f1 f2 f3 f4 x1) (cwV 1 hts gX0_mendingCost_X0_kindOfGap rfl rfl rfl kv_X0_kindOfGap ⟨Nat.le_of_ble_eq_true rfl, Nat.le_of_ble_eq_true rfl⟩) (va_recv hK hP (ci := 0) (q0 := 0) rfl rfl) hP hK rfl hl.1 rfl (Nat.le_of_ble_eq_true rfl) dX0_mendingCost_2 (Nat.zero_le _) (Nat.zero_le _) hS (fun H locs hsm hS => ?_)
  have hP := hsm.P hP
  refine lv_iconst (v := 2) hx hb dX0_mendingCost_5 (by decide) ?_
  refine lv_icmp_eq (tgt := 11) hx hb dX0_mendingCost_6 (by decide) (fun c_6 => ?_) (fun c_6 => ?_)
  · refine lv_aload_n hx hb dX0_mendingCost_11 rfl (lv_at hl 0 rfl) ?_
    refine lv_iload_n hx hb dX0_mendingCost_12 rfl (lv_at hl 1 rfl) ?_
    refine q_callV (As := [.int x1]) (rest := []) ⟨hx, hb, hml, hown, hts⟩ (c_X0_strainOfGap l D cI ad n w t pa pe f0 f1 f2 f3 f4 x1) (cwV 1 hts gX0_mendingCost_X0_strainOfGap rfl rfl rfl kv_X0_strainOfGap ⟨Nat.le_of_ble_eq_true rfl, Nat.le_of_ble_eq_true rfl⟩) (va_recv hK hP (ci := 0) (q0 := 0) rfl rfl) hP hK rfl hl.1 rfl (Nat.le_of_ble_eq_true rfl) dX0_mendingCost_13 (Nat.zero_le _) (Nat.zero_le _) hS (fun H locs hsm hS => ?_)
    have hP := hsm.P hP
    refine lv_aload_n hx hb dX0_mendingCost_16 rfl (lv_at hl 0 rfl) ?_
    refine lv_iload_n hx hb dX0_mendingCost_17 rfl (lv_at hl 1 rfl) ?_
    refine q_callV (As := [.int x1]) (rest := [.int (x_st f1 f3 x1)]) ⟨hx, hb, hml, hown, hts⟩ (c_X0_ofOneSpeaker l D cI ad n w t pa pe f0 f1 f2 f3 f4 x1) (cwV 1 hts gX0_mendingCost_X0_ofOneSpeaker rfl rfl rfl kv_X0_ofOneSpeaker ⟨Nat.le_of_ble_eq_true rfl, Nat.le_of_ble_eq_true rfl⟩) (va_recv hK hP (ci := 0) (q0 := 0) rfl rfl) hP hK rfl hl.1 rfl (Nat.le_of_ble_eq_true rfl) dX0_mendingCost_18 (Nat.zero_le _) (Nat.zero_le _) hS (fun H locs hsm hS => ?_)
    have hP := hsm.P hP
    refine q_callS (As := [.int (bI (x_one f0 f3 x1))]) (rest := [.int (x_st f1 f3 x1)]) ⟨hx, hb, hml, hown, hts⟩ (c_X0_mostUnbrokenStrain l D (x_one f0 f3 x1)) (va_cwS 1 hts gX0_mendingCost_X0_mostUnbrokenStrain rfl rfl rfl ks_X0_mostUnbrokenStrain ⟨Nat.le_of_ble_eq_true rfl, Nat.le_of_ble_eq_true rfl⟩) (hP.sub [] rfl) (hK.sub [] rfl) rfl hl.1 rfl (Nat.le_of_ble_eq_true rfl) dX0_mendingCost_21 (Nat.zero_le _) (Nat.zero_le _) hS (fun H locs hsm hS => ?_)
    have hP := hsm.P hP
    refine lv_isub hx hb dX0_mendingCost_24 ?_
    refine lv_istore_n (lv' := [(2, .int ((x_st f1 f3 x1) - (x_most (x_one f0 f3 x1)))), (0, .ref (ad 0)), (1, .int x1)]) hx hb dX0_mendingCost_25 rfl hl (by decide) rfl (fun ls hl => ?_)
    refine lv_iload_n hx hb dX0_mendingCost_26 rfl (lv_at hl 0 rfl) ?_
    refine lv_aload_n hx hb dX0_mendingCost_27 rfl (lv_at hl 1 rfl) ?_
    refine lv_iload_n hx hb dX0_mendingCost_28 rfl (lv_at hl 2 rfl) ?_
    refine q_callV (As := [.int x1]) (rest := [.int ((x_st f1 f3 x1) - (x_most (x_one f0 f3 x1)))]) ⟨hx, hb, hml, hown, hts⟩ (c_X0_coughsOfGap l D cI ad n w t pa pe f0 f1 f2 f3 f4 x1) (cwV 1 hts gX0_mendingCost_X0_coughsOfGap rfl rfl rfl kv_X0_coughsOfGap ⟨Nat.le_of_ble_eq_true rfl, Nat.le_of_ble_eq_true rfl⟩) (va_recv hK hP (ci := 0) (q0 := 0) rfl rfl) hP hK rfl hl.1 rfl (Nat.le_of_ble_eq_true rfl) dX0_mendingCost_29 (Nat.zero_le _) (Nat.zero_le _) hS (fun H locs hsm hS => ?_)
    have hP := hsm.P hP
    suffices K_32 : ∀ v9 : Int32, v9 = (bI (!decide ((x_cg f3 x1) < ((x_st f1 f3 x1) - (x_most (x_one f0 f3 x1)))))) → W p l e ({ frames := 4, cells := 0, slots := 0, locals := 85 } : Room) s m [.ref (ad 0), .int x1].toArray below meth c H locs 0 0 (q_EI below [.ref (ad 0), .int x1].toArray s (x_mc f0 f1 f2 f3 x1)) (F0 m 40 ls [.int v9]) from by
      refine lv_icmp_gt (tgt := 39) hx hb dX0_mendingCost_32 (by decide) (fun c_32 => ?_) (fun c_32 => ?_)
      · refine lv_iconst (v := 0) hx hb dX0_mendingCost_39 (by decide) ?_
        exact K_32 _ (bI_nt c_32)
      · refine lv_iconst (v := 1) hx hb dX0_mendingCost_35 (by decide) ?_
        refine lv_goto (tgt := 40) hx hb dX0_mendingCost_36 (by decide) ?_
        exact K_32 _ (bI_nf c_32)
    intro v9 hv9
    rw [hv9]; clear hv9
    refine lv_istore_n (lv' := [(3, .int (bI (!decide ((x_cg f3 x1) < ((x_st f1 f3 x1) - (x_most (x_one f0 f3 x1))))))), (2, .int ((x_st f1 f3 x1) - (x_most (x_one f0 f3 x1)))), (0, .ref (ad 0)), (1, .int x1)]) hx hb dX0_mendingCost_40 rfl hl (by decide) rfl (fun ls hl => ?_)
    refine lv_iload_n hx hb dX0_mendingCost_41 rfl (lv_at hl 0 rfl) ?_
    suffices K_42 : ∀ v9 : Int32, v9 = (if (!decide ((x_cg f3 x1) < ((x_st f1 f3 x1) - (x_most (x_one f0 f3 x1))))) = true then (i_min 3 (((x_st f1 f3 x1) - (x_most (x_one f0 f3 x1))) * 1)) else 3) → W p l e ({ frames := 4, cells := 0, slots := 0, locals := 85 } : Room) s m [.ref (ad 0), .int x1].toArray below meth c H locs 0 0 (q_EI below [.ref (ad 0), .int x1].toArray s (x_mc f0 f1 f2 f3 x1)) (F0 m 56 ls [.int v9]) from by
      refine lv_if_eq (tgt := 55) hx hb dX0_mendingCost_42 (by decide) (fun c_42 => ?_) (fun c_42 => ?_)
      · refine lv_iconst (v := 3) hx hb dX0_mendingCost_55 (by decide) ?_
        exact K_42 _ (if_neg (by rw [bI_0.mp c_42]; exact Bool.false_ne_true)).symm
      · refine lv_iconst (v := 3) hx hb dX0_mendingCost_45 (by decide) ?_
        refine lv_iload_n hx hb dX0_mendingCost_46 rfl (lv_at hl 1 rfl) ?_
        refine lv_iconst (v := 1) hx hb dX0_mendingCost_47 (by decide) ?_
        refine lv_imul hx hb dX0_mendingCost_48 ?_
        refine va_mmin hx hb (hml.trans hl.1.symm) hown (hts (.methodLink RX0 111 Lib.Math.min.name) (by decide +kernel)) (hts (.static Lib.Math.min.name) (by decide +kernel)) (hts (.initialized "java/lang/Math") (by decide +kernel)) (hts (.code Lib.Math.min.name Lib.Math.min.code 2 (some .int)) (by decide +kernel)) (Nat.le_of_ble_eq_true rfl) (Nat.le_of_ble_eq_true rfl) (Nat.zero_le _) (Nat.zero_le _) dX0_mendingCost_49 ?_
        refine lv_goto (tgt := 56) hx hb dX0_mendingCost_52 (by decide) ?_
        exact K_42 _ (if_pos (bI_n0.mp c_42)).symm
    intro v9 hv9
    rw [hv9]; clear hv9
    exact q_retI hx hb hr hlocks hS (by rw [x_mc, if_pos c_6]; exact k_mc _ _ _) dX0_mendingCost_56
  · refine lv_iconst (v := 0) hx hb dX0_mendingCost_9 (by decide) ?_
    exact q_retI hx hb hr hlocks hS (by rw [x_mc, if_neg c_6]) dX0_mendingCost_10

theorem kv_X0_costOfAll : yX0_costOfAll.cls = RX0 ∧ yX0_costOfAll.cls ≠ "java/lang/invoke/MethodHandle" ∧ yX0_costOfAll.cls ≠ "java/lang/invoke/VarHandle" ∧ (parseMethodDescriptor yX0_costOfAll.desc).map (fun d => d.parameters.length) = some 0 := by decide +kernel
theorem ks_X0_costOfAll : yX0_costOfAll.cls ≠ "java/lang/invoke/MethodHandle" ∧ yX0_costOfAll.cls ≠ "java/lang/invoke/VarHandle" ∧ (parseMethodDescriptor yX0_costOfAll.desc).map (fun d => d.parameters.length) = some 0 := kv_X0_costOfAll.2
set_option maxHeartbeats 4000000 in
set_option maxRecDepth 100000 in
theorem c_X0_costOfAll (l : Launch) (D : va_G) (cI : ClassId) (ad : Nat → Nat) (n : Int32) (wN : Nat) (t : Int32) (pa pe : Int32) (f0 f1 f2 f3 f4 : Nat → Int32) (hwN : wN ≤ 24) : q_I l yX0_costOfAll wsX0_costOfAll ({ frames := 5, cells := 0, slots := 0, locals := 108 } : Room) D ([(cI, .int)]) (xw cI ad n (nI wN) t pa pe f0 f1 f2 f3 f4) [.ref (ad 0)] (x_ca f0 f1 f2 f3 (wN - 1)) := by
  refine q_startI (cc := cX0_costOfAll) (maxL := 3) (rt := .int) (by decide) rfl (Nat.le_of_ble_eq_true rfl) ?_
  intro p e s m below meth c hx hb hml hr hts hown hlocks hK H locs ls hP hS hl
  have hin : ∀ w ∈ wsX00, w ∈ wsX0_costOfAll := by decide +kernel
  have hl : lv_has ls 3 [(0, .ref (ad 0))] := hl
  refine lv_iconst (v := 0) hx hb dX0_costOfAll_0 (by decide) ?_
  refine lv_istore_n (lv' := [(1, .int 0), (0, .ref (ad 0))]) hx hb dX0_costOfAll_1 rfl hl (by decide) rfl (fun ls hl => ?_)
  refine lv_iconst (v := 0) hx hb dX0_costOfAll_2 (by decide) ?_
  refine lv_istore_n (lv' := [(2, .int 0), (1, .int 0), (0, .ref (ad 0))]) hx hb dX0_costOfAll_3 rfl hl (by decide) rfl (fun ls hl => ?_)
  have lo_4 : ∀ (fu i : Nat), (wN - 1) - i < fu → i ≤ (wN - 1) → ∀ (H : Heap) (locs : List Loc) (ls : Array Slot), va_P D vwCl (xw cI ad n (nI wN) t pa pe f0 f1 f2 f3 f4) H → va_S q_no s.heap H locs → lv_has ls 3 [(1, .int (x_ca f0 f1 f2 f3 i)), (2, .int (nI i)), (0, .ref (ad 0))] → W p l e ({ frames := 5, cells := 0, slots := 0, locals := 108 } : Room) s m [.ref (ad 0)].toArray below meth c H locs 0 0 (q_EI below [.ref (ad 0)].toArray s (x_ca f0 f1 f2 f3 (wN - 1))) (F0 m 4 ls []) := by
    intro fu
    induction fu with
    | zero => intro i hi; exact absurd hi (Nat.not_lt_zero _)
    | succ fu ih =>
      intro i hi hiN H locs ls hP hS hl
      refine lv_iload_n hx hb dX0_costOfAll_4 rfl (lv_at hl 1 rfl) ?_
      refine lv_aload_n hx hb dX0_costOfAll_5 rfl (lv_at hl 2 rfl) ?_
      refine q_callV (As := []) (rest := [.int (nI i)]) ⟨hx, hb, hml, hown, hts⟩ (c_X0_gapCount l D cI ad n (nI wN) t pa pe f0 f1 f2 f3 f4) (cwV 0 hts gX0_costOfAll_X0_gapCount rfl rfl rfl kv_X0_gapCount ⟨Nat.le_of_ble_eq_true rfl, Nat.le_of_ble_eq_true rfl⟩) (va_recv hK hP (ci := 0) (q0 := 0) rfl rfl) hP hK rfl hl.1 rfl (Nat.le_of_ble_eq_true rfl) dX0_costOfAll_6 (Nat.zero_le _) (Nat.zero_le _) hS (fun H locs hsm hS => ?_)
      have hP := hsm.P hP
      rw [x_gc_nI (by omega)]
      refine lv_icmp_ge (tgt := 26) hx hb dX0_costOfAll_9 (by decide) (fun c_9 => ?_) (fun c_9 => ?_)
      · have hi9 := nI_ge' hiN (by omega) c_9
        refine lv_iload_n hx hb dX0_costOfAll_26 rfl (lv_at hl 0 rfl) ?_
        exact q_retI hx hb hr hlocks hS (by rw [hi9]) dX0_costOfAll_27
      · have hi9 := nI_lt' hiN (by omega) c_9
        refine lv_iload_n hx hb dX0_costOfAll_12 rfl (lv_at hl 0 rfl) ?_
        refine lv_aload_n hx hb dX0_costOfAll_13 rfl (lv_at hl 2 rfl) ?_
        refine lv_iload_n hx hb dX0_costOfAll_14 rfl (lv_at hl 1 rfl) ?_
        refine q_callV (As := [.int (nI i)]) (rest := [.int (x_ca f0 f1 f2 f3 i)]) ⟨hx, hb, hml, hown, hts⟩ (c_X0_mendingCost l D cI ad n (nI wN) t pa pe f0 f1 f2 f3 f4 (nI i)) (cwV 1 hts gX0_costOfAll_X0_mendingCost rfl rfl rfl kv_X0_mendingCost ⟨Nat.le_of_ble_eq_true rfl, Nat.le_of_ble_eq_true rfl⟩) (va_recv hK hP (ci := 0) (q0 := 0) rfl rfl) hP hK rfl hl.1 rfl (Nat.le_of_ble_eq_true rfl) dX0_costOfAll_15 (Nat.zero_le _) (Nat.zero_le _) hS (fun H locs hsm hS => ?_)
        have hP := hsm.P hP
        refine lv_iadd hx hb dX0_costOfAll_18 ?_
        refine lv_istore_n (lv' := [(1, .int ((x_ca f0 f1 f2 f3 i) + (x_mc f0 f1 f2 f3 (nI i)))), (2, .int (nI i)), (0, .ref (ad 0))]) hx hb dX0_costOfAll_19 rfl hl (by decide) rfl (fun ls hl => ?_)
        refine lv_iinc (v := ((nI i) + 1)) (lv' := [(2, .int ((nI i) + 1)), (1, .int ((x_ca f0 f1 f2 f3 i) + (x_mc f0 f1 f2 f3 (nI i)))), (0, .ref (ad 0))]) hx hb dX0_costOfAll_20 hl (k := 1) rfl (by rfl) (by decide) rfl (fun ls hl => ?_)
        refine lv_goto (tgt := 4) hx hb dX0_costOfAll_23 (by decide) ?_
        have e_2 : (((nI i) + 1) : Int32) = (nI (i + 1)) := nI_1 i
        exact ih (i + 1) (by omega) (by omega) H locs ls hP hS (lv_eq (lv_sub (l' := [(1, .int (x_ca f0 f1 f2 f3 (i + 1))), (2, .int ((nI i) + 1)), (0, .ref (ad 0))]) hl [1, 0, 2] rfl) (by rw [e_2]))
  exact lo_4 ((wN - 1) + 1) 0 (by omega) (by omega) H locs ls hP hS (lv_sub hl [1, 0, 2] rfl)

theorem kv_X0_meanStrain : yX0_meanStrain.cls = RX0 ∧ yX0_meanStrain.cls ≠ "java/lang/invoke/MethodHandle" ∧ yX0_meanStrain.cls ≠ "java/lang/invoke/VarHandle" ∧ (parseMethodDescriptor yX0_meanStrain.desc).map (fun d => d.parameters.length) = some 0 := by decide +kernel
theorem ks_X0_meanStrain : yX0_meanStrain.cls ≠ "java/lang/invoke/MethodHandle" ∧ yX0_meanStrain.cls ≠ "java/lang/invoke/VarHandle" ∧ (parseMethodDescriptor yX0_meanStrain.desc).map (fun d => d.parameters.length) = some 0 := kv_X0_meanStrain.2
set_option maxHeartbeats 4000000 in
set_option maxRecDepth 100000 in
theorem c_X0_meanStrain (l : Launch) (D : va_G) (cI : ClassId) (ad : Nat → Nat) (n : Int32) (wN : Nat) (t : Int32) (pa pe : Int32) (f0 f1 f2 f3 f4 : Nat → Int32) (hwN : wN ≤ 24) (hnn : ¬ wN - 1 = 0 → vf_n64 (FP.ddiv (FP.i2d (x_ss f1 f3 (wN - 1))) (FP.i2d (nI (wN - 1))))) : q_F l yX0_meanStrain wsX0_meanStrain ({ frames := 3, cells := 0, slots := 0, locals := 64 } : Room) D ([(cI, .int)]) (xw cI ad n (nI wN) t pa pe f0 f1 f2 f3 f4) [.ref (ad 0)] (x_ms f1 f3 wN) := by
  refine q_startF (cc := cX0_meanStrain) (maxL := 4) (rt := .double) (by decide) rfl (Nat.le_of_ble_eq_true rfl) ?_
  intro p e s m below meth c hx hb hml hr hts hown hlocks hK H locs ls hP hS hl
  have hin : ∀ w ∈ wsX00, w ∈ wsX0_meanStrain := by decide +kernel
  have hl : lv_has ls 4 [(0, .ref (ad 0))] := hl
  refine lv_aload_n hx hb dX0_meanStrain_0 rfl (lv_at hl 0 rfl) ?_
  refine q_callV (As := []) (rest := []) ⟨hx, hb, hml, hown, hts⟩ (c_X0_gapCount l D cI ad n (nI wN) t pa pe f0 f1 f2 f3 f4) (cwV 0 hts gX0_meanStrain_X0_gapCount rfl rfl rfl kv_X0_gapCount ⟨Nat.le_of_ble_eq_true rfl, Nat.le_of_ble_eq_true rfl⟩) (va_recv hK hP (ci := 0) (q0 := 0) rfl rfl) hP hK rfl hl.1 rfl (Nat.le_of_ble_eq_true rfl) dX0_meanStrain_1 (Nat.zero_le _) (Nat.zero_le _) hS (fun H locs hsm hS => ?_)
  have hP := hsm.P hP
  rw [x_gc_nI (by omega)]
  refine lv_istore_n (lv' := [(1, .int (nI (wN - 1))), (0, .ref (ad 0))]) hx hb dX0_meanStrain_4 rfl hl (by decide) rfl (fun ls hl => ?_)
  refine lv_iload_n hx hb dX0_meanStrain_5 rfl (lv_at hl 0 rfl) ?_
  refine lv_if_ne (tgt := 11) hx hb dX0_meanStrain_6 (by decide) (fun c_6 => ?_) (fun c_6 => ?_)
  · have hw0 : ¬ wN - 1 = 0 := fun h => c_6 (by rw [h]; rfl)
    refine lv_iconst (v := 0) hx hb dX0_meanStrain_11 (by decide) ?_
    refine lv_istore_n (lv' := [(2, .int 0), (1, .int (nI (wN - 1))), (0, .ref (ad 0))]) hx hb dX0_meanStrain_12 rfl hl (by decide) rfl (fun ls hl => ?_)
    refine lv_iconst (v := 0) hx hb dX0_meanStrain_13 (by decide) ?_
    refine lv_istore_n (lv' := [(3, .int 0), (2, .int 0), (1, .int (nI (wN - 1))), (0, .ref (ad 0))]) hx hb dX0_meanStrain_14 rfl hl (by decide) rfl (fun ls hl => ?_)
    have lo_15 : ∀ (fu i : Nat), (wN - 1) - i < fu → i ≤ (wN - 1) → ∀ (H : Heap) (locs : List Loc) (ls : Array Slot), va_P D vwCl (xw cI ad n (nI wN) t pa pe f0 f1 f2 f3 f4) H → va_S q_no s.heap H locs → lv_has ls 4 [(2, .int (x_ss f1 f3 i)), (3, .int (nI i)), (0, .ref (ad 0)), (1, .int (nI (wN - 1)))] → W p l e ({ frames := 3, cells := 0, slots := 0, locals := 64 } : Room) s m [.ref (ad 0)].toArray below meth c H locs 0 0 (q_EF below [.ref (ad 0)].toArray s (x_ms f1 f3 wN)) (F0 m 15 ls []) := by
      intro fu
      induction fu with
      | zero => intro i hi; exact absurd hi (Nat.not_lt_zero _)
      | succ fu ih =>
        intro i hi hiN H locs ls hP hS hl
        refine lv_iload_n hx hb dX0_meanStrain_15 rfl (lv_at hl 1 rfl) ?_
        refine lv_iload_n hx hb dX0_meanStrain_16 rfl (lv_at hl 3 rfl) ?_
        refine lv_icmp_ge (tgt := 34) hx hb dX0_meanStrain_17 (by decide) (fun c_17 => ?_) (fun c_17 => ?_)
        · have hi9 := nI_ge' hiN (by omega) c_17
          refine lv_iload_n hx hb dX0_meanStrain_34 rfl (lv_at hl 0 rfl) ?_
          refine lv_i2d hx hb dX0_meanStrain_35 ?_
          refine lv_iload_n hx hb dX0_meanStrain_36 rfl (lv_at hl 3 rfl) ?_
          refine lv_i2d hx hb dX0_meanStrain_37 ?_
          refine lv_ddiv hx hb dX0_meanStrain_38 (by rw [hi9]; exact hnn hw0) ?_
          exact q_retF hx hb hr hlocks hS (by rw [x_ms, if_neg hw0, hi9]) dX0_meanStrain_39
        · have hi9 := nI_lt' hiN (by omega) c_17
          refine lv_iload_n hx hb dX0_meanStrain_20 rfl (lv_at hl 0 rfl) ?_
          refine lv_aload_n hx hb dX0_meanStrain_21 rfl (lv_at hl 2 rfl) ?_
          refine lv_iload_n hx hb dX0_meanStrain_22 rfl (lv_at hl 1 rfl) ?_
          refine q_callV (As := [.int (nI i)]) (rest := [.int (x_ss f1 f3 i)]) ⟨hx, hb, hml, hown, hts⟩ (c_X0_strainOfGap l D cI ad n (nI wN) t pa pe f0 f1 f2 f3 f4 (nI i)) (cwV 1 hts gX0_meanStrain_X0_strainOfGap rfl rfl rfl kv_X0_strainOfGap ⟨Nat.le_of_ble_eq_true rfl, Nat.le_of_ble_eq_true rfl⟩) (va_recv hK hP (ci := 0) (q0 := 0) rfl rfl) hP hK rfl hl.1 rfl (Nat.le_of_ble_eq_true rfl) dX0_meanStrain_23 (Nat.zero_le _) (Nat.zero_le _) hS (fun H locs hsm hS => ?_)
          have hP := hsm.P hP
          refine lv_iadd hx hb dX0_meanStrain_26 ?_
          refine lv_istore_n (lv' := [(2, .int ((x_ss f1 f3 i) + (x_st f1 f3 (nI i)))), (3, .int (nI i)), (0, .ref (ad 0)), (1, .int (nI (wN - 1)))]) hx hb dX0_meanStrain_27 rfl hl (by decide) rfl (fun ls hl => ?_)
          refine lv_iinc (v := ((nI i) + 1)) (lv' := [(3, .int ((nI i) + 1)), (2, .int ((x_ss f1 f3 i) + (x_st f1 f3 (nI i)))), (0, .ref (ad 0)), (1, .int (nI (wN - 1)))]) hx hb dX0_meanStrain_28 hl (k := 1) rfl (by rfl) (by decide) rfl (fun ls hl => ?_)
          refine lv_goto (tgt := 15) hx hb dX0_meanStrain_31 (by decide) ?_
          have e_3 : (((nI i) + 1) : Int32) = (nI (i + 1)) := nI_1 i
          exact ih (i + 1) (by omega) (by omega) H locs ls hP hS (lv_eq (lv_sub (l' := [(2, .int (x_ss f1 f3 (i + 1))), (3, .int ((nI i) + 1)), (0, .ref (ad 0)), (1, .int (nI (wN - 1)))]) hl [1, 0, 2, 3] rfl) (by rw [e_3]))
    exact lo_15 ((wN - 1) + 1) 0 (by omega) (by omega) H locs ls hP hS (lv_sub hl [1, 0, 3, 2] rfl)
  · have hw0 : wN - 1 = 0 := by rcases Nat.eq_zero_or_pos (wN - 1) with q | q; exact q; exact absurd c_6 (nI_ne0 q (by omega))
    refine lv_dconst0 hx hb dX0_meanStrain_9 ?_
    exact q_retF hx hb hr hlocks hS (by rw [x_ms, if_pos hw0]) dX0_meanStrain_10

theorem kv_X0_remarks : yX0_remarks.cls = RX0 ∧ yX0_remarks.cls ≠ "java/lang/invoke/MethodHandle" ∧ yX0_remarks.cls ≠ "java/lang/invoke/VarHandle" ∧ (parseMethodDescriptor yX0_remarks.desc).map (fun d => d.parameters.length) = some 0 := by decide +kernel
theorem ks_X0_remarks : yX0_remarks.cls ≠ "java/lang/invoke/MethodHandle" ∧ yX0_remarks.cls ≠ "java/lang/invoke/VarHandle" ∧ (parseMethodDescriptor yX0_remarks.desc).map (fun d => d.parameters.length) = some 0 := kv_X0_remarks.2
set_option maxHeartbeats 4000000 in
set_option maxRecDepth 100000 in
theorem c_X0_remarks (l : Launch) (D : va_G) (cI : ClassId) (ad : Nat → Nat) (n : Int32) (w : Int32) (t : Int32) (pa pe : Int32) (f0 f1 f2 f3 f4 : Nat → Int32) : q_I l yX0_remarks wsX0_remarks ({ frames := 0, cells := 0, slots := 0, locals := 0 } : Room) D ([(cI, .int)]) (xw cI ad n w t pa pe f0 f1 f2 f3 f4) [.ref (ad 0)] n := by
  refine q_startI (cc := cX0_remarks) (maxL := 1) (rt := .int) (by decide) rfl (Nat.le_of_ble_eq_true rfl) ?_
  intro p e s m below meth c hx hb hml hr hts hown hlocks hK H locs ls hP hS hl
  have hin : ∀ w ∈ wsX00, w ∈ wsX0_remarks := by decide +kernel
  have hl : lv_has ls 1 [(0, .ref (ad 0))] := hl
  refine lv_aload_n hx hb dX0_remarks_0 rfl (lv_at hl 0 rfl) ?_
  refine va_get (D := D) (ci := 0) (v := .int n) (C := RX0) (T := TX0) (N := 10) hx hb hts hin hown hK hP 0 rfl rfl 3 (by decide) (hts (.fieldLink RX0 69 "SplicedTalk" "remarkCount" "I") (by decide +kernel)) (fun _ h9 => h9) rfl dX0_remarks_1 ?_
  exact q_retI hx hb hr hlocks hS rfl dX0_remarks_4

theorem kv_X0_words : yX0_words.cls = RX0 ∧ yX0_words.cls ≠ "java/lang/invoke/MethodHandle" ∧ yX0_words.cls ≠ "java/lang/invoke/VarHandle" ∧ (parseMethodDescriptor yX0_words.desc).map (fun d => d.parameters.length) = some 0 := by decide +kernel
theorem ks_X0_words : yX0_words.cls ≠ "java/lang/invoke/MethodHandle" ∧ yX0_words.cls ≠ "java/lang/invoke/VarHandle" ∧ (parseMethodDescriptor yX0_words.desc).map (fun d => d.parameters.length) = some 0 := kv_X0_words.2
set_option maxHeartbeats 4000000 in
set_option maxRecDepth 100000 in
theorem c_X0_words (l : Launch) (D : va_G) (cI : ClassId) (ad : Nat → Nat) (n : Int32) (w : Int32) (t : Int32) (pa pe : Int32) (f0 f1 f2 f3 f4 : Nat → Int32) : q_I l yX0_words wsX0_words ({ frames := 0, cells := 0, slots := 0, locals := 0 } : Room) D ([(cI, .int)]) (xw cI ad n w t pa pe f0 f1 f2 f3 f4) [.ref (ad 0)] w := by
  refine q_startI (cc := cX0_words) (maxL := 1) (rt := .int) (by decide) rfl (Nat.le_of_ble_eq_true rfl) ?_
  intro p e s m below meth c hx hb hml hr hts hown hlocks hK H locs ls hP hS hl
  have hin : ∀ w ∈ wsX00, w ∈ wsX0_words := by decide +kernel
  have hl : lv_has ls 1 [(0, .ref (ad 0))] := hl
  refine lv_aload_n hx hb dX0_words_0 rfl (lv_at hl 0 rfl) ?_
  refine va_get (D := D) (ci := 0) (v := .int w) (C := RX0) (T := TX0) (N := 10) hx hb hts hin hown hK hP 0 rfl rfl 6 (by decide) (hts (.fieldLink RX0 116 "SplicedTalk" "wordCount" "I") (by decide +kernel)) (fun _ h9 => h9) rfl dX0_words_1 ?_
  exact q_retI hx hb hr hlocks hS rfl dX0_words_4

theorem kv_X0_coughs : yX0_coughs.cls = RX0 ∧ yX0_coughs.cls ≠ "java/lang/invoke/MethodHandle" ∧ yX0_coughs.cls ≠ "java/lang/invoke/VarHandle" ∧ (parseMethodDescriptor yX0_coughs.desc).map (fun d => d.parameters.length) = some 0 := by decide +kernel
theorem ks_X0_coughs : yX0_coughs.cls ≠ "java/lang/invoke/MethodHandle" ∧ yX0_coughs.cls ≠ "java/lang/invoke/VarHandle" ∧ (parseMethodDescriptor yX0_coughs.desc).map (fun d => d.parameters.length) = some 0 := kv_X0_coughs.2
set_option maxHeartbeats 4000000 in
set_option maxRecDepth 100000 in
theorem c_X0_coughs (l : Launch) (D : va_G) (cI : ClassId) (ad : Nat → Nat) (n : Int32) (w : Int32) (t : Int32) (pa pe : Int32) (f0 f1 f2 f3 f4 : Nat → Int32) : q_I l yX0_coughs wsX0_coughs ({ frames := 0, cells := 0, slots := 0, locals := 0 } : Room) D ([(cI, .int)]) (xw cI ad n w t pa pe f0 f1 f2 f3 f4) [.ref (ad 0)] (n - w) := by
  refine q_startI (cc := cX0_coughs) (maxL := 1) (rt := .int) (by decide) rfl (Nat.le_of_ble_eq_true rfl) ?_
  intro p e s m below meth c hx hb hml hr hts hown hlocks hK H locs ls hP hS hl
  have hin : ∀ w ∈ wsX00, w ∈ wsX0_coughs := by decide +kernel
  have hl : lv_has ls 1 [(0, .ref (ad 0))] := hl
  refine lv_aload_n hx hb dX0_coughs_0 rfl (lv_at hl 0 rfl) ?_
  refine va_get (D := D) (ci := 0) (v := .int n) (C := RX0) (T := TX0) (N := 10) hx hb hts hin hown hK hP 0 rfl rfl 3 (by decide) (hts (.fieldLink RX0 69 "SplicedTalk" "remarkCount" "I") (by decide +kernel)) (fun _ h9 => h9) rfl dX0_coughs_1 ?_
  refine lv_aload_n hx hb dX0_coughs_4 rfl (lv_at hl 0 rfl) ?_
  refine va_get (D := D) (ci := 0) (v := .int w) (C := RX0) (T := TX0) (N := 10) hx hb hts hin hown hK hP 0 rfl rfl 6 (by decide) (hts (.fieldLink RX0 116 "SplicedTalk" "wordCount" "I") (by decide +kernel)) (fun _ h9 => h9) rfl dX0_coughs_5 ?_
  refine lv_isub hx hb dX0_coughs_8 ?_
  exact q_retI hx hb hr hlocks hS rfl dX0_coughs_9

theorem kv_X0_patience : yX0_patience.cls = RX0 ∧ yX0_patience.cls ≠ "java/lang/invoke/MethodHandle" ∧ yX0_patience.cls ≠ "java/lang/invoke/VarHandle" ∧ (parseMethodDescriptor yX0_patience.desc).map (fun d => d.parameters.length) = some 0 := by decide +kernel
theorem ks_X0_patience : yX0_patience.cls ≠ "java/lang/invoke/MethodHandle" ∧ yX0_patience.cls ≠ "java/lang/invoke/VarHandle" ∧ (parseMethodDescriptor yX0_patience.desc).map (fun d => d.parameters.length) = some 0 := kv_X0_patience.2
set_option maxHeartbeats 4000000 in
set_option maxRecDepth 100000 in
theorem c_X0_patience (l : Launch) (D : va_G) (cI : ClassId) (ad : Nat → Nat) (n : Int32) (w : Int32) (t : Int32) (pa pe : Int32) (f0 f1 f2 f3 f4 : Nat → Int32) : q_I l yX0_patience wsX0_patience ({ frames := 0, cells := 0, slots := 0, locals := 0 } : Room) D ([(cI, .int)]) (xw cI ad n w t pa pe f0 f1 f2 f3 f4) [.ref (ad 0)] pa := by
  refine q_startI (cc := cX0_patience) (maxL := 1) (rt := .int) (by decide) rfl (Nat.le_of_ble_eq_true rfl) ?_
  intro p e s m below meth c hx hb hml hr hts hown hlocks hK H locs ls hP hS hl
  have hin : ∀ w ∈ wsX00, w ∈ wsX0_patience := by decide +kernel
  have hl : lv_has ls 1 [(0, .ref (ad 0))] := hl
  refine lv_aload_n hx hb dX0_patience_0 rfl (lv_at hl 0 rfl) ?_
  refine va_get (D := D) (ci := 0) (v := .int pa) (C := RX0) (T := TX0) (N := 10) hx hb hts hin hown hK hP 0 rfl rfl 8 (by decide) (hts (.fieldLink RX0 25 "SplicedTalk" "patienceLeft" "I") (by decide +kernel)) (fun _ h9 => h9) rfl dX0_patience_1 ?_
  exact q_retI hx hb hr hlocks hS rfl dX0_patience_4

theorem kv_X0_spent : yX0_spent.cls = RX0 ∧ yX0_spent.cls ≠ "java/lang/invoke/MethodHandle" ∧ yX0_spent.cls ≠ "java/lang/invoke/VarHandle" ∧ (parseMethodDescriptor yX0_spent.desc).map (fun d => d.parameters.length) = some 0 := by decide +kernel
theorem ks_X0_spent : yX0_spent.cls ≠ "java/lang/invoke/MethodHandle" ∧ yX0_spent.cls ≠ "java/lang/invoke/VarHandle" ∧ (parseMethodDescriptor yX0_spent.desc).map (fun d => d.parameters.length) = some 0 := kv_X0_spent.2
set_option maxHeartbeats 4000000 in
set_option maxRecDepth 100000 in
theorem c_X0_spent (l : Launch) (D : va_G) (cI : ClassId) (ad : Nat → Nat) (n : Int32) (w : Int32) (t : Int32) (pa pe : Int32) (f0 f1 f2 f3 f4 : Nat → Int32) : q_I l yX0_spent wsX0_spent ({ frames := 0, cells := 0, slots := 0, locals := 0 } : Room) D ([(cI, .int)]) (xw cI ad n w t pa pe f0 f1 f2 f3 f4) [.ref (ad 0)] pe := by
  refine q_startI (cc := cX0_spent) (maxL := 1) (rt := .int) (by decide) rfl (Nat.le_of_ble_eq_true rfl) ?_
  intro p e s m below meth c hx hb hml hr hts hown hlocks hK H locs ls hP hS hl
  have hin : ∀ w ∈ wsX00, w ∈ wsX0_spent := by decide +kernel
  have hl : lv_has ls 1 [(0, .ref (ad 0))] := hl
  refine lv_aload_n hx hb dX0_spent_0 rfl (lv_at hl 0 rfl) ?_
  refine va_get (D := D) (ci := 0) (v := .int pe) (C := RX0) (T := TX0) (N := 10) hx hb hts hin hown hK hP 0 rfl rfl 9 (by decide) (hts (.fieldLink RX0 119 "SplicedTalk" "patienceSpent" "I") (by decide +kernel)) (fun _ h9 => h9) rfl dX0_spent_1 ?_
  exact q_retI hx hb hr hlocks hS rfl dX0_spent_4

theorem kv_X0_threads : yX0_threads.cls = RX0 ∧ yX0_threads.cls ≠ "java/lang/invoke/MethodHandle" ∧ yX0_threads.cls ≠ "java/lang/invoke/VarHandle" ∧ (parseMethodDescriptor yX0_threads.desc).map (fun d => d.parameters.length) = some 0 := by decide +kernel
theorem ks_X0_threads : yX0_threads.cls ≠ "java/lang/invoke/MethodHandle" ∧ yX0_threads.cls ≠ "java/lang/invoke/VarHandle" ∧ (parseMethodDescriptor yX0_threads.desc).map (fun d => d.parameters.length) = some 0 := kv_X0_threads.2
set_option maxHeartbeats 4000000 in
set_option maxRecDepth 100000 in
theorem c_X0_threads (l : Launch) (D : va_G) (cI : ClassId) (ad : Nat → Nat) (n : Int32) (w : Int32) (t : Int32) (pa pe : Int32) (f0 f1 f2 f3 f4 : Nat → Int32) : q_I l yX0_threads wsX0_threads ({ frames := 0, cells := 0, slots := 0, locals := 0 } : Room) D ([(cI, .int)]) (xw cI ad n w t pa pe f0 f1 f2 f3 f4) [.ref (ad 0)] t := by
  refine q_startI (cc := cX0_threads) (maxL := 1) (rt := .int) (by decide) rfl (Nat.le_of_ble_eq_true rfl) ?_
  intro p e s m below meth c hx hb hml hr hts hown hlocks hK H locs ls hP hS hl
  have hin : ∀ w ∈ wsX00, w ∈ wsX0_threads := by decide +kernel
  have hl : lv_has ls 1 [(0, .ref (ad 0))] := hl
  refine lv_aload_n hx hb dX0_threads_0 rfl (lv_at hl 0 rfl) ?_
  refine va_get (D := D) (ci := 0) (v := .int t) (C := RX0) (T := TX0) (N := 10) hx hb hts hin hown hK hP 0 rfl rfl 7 (by decide) (hts (.fieldLink RX0 86 "SplicedTalk" "threadCount" "I") (by decide +kernel)) (fun _ h9 => h9) rfl dX0_threads_1 ?_
  exact q_retI hx hb hr hlocks hS rfl dX0_threads_4

theorem kv_X0_brokenGaps : yX0_brokenGaps.cls = RX0 ∧ yX0_brokenGaps.cls ≠ "java/lang/invoke/MethodHandle" ∧ yX0_brokenGaps.cls ≠ "java/lang/invoke/VarHandle" ∧ (parseMethodDescriptor yX0_brokenGaps.desc).map (fun d => d.parameters.length) = some 0 := by decide +kernel
theorem ks_X0_brokenGaps : yX0_brokenGaps.cls ≠ "java/lang/invoke/MethodHandle" ∧ yX0_brokenGaps.cls ≠ "java/lang/invoke/VarHandle" ∧ (parseMethodDescriptor yX0_brokenGaps.desc).map (fun d => d.parameters.length) = some 0 := kv_X0_brokenGaps.2
set_option maxHeartbeats 4000000 in
set_option maxRecDepth 100000 in
theorem c_X0_brokenGaps (l : Launch) (D : va_G) (cI : ClassId) (ad : Nat → Nat) (n : Int32) (wN : Nat) (t : Int32) (pa pe : Int32) (f0 f1 f2 f3 f4 : Nat → Int32) (hwN : wN ≤ 24) : q_I l yX0_brokenGaps wsX0_brokenGaps ({ frames := 5, cells := 0, slots := 0, locals := 108 } : Room) D ([(cI, .int)]) (xw cI ad n (nI wN) t pa pe f0 f1 f2 f3 f4) [.ref (ad 0)] (x_gk f0 f1 f2 f3 2 wN) := by
  refine q_startI (cc := cX0_brokenGaps) (maxL := 1) (rt := .int) (by decide) rfl (Nat.le_of_ble_eq_true rfl) ?_
  intro p e s m below meth c hx hb hml hr hts hown hlocks hK H locs ls hP hS hl
  have hin : ∀ w ∈ wsX00, w ∈ wsX0_brokenGaps := by decide +kernel
  have hl : lv_has ls 1 [(0, .ref (ad 0))] := hl
  refine lv_aload_n hx hb dX0_brokenGaps_0 rfl (lv_at hl 0 rfl) ?_
  refine lv_iconst (v := 2) hx hb dX0_brokenGaps_1 (by decide) ?_
  refine q_callV (As := [.int 2]) (rest := []) ⟨hx, hb, hml, hown, hts⟩ (c_X0_gapsOfKind l D cI ad n wN t pa pe f0 f1 f2 f3 f4 2 hwN) (cwV 1 hts gX0_brokenGaps_X0_gapsOfKind rfl rfl rfl kv_X0_gapsOfKind ⟨Nat.le_of_ble_eq_true rfl, Nat.le_of_ble_eq_true rfl⟩) (va_recv hK hP (ci := 0) (q0 := 0) rfl rfl) hP hK rfl hl.1 rfl (Nat.le_of_ble_eq_true rfl) dX0_brokenGaps_2 (Nat.zero_le _) (Nat.zero_le _) hS (fun H locs hsm hS => ?_)
  have hP := hsm.P hP
  exact q_retI hx hb hr hlocks hS rfl dX0_brokenGaps_5

theorem kv_X0_politeGaps : yX0_politeGaps.cls = RX0 ∧ yX0_politeGaps.cls ≠ "java/lang/invoke/MethodHandle" ∧ yX0_politeGaps.cls ≠ "java/lang/invoke/VarHandle" ∧ (parseMethodDescriptor yX0_politeGaps.desc).map (fun d => d.parameters.length) = some 0 := by decide +kernel
theorem ks_X0_politeGaps : yX0_politeGaps.cls ≠ "java/lang/invoke/MethodHandle" ∧ yX0_politeGaps.cls ≠ "java/lang/invoke/VarHandle" ∧ (parseMethodDescriptor yX0_politeGaps.desc).map (fun d => d.parameters.length) = some 0 := kv_X0_politeGaps.2
set_option maxHeartbeats 4000000 in
set_option maxRecDepth 100000 in
theorem c_X0_politeGaps (l : Launch) (D : va_G) (cI : ClassId) (ad : Nat → Nat) (n : Int32) (wN : Nat) (t : Int32) (pa pe : Int32) (f0 f1 f2 f3 f4 : Nat → Int32) (hwN : wN ≤ 24) : q_I l yX0_politeGaps wsX0_politeGaps ({ frames := 5, cells := 0, slots := 0, locals := 108 } : Room) D ([(cI, .int)]) (xw cI ad n (nI wN) t pa pe f0 f1 f2 f3 f4) [.ref (ad 0)] (x_gk f0 f1 f2 f3 1 wN) := by
  refine q_startI (cc := cX0_politeGaps) (maxL := 1) (rt := .int) (by decide) rfl (Nat.le_of_ble_eq_true rfl) ?_
  intro p e s m below meth c hx hb hml hr hts hown hlocks hK H locs ls hP hS hl
  have hin : ∀ w ∈ wsX00, w ∈ wsX0_politeGaps := by decide +kernel
  have hl : lv_has ls 1 [(0, .ref (ad 0))] := hl
  refine lv_aload_n hx hb dX0_politeGaps_0 rfl (lv_at hl 0 rfl) ?_
  refine lv_iconst (v := 1) hx hb dX0_politeGaps_1 (by decide) ?_
  refine q_callV (As := [.int 1]) (rest := []) ⟨hx, hb, hml, hown, hts⟩ (c_X0_gapsOfKind l D cI ad n wN t pa pe f0 f1 f2 f3 f4 1 hwN) (cwV 1 hts gX0_politeGaps_X0_gapsOfKind rfl rfl rfl kv_X0_gapsOfKind ⟨Nat.le_of_ble_eq_true rfl, Nat.le_of_ble_eq_true rfl⟩) (va_recv hK hP (ci := 0) (q0 := 0) rfl rfl) hP hK rfl hl.1 rfl (Nat.le_of_ble_eq_true rfl) dX0_politeGaps_2 (Nat.zero_le _) (Nat.zero_le _) hS (fun H locs hsm hS => ?_)
  have hP := hsm.P hP
  exact q_retI hx hb hr hlocks hS rfl dX0_politeGaps_5
