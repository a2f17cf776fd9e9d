theorem kv_X0_longestThread : yX0_longestThread.cls = RX0 ∧ yX0_longestThread.cls ≠ "java/lang/invoke/MethodHandle" ∧ yX0_longestThread.cls ≠ "java/lang/invoke/VarHandle" ∧ (parseMethodDescriptor yX0_longestThread.desc).map (fun d => d.parameters.length) = some 0 := by decide +kernel
theorem ks_X0_longestThread : yX0_longestThread.cls ≠ "java/lang/invoke/MethodHandle" ∧ yX0_longestThread.cls ≠ "java/lang/invoke/VarHandle" ∧ (parseMethodDescriptor yX0_longestThread.desc).map (fun d => d.parameters.length) = some 0 := kv_X0_longestThread.2
set_option maxHeartbeats 4000000 in
set_option maxRecDepth 100000 in
theorem c_X0_longestThread (l : Launch) (D : va_G) (cI : ClassId) (ad : Nat → Nat) (n : Int32) (wN : Nat) (tN : Nat) (pa pe : Int32) (f0 f1 f2 f3 f4 : Nat → Int32) (hwN : wN ≤ 24) (htN : tN ≤ 24) : q_I l yX0_longestThread wsX0_longestThread ({ frames := 3, cells := 0, slots := 0, locals := 65 } : Room) D ([(cI, .int)]) (xw cI ad n (nI wN) (nI tN) pa pe f0 f1 f2 f3 f4) [.ref (ad 0)] ((x_lg f4 wN tN).1) := by
  refine q_startI (cc := cX0_longestThread) (maxL := 5) (rt := .int) (by decide) rfl (Nat.le_of_ble_eq_true rfl) ?_
  intro p e s m below meth c hx hb hml hr hts hown hlocks hK H locs ls hP hS hl
  have hin : ∀ w ∈ wsX00, w ∈ wsX0_longestThread := by decide +kernel
  have hl : lv_has ls 5 [(0, .ref (ad 0))] := hl
  refine lv_iconst (v := -1) hx hb dX0_longestThread_0 (by decide) ?_
  refine lv_istore_n (lv' := [(1, .int (-1)), (0, .ref (ad 0))]) hx hb dX0_longestThread_1 rfl hl (by decide) rfl (fun ls hl => ?_)
  refine lv_iconst (v := 0) hx hb dX0_longestThread_2 (by decide) ?_
  refine lv_istore_n (lv' := [(2, .int 0), (1, .int (-1)), (0, .ref (ad 0))]) hx hb dX0_longestThread_3 rfl hl (by decide) rfl (fun ls hl => ?_)
  refine lv_iconst (v := 0) hx hb dX0_longestThread_4 (by decide) ?_
  refine lv_istore_n (lv' := [(3, .int 0), (2, .int 0), (1, .int (-1)), (0, .ref (ad 0))]) hx hb dX0_longestThread_5 rfl hl (by decide) rfl (fun ls hl => ?_)
  have lo_6 : ∀ (fu i : Nat), tN - i < fu → i ≤ tN → ∀ (H : Heap) (locs : List Loc) (ls : Array Slot), va_P D vwCl (xw cI ad n (nI wN) (nI tN) pa pe f0 f1 f2 f3 f4) H → va_S q_no s.heap H locs → lv_has ls 5 [(1, .int ((x_lg f4 wN i).1)), (2, .int ((x_lg f4 wN i).2)), (3, .int (nI i)), (0, .ref (ad 0))] → W p l e ({ frames := 3, cells := 0, slots := 0, locals := 65 } : Room) s m [.ref (ad 0)].toArray below meth c H locs 0 0 (q_EI below [.ref (ad 0)].toArray s ((x_lg f4 wN tN).1)) (F0 m 6 ls []) := by
    intro fu
    induction fu with
    | zero => intro i hi; exact absurd hi (Nat.not_lt_zero _)
    | succ fu ih =>
      intro i hi hiN H locs ls hP hS hl
      refine lv_iload_n hx hb dX0_longestThread_6 rfl (lv_at hl 2 rfl) ?_
      refine lv_aload_n hx hb dX0_longestThread_7 rfl (lv_at hl 3 rfl) ?_
      refine va_get (D := D) (ci := 0) (v := .int (nI tN)) (C := RX0) (T := TX0) (N := 10) hx hb hts hin hown hK hP 0 rfl rfl 7 (by decide) (hts (.fieldLink RX0 86 "SplicedTalk" "threadCount" "I") (by decide +kernel)) (fun _ h9 => h9) rfl dX0_longestThread_8 ?_
      refine lv_icmp_ge (tgt := 38) hx hb dX0_longestThread_11 (by decide) (fun c_11 => ?_) (fun c_11 => ?_)
      · have hi9 := nI_ge' hiN (by omega) c_11
        refine lv_iload_n hx hb dX0_longestThread_38 rfl (lv_at hl 0 rfl) ?_
        exact q_retI hx hb hr hlocks hS (by rw [hi9]) dX0_longestThread_39
      · have hi9 := nI_lt' hiN (by omega) c_11
        refine lv_aload_n hx hb dX0_longestThread_14 rfl (lv_at hl 3 rfl) ?_
        refine lv_iload_n hx hb dX0_longestThread_15 rfl (lv_at hl 2 rfl) ?_
        refine q_callV (As := [.int (nI i)]) (rest := []) ⟨hx, hb, hml, hown, hts⟩ (c_X0_wordsInThread l D cI ad n wN (nI tN) pa pe f0 f1 f2 f3 f4 (nI i) hwN) (cwV 1 hts gX0_longestThread_X0_wordsInThread rfl rfl rfl kv_X0_wordsInThread ⟨Nat.le_of_ble_eq_true rfl, Nat.le_of_ble_eq_true rfl⟩) (va_recv hK hP (ci := 0) (q0 := 0) rfl rfl) hP hK rfl hl.1 rfl (Nat.le_of_ble_eq_true rfl) dX0_longestThread_16 (Nat.zero_le _) (Nat.zero_le _) hS (fun H locs hsm hS => ?_)
        have hP := hsm.P hP
        refine lv_istore (lv' := [(4, .int (x_wt f4 (nI i) wN)), (1, .int ((x_lg f4 wN i).1)), (2, .int ((x_lg f4 wN i).2)), (3, .int (nI i)), (0, .ref (ad 0))]) hx hb dX0_longestThread_19 hl (by decide) rfl (fun ls hl => ?_)
        refine lv_iload hx hb dX0_longestThread_21 (lv_at hl 0 rfl) ?_
        refine lv_iload_n hx hb dX0_longestThread_23 rfl (lv_at hl 2 rfl) ?_
        refine lv_icmp_le (tgt := 32) hx hb dX0_longestThread_24 (by decide) (fun c_24 => ?_) (fun c_24 => ?_)
        · refine lv_iinc (v := ((nI i) + 1)) (lv' := [(3, .int ((nI i) + 1)), (4, .int (x_wt f4 (nI i) wN)), (1, .int ((x_lg f4 wN i).1)), (2, .int ((x_lg f4 wN i).2)), (0, .ref (ad 0))]) hx hb dX0_longestThread_32 hl (k := 3) rfl (by rfl) (by decide) rfl (fun ls hl => ?_)
          refine lv_goto (tgt := 6) hx hb dX0_longestThread_35 (by decide) ?_
          have e_1 : ((x_lg f4 wN i).1 : Int32) = (x_lg f4 wN (i + 1)).1 := (by rw [x_lg_s, if_neg (Int32.not_lt.mpr c_24)])
          have e_2 : ((x_lg f4 wN i).2 : Int32) = (x_lg f4 wN (i + 1)).2 := (by rw [x_lg_s, if_neg (Int32.not_lt.mpr c_24)])
          have e_3 : (((nI i) + 1) : Int32) = (nI (i + 1)) := nI_1 i
          exact ih (i + 1) (by omega) (by omega) H locs ls hP hS (lv_eq (lv_sub (l' := [(1, .int ((x_lg f4 wN i).1)), (2, .int ((x_lg f4 wN i).2)), (3, .int ((nI i) + 1)), (0, .ref (ad 0))]) hl [2, 3, 0, 4] rfl) (by rw [e_1, e_2, e_3]))
        · refine lv_iload hx hb dX0_longestThread_27 (lv_at hl 0 rfl) ?_
          refine lv_istore_n (lv' := [(2, .int (x_wt f4 (nI i) wN)), (4, .int (x_wt f4 (nI i) wN)), (1, .int ((x_lg f4 wN i).1)), (3, .int (nI i)), (0, .ref (ad 0))]) hx hb dX0_longestThread_29 rfl hl (by decide) rfl (fun ls hl => ?_)
          refine lv_iload_n hx hb dX0_longestThread_30 rfl (lv_at hl 3 rfl) ?_
          refine lv_istore_n (lv' := [(1, .int (nI i)), (2, .int (x_wt f4 (nI i) wN)), (4, .int (x_wt f4 (nI i) wN)), (3, .int (nI i)), (0, .ref (ad 0))]) hx hb dX0_longestThread_31 rfl hl (by decide) rfl (fun ls hl => ?_)
          refine lv_iinc (v := ((nI i) + 1)) (lv' := [(3, .int ((nI i) + 1)), (1, .int (nI i)), (2, .int (x_wt f4 (nI i) wN)), (4, .int (x_wt f4 (nI i) wN)), (0, .ref (ad 0))]) hx hb dX0_longestThread_32 hl (k := 3) rfl (by rfl) (by decide) rfl (fun ls hl => ?_)
          refine lv_goto (tgt := 6) hx hb dX0_longestThread_35 (by decide) ?_
          have e_1 : ((nI i) : Int32) = (x_lg f4 wN (i + 1)).1 := (by rw [x_lg_s, if_pos (Int32.not_le.mp c_24)])
          have e_2 : ((x_wt f4 (nI i) wN) : Int32) = (x_lg f4 wN (i + 1)).2 := (by rw [x_lg_s, if_pos (Int32.not_le.mp c_24)])
          have e_3 : (((nI i) + 1) : Int32) = (nI (i + 1)) := nI_1 i
          exact ih (i + 1) (by omega) (by omega) H locs ls hP hS (lv_eq (lv_sub (l' := [(1, .int (nI i)), (2, .int (x_wt f4 (nI i) wN)), (3, .int ((nI i) + 1)), (0, .ref (ad 0))]) hl [1, 2, 0, 4] rfl) (by rw [e_2, e_3, e_1]))
  exact lo_6 (tN + 1) 0 (by omega) (by omega) H locs ls hP hS (lv_sub hl [2, 1, 0, 3] rfl)
