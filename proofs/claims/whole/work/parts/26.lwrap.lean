/-! own rows, written by wip/whole/lwrap.py: the 24 wrappers of the law, with an answer and with each exception -/
theorem kq_L_say : yL_say.cls ≠ "java/lang/invoke/MethodHandle" ∧ yL_say.cls ≠ "java/lang/invoke/VarHandle" ∧ (parseMethodDescriptor yL_say.desc).map (fun d => d.parameters.length) = some 4 := by decide +kernel
set_option maxHeartbeats 4000000 in
set_option maxRecDepth 100000 in
theorem c_L_say (l : Launch) (D : va_G) (cI cJ : ClassId) (ad : Nat → Nat) (o : Nat) (N : Nat) (w : Int32) (t : Int32) (pa pe : Int32) (f0 f1 f2 f3 f4 : Nat → Int32) (x1 : Int32) (x2 : Int32) (h1a : ¬ x1 < 0) (h1b : x1 < 6) (h2a : ¬ x2 < 0) (h2b : x2 < 10) (h3a : (nI N) < 24) (hN : N < 24) (fo : Nat → Int64) : m_I l yL_say wsL_say ({ frames := 7, cells := 0, slots := 0, locals := 151 } : Room) D [(cI, .int), (cJ, .long)] (lw cI cJ ad o (nI N) w t pa pe f0 f1 f2 f3 f4 fo) [.ref (ad 0), .int x1, .int x2, .ref o] 0 (lw cI cJ ad o (nI (N + 1)) (nI (x_wn (wr f1 (nI N) x2) (N + 1))) (nI (x_tcn (wr f0 (nI N) x1) (wr f1 (nI N) x2) (wr f2 (nI N) 0) (x_wp (wr f1 (nI N) x2) f3 (N + 1)) (x_wn (wr f1 (nI N) x2) (N + 1)))) pa pe (wr f0 (nI N) x1) (wr f1 (nI N) x2) (wr f2 (nI N) 0) (x_wp (wr f1 (nI N) x2) f3 (N + 1)) (x_wh (wr f0 (nI N) x1) (wr f1 (nI N) x2) (wr f2 (nI N) 0) (x_wp (wr f1 (nI N) x2) f3 (N + 1)) f4 (x_wn (wr f1 (nI N) x2) (N + 1))) (vp_updL fo 0 (((nI N)).toInt64))) := by
  refine l_startI (cc := cL_say) (maxL := 5) (hh := [(0, 10, 13, 13), (0, 10, 17, 15), (0, 10, 21, 17)]) (by decide) rfl (Nat.le_of_ble_eq_true rfl) ?_
  intro p e s m below meth c A hx hb hml hr hts hown hlocks hK hA H locs ls hP hD hS hl
  have hl : lv_has ls 5 [(0, .ref (ad 0)), (1, .int x1), (2, .int x2), (3, .ref o)] := hl
  refine lv_aload_n hx hb dL_say_0 rfl (lv_at hl 3 rfl) ?_
  refine lv_iconst (v := 0) hx hb dL_say_1 (by decide) ?_
  refine lv_aload_n hx hb dL_say_2 rfl (lv_at hl 0 rfl) ?_
  refine lv_iload_n hx hb dL_say_3 rfl (lv_at hl 1 rfl) ?_
  refine lv_iload_n hx hb dL_say_4 rfl (lv_at hl 2 rfl) ?_
  refine m_callVI (As := [.int x1, .int x2]) (rest := [.int 0, .ref o]) (Wr := [(o, .inl (cJ, 1, .inr (.inl fo)))]) (W2 := (lw cI cJ ad o (nI (N + 1)) (nI (x_wn (wr f1 (nI N) x2) (N + 1))) (nI (x_tcn (wr f0 (nI N) x1) (wr f1 (nI N) x2) (wr f2 (nI N) 0) (x_wp (wr f1 (nI N) x2) f3 (N + 1)) (x_wn (wr f1 (nI N) x2) (N + 1)))) pa pe (wr f0 (nI N) x1) (wr f1 (nI N) x2) (wr f2 (nI N) 0) (x_wp (wr f1 (nI N) x2) f3 (N + 1)) (x_wh (wr f0 (nI N) x1) (wr f1 (nI N) x2) (wr f2 (nI N) 0) (x_wp (wr f1 (nI N) x2) f3 (N + 1)) f4 (x_wn (wr f1 (nI N) x2) (N + 1))) fo)) ⟨hx, hb, hml, hown, hts⟩ (c_X0_say l D cI ad N w t pa pe f0 f1 f2 f3 f4 x1 x2 h1a h1b h2a h2b h3a hN) (cwV 2 hts gL_say_X0_say rfl rfl rfl kv_X0_say ⟨Nat.le_of_ble_eq_true rfl, Nat.le_of_ble_eq_true rfl⟩) (va_recv hK hP (ci := 0) (q0 := 0) rfl rfl) hP hD (hK.sub [0] rfl) hA [0, 1, 2, 3, 4, 5] [6] [1, 2, 3, 4, 5, 6, 0] rfl rfl rfl rfl rfl (by decide) rfl rfl rfl hl.1 rfl (Nat.le_of_ble_eq_true rfl) dL_say_5 (Nat.zero_le _) (Nat.zero_le _) hS (fun H locs hP hS => ?_)
  have hD : va_D A (lw cI cJ ad o (nI (N + 1)) (nI (x_wn (wr f1 (nI N) x2) (N + 1))) (nI (x_tcn (wr f0 (nI N) x1) (wr f1 (nI N) x2) (wr f2 (nI N) 0) (x_wp (wr f1 (nI N) x2) f3 (N + 1)) (x_wn (wr f1 (nI N) x2) (N + 1)))) pa pe (wr f0 (nI N) x1) (wr f1 (nI N) x2) (wr f2 (nI N) 0) (x_wp (wr f1 (nI N) x2) f3 (N + 1)) (x_wh (wr f0 (nI N) x1) (wr f1 (nI N) x2) (wr f2 (nI N) 0) (x_wp (wr f1 (nI N) x2) f3 (N + 1)) f4 (x_wn (wr f1 (nI N) x2) (N + 1))) fo) := q_Dc (L := [ad 0, ad 1, ad 2, ad 3, ad 4, ad 5, o]) hD rfl rfl
  refine lv_i2l (v := ((nI N)).toInt64) hx hb dL_say_8 rfl ?_
  refine va_last hx hb hK hP hD hS 6 1 rfl rfl (vp_in_nI (n := 0) (by decide) (by decide)) dL_say_9 (fun H locs hP hD hS => ?_)
  have hP : va_P D vwCl (lw cI cJ ad o (nI (N + 1)) (nI (x_wn (wr f1 (nI N) x2) (N + 1))) (nI (x_tcn (wr f0 (nI N) x1) (wr f1 (nI N) x2) (wr f2 (nI N) 0) (x_wp (wr f1 (nI N) x2) f3 (N + 1)) (x_wn (wr f1 (nI N) x2) (N + 1)))) pa pe (wr f0 (nI N) x1) (wr f1 (nI N) x2) (wr f2 (nI N) 0) (x_wp (wr f1 (nI N) x2) f3 (N + 1)) (x_wh (wr f0 (nI N) x1) (wr f1 (nI N) x2) (wr f2 (nI N) 0) (x_wp (wr f1 (nI N) x2) f3 (N + 1)) f4 (x_wn (wr f1 (nI N) x2) (N + 1))) (vp_updL fo 0 (((nI N)).toInt64))) H := hP
  refine lv_goto (tgt := 25) hx hb dL_say_10 (by decide) ?_
  refine lv_iconst (v := 0) hx hb dL_say_25 (by decide) ?_
  exact m_retI hx hb hr hlocks hS hP rfl dL_say_26

set_option maxHeartbeats 4000000 in
set_option maxRecDepth 100000 in
theorem t_L_say_1 (l : Launch) (D : va_G) (sa : Nat → Nat) (hst : l.stackTraces = false) (cI cJ : ClassId) (ad : Nat → Nat) (o : Nat) (N : Nat) (w : Int32) (t : Int32) (pa pe : Int32) (f0 f1 f2 f3 f4 : Nat → Int32) (x1 : Int32) (x2 : Int32) (hb1 : x1 < 0 ∨ ¬ x1 < 6) (fo : Nat → Int64) : l_X l yL_say wsL_say ({ frames := 8, cells := 1, slots := 6, locals := 132 } : Room) D [(cI, .int), (cJ, .long)] (lw cI cJ ad o (nI N) w t pa pe f0 f1 f2 f3 f4 fo) [.ref (ad 0), .int x1, .int x2, .ref o] sa 1 := by
  refine l_startX (cc := cL_say) (maxL := 5) (hh := [(0, 10, 13, 13), (0, 10, 17, 15), (0, 10, 21, 17)]) (by decide) rfl (Nat.le_of_ble_eq_true rfl) ?_
  intro p e s m below meth c hx hb hml hr hts hown hlocks hTab hK hZ hNN H locs ls hP hS hl
  have hl : lv_has ls 5 [(0, .ref (ad 0)), (1, .int x1), (2, .int x2), (3, .ref o)] := hl
  refine lv_aload_n hx hb dL_say_0 rfl (lv_at hl 3 rfl) ?_
  refine lv_iconst (v := 0) hx hb dL_say_1 (by decide) ?_
  refine lv_aload_n hx hb dL_say_2 rfl (lv_at hl 0 rfl) ?_
  refine lv_iload_n hx hb dL_say_3 rfl (lv_at hl 1 rfl) ?_
  refine lv_iload_n hx hb dL_say_4 rfl (lv_at hl 2 rfl) ?_
  refine l_callX (As := [.int x1, .int x2]) (rest := [.int 0, .ref o]) (E := t_IO) ⟨hx, hb, hml, hown, hts⟩ (t_X0_say_1 l D sa hst cI ad N w t pa pe f0 f1 f2 f3 f4 x1 x2 hb1) (cwV 2 hts gL_say_X0_say rfl rfl rfl kv_X0_say ⟨Nat.le_of_ble_eq_true rfl, Nat.le_of_ble_eq_true rfl⟩) (va_recv hK hP (ci := 0) (q0 := 0) rfl rfl) (hP.sub [0, 1, 2, 3, 4, 5] rfl) (hK.sub [0] rfl) hZ rfl hl.1 rfl (Nat.le_of_ble_eq_true rfl) dL_say_5 (Nat.le_of_ble_eq_true rfl) (Nat.le_of_ble_eq_true rfl) hS [] ⟨0, 10, 13, 13⟩ [⟨0, 10, 17, 15⟩, ⟨0, 10, 21, 17⟩] (by rw [hTab]; rfl) (fun _ h => nomatch h) (by decide) (by decide) (hts (.classLink RL 13 t_IO) (by decide +kernel)) (Or.inl rfl) (fun q9 H locs hS => ?_)
  refine lv_astore (lv' := [(4, .ref q9), (0, .ref (ad 0)), (1, .int x1), (2, .int x2), (3, .ref o)]) hx hb dL_say_13 hl (by decide) rfl (fun ls hl => ?_)
  refine lv_iconst (v := 1) hx hb dL_say_15 (by decide) ?_
  exact l_retX hx hb hr hlocks hS rfl dL_say_16

set_option maxHeartbeats 4000000 in
set_option maxRecDepth 100000 in
theorem t_L_say_2 (l : Launch) (D : va_G) (sa : Nat → Nat) (hst : l.stackTraces = false) (cI cJ : ClassId) (ad : Nat → Nat) (o : Nat) (N : Nat) (w : Int32) (t : Int32) (pa pe : Int32) (f0 f1 f2 f3 f4 : Nat → Int32) (x1 : Int32) (x2 : Int32) (h1a : ¬ x1 < 0) (h1b : x1 < 6) (hb2 : x2 < 0 ∨ ¬ x2 < 10) (fo : Nat → Int64) : l_X l yL_say wsL_say ({ frames := 8, cells := 1, slots := 6, locals := 132 } : Room) D [(cI, .int), (cJ, .long)] (lw cI cJ ad o (nI N) w t pa pe f0 f1 f2 f3 f4 fo) [.ref (ad 0), .int x1, .int x2, .ref o] sa 2 := by
  refine l_startX (cc := cL_say) (maxL := 5) (hh := [(0, 10, 13, 13), (0, 10, 17, 15), (0, 10, 21, 17)]) (by decide) rfl (Nat.le_of_ble_eq_true rfl) ?_
  intro p e s m below meth c hx hb hml hr hts hown hlocks hTab hK hZ hNN H locs ls hP hS hl
  have hl : lv_has ls 5 [(0, .ref (ad 0)), (1, .int x1), (2, .int x2), (3, .ref o)] := hl
  refine lv_aload_n hx hb dL_say_0 rfl (lv_at hl 3 rfl) ?_
  refine lv_iconst (v := 0) hx hb dL_say_1 (by decide) ?_
  refine lv_aload_n hx hb dL_say_2 rfl (lv_at hl 0 rfl) ?_
  refine lv_iload_n hx hb dL_say_3 rfl (lv_at hl 1 rfl) ?_
  refine lv_iload_n hx hb dL_say_4 rfl (lv_at hl 2 rfl) ?_
  refine l_callX (As := [.int x1, .int x2]) (rest := [.int 0, .ref o]) (E := t_IA) ⟨hx, hb, hml, hown, hts⟩ (t_X0_say_2 l D sa hst cI ad N w t pa pe f0 f1 f2 f3 f4 x1 x2 h1a h1b hb2) (cwV 2 hts gL_say_X0_say rfl rfl rfl kv_X0_say ⟨Nat.le_of_ble_eq_true rfl, Nat.le_of_ble_eq_true rfl⟩) (va_recv hK hP (ci := 0) (q0 := 0) rfl rfl) (hP.sub [0, 1, 2, 3, 4, 5] rfl) (hK.sub [0] rfl) hZ rfl hl.1 rfl (Nat.le_of_ble_eq_true rfl) dL_say_5 (Nat.le_of_ble_eq_true rfl) (Nat.le_of_ble_eq_true rfl) hS [⟨0, 10, 13, 13⟩] ⟨0, 10, 17, 15⟩ [⟨0, 10, 21, 17⟩] (by rw [hTab]; rfl) (List.forall_mem_cons.mpr ⟨Or.inr ⟨by decide, t_IO, hts (.classLink RL 13 t_IO) (by decide +kernel), hNN.1⟩, (fun _ h => nomatch h)⟩) (by decide) (by decide) (hts (.classLink RL 15 t_IA) (by decide +kernel)) (Or.inr (Or.inl rfl)) (fun q9 H locs hS => ?_)
  refine lv_astore (lv' := [(4, .ref q9), (0, .ref (ad 0)), (1, .int x1), (2, .int x2), (3, .ref o)]) hx hb dL_say_17 hl (by decide) rfl (fun ls hl => ?_)
  refine lv_iconst (v := 2) hx hb dL_say_19 (by decide) ?_
  exact l_retX hx hb hr hlocks hS rfl dL_say_20

set_option maxHeartbeats 4000000 in
set_option maxRecDepth 100000 in
theorem t_L_say_3 (l : Launch) (D : va_G) (sa : Nat → Nat) (hst : l.stackTraces = false) (cI cJ : ClassId) (ad : Nat → Nat) (o : Nat) (N : Nat) (w : Int32) (t : Int32) (pa pe : Int32) (f0 f1 f2 f3 f4 : Nat → Int32) (x1 : Int32) (x2 : Int32) (h1a : ¬ x1 < 0) (h1b : x1 < 6) (h2a : ¬ x2 < 0) (h2b : x2 < 10) (hb3 : ¬ (nI N) < 24) (fo : Nat → Int64) : l_X l yL_say wsL_say ({ frames := 8, cells := 1, slots := 6, locals := 132 } : Room) D [(cI, .int), (cJ, .long)] (lw cI cJ ad o (nI N) w t pa pe f0 f1 f2 f3 f4 fo) [.ref (ad 0), .int x1, .int x2, .ref o] sa 3 := by
  refine l_startX (cc := cL_say) (maxL := 5) (hh := [(0, 10, 13, 13), (0, 10, 17, 15), (0, 10, 21, 17)]) (by decide) rfl (Nat.le_of_ble_eq_true rfl) ?_
  intro p e s m below meth c hx hb hml hr hts hown hlocks hTab hK hZ hNN H locs ls hP hS hl
  have hl : lv_has ls 5 [(0, .ref (ad 0)), (1, .int x1), (2, .int x2), (3, .ref o)] := hl
  refine lv_aload_n hx hb dL_say_0 rfl (lv_at hl 3 rfl) ?_
  refine lv_iconst (v := 0) hx hb dL_say_1 (by decide) ?_
  refine lv_aload_n hx hb dL_say_2 rfl (lv_at hl 0 rfl) ?_
  refine lv_iload_n hx hb dL_say_3 rfl (lv_at hl 1 rfl) ?_
  refine lv_iload_n hx hb dL_say_4 rfl (lv_at hl 2 rfl) ?_
  refine l_callX (As := [.int x1, .int x2]) (rest := [.int 0, .ref o]) (E := t_IS) ⟨hx, hb, hml, hown, hts⟩ (t_X0_say_3 l D sa hst cI ad N w t pa pe f0 f1 f2 f3 f4 x1 x2 h1a h1b h2a h2b hb3) (cwV 2 hts gL_say_X0_say rfl rfl rfl kv_X0_say ⟨Nat.le_of_ble_eq_true rfl, Nat.le_of_ble_eq_true rfl⟩) (va_recv hK hP (ci := 0) (q0 := 0) rfl rfl) (hP.sub [0, 1, 2, 3, 4, 5] rfl) (hK.sub [0] rfl) hZ rfl hl.1 rfl (Nat.le_of_ble_eq_true rfl) dL_say_5 (Nat.le_of_ble_eq_true rfl) (Nat.le_of_ble_eq_true rfl) hS [⟨0, 10, 13, 13⟩, ⟨0, 10, 17, 15⟩] ⟨0, 10, 21, 17⟩ [] (by rw [hTab]; rfl) (List.forall_mem_cons.mpr ⟨Or.inr ⟨by decide, t_IO, hts (.classLink RL 13 t_IO) (by decide +kernel), hNN.2.1⟩, (List.forall_mem_cons.mpr ⟨Or.inr ⟨by decide, t_IA, hts (.classLink RL 15 t_IA) (by decide +kernel), hNN.2.2⟩, (fun _ h => nomatch h)⟩)⟩) (by decide) (by decide) (hts (.classLink RL 17 t_IS) (by decide +kernel)) (Or.inr (Or.inr rfl)) (fun q9 H locs hS => ?_)
  refine lv_astore (lv' := [(4, .ref q9), (0, .ref (ad 0)), (1, .int x1), (2, .int x2), (3, .ref o)]) hx hb dL_say_21 hl (by decide) rfl (fun ls hl => ?_)
  refine lv_iconst (v := 3) hx hb dL_say_23 (by decide) ?_
  exact l_retX hx hb hr hlocks hS rfl dL_say_24

theorem kq_L_cough : yL_cough.cls ≠ "java/lang/invoke/MethodHandle" ∧ yL_cough.cls ≠ "java/lang/invoke/VarHandle" ∧ (parseMethodDescriptor yL_cough.desc).map (fun d => d.parameters.length) = some 3 := by decide +kernel
set_option maxHeartbeats 4000000 in
set_option maxRecDepth 100000 in
theorem c_L_cough (l : Launch) (D : va_G) (cI cJ : ClassId) (ad : Nat → Nat) (o : Nat) (N : Nat) (w : Int32) (t : Int32) (pa pe : Int32) (f0 f1 f2 f3 f4 : Nat → Int32) (x1 : Int32) (h1a : ¬ x1 < 0) (h1b : x1 < 6) (h2a : (nI N) < 24) (hN : N < 24) (fo : Nat → Int64) : m_I l yL_cough wsL_cough ({ frames := 7, cells := 0, slots := 0, locals := 150 } : Room) D [(cI, .int), (cJ, .long)] (lw cI cJ ad o (nI N) w t pa pe f0 f1 f2 f3 f4 fo) [.ref (ad 0), .int x1, .ref o] 0 (lw cI cJ ad o (nI (N + 1)) (nI (x_wn (wr f1 (nI N) (-1)) (N + 1))) (nI (x_tcn (wr f0 (nI N) x1) (wr f1 (nI N) (-1)) (wr f2 (nI N) 0) (x_wp (wr f1 (nI N) (-1)) f3 (N + 1)) (x_wn (wr f1 (nI N) (-1)) (N + 1)))) pa pe (wr f0 (nI N) x1) (wr f1 (nI N) (-1)) (wr f2 (nI N) 0) (x_wp (wr f1 (nI N) (-1)) f3 (N + 1)) (x_wh (wr f0 (nI N) x1) (wr f1 (nI N) (-1)) (wr f2 (nI N) 0) (x_wp (wr f1 (nI N) (-1)) f3 (N + 1)) f4 (x_wn (wr f1 (nI N) (-1)) (N + 1))) (vp_updL fo 0 (((nI N)).toInt64))) := by
  refine l_startI (cc := cL_cough) (maxL := 4) (hh := [(0, 9, 12, 13), (0, 9, 15, 17)]) (by decide) rfl (Nat.le_of_ble_eq_true rfl) ?_
  intro p e s m below meth c A hx hb hml hr hts hown hlocks hK hA H locs ls hP hD hS hl
  have hl : lv_has ls 4 [(0, .ref (ad 0)), (1, .int x1), (2, .ref o)] := hl
  refine lv_aload_n hx hb dL_cough_0 rfl (lv_at hl 2 rfl) ?_
  refine lv_iconst (v := 0) hx hb dL_cough_1 (by decide) ?_
  refine lv_aload_n hx hb dL_cough_2 rfl (lv_at hl 0 rfl) ?_
  refine lv_iload_n hx hb dL_cough_3 rfl (lv_at hl 1 rfl) ?_
  refine m_callVI (As := [.int x1]) (rest := [.int 0, .ref o]) (Wr := [(o, .inl (cJ, 1, .inr (.inl fo)))]) (W2 := (lw cI cJ ad o (nI (N + 1)) (nI (x_wn (wr f1 (nI N) (-1)) (N + 1))) (nI (x_tcn (wr f0 (nI N) x1) (wr f1 (nI N) (-1)) (wr f2 (nI N) 0) (x_wp (wr f1 (nI N) (-1)) f3 (N + 1)) (x_wn (wr f1 (nI N) (-1)) (N + 1)))) pa pe (wr f0 (nI N) x1) (wr f1 (nI N) (-1)) (wr f2 (nI N) 0) (x_wp (wr f1 (nI N) (-1)) f3 (N + 1)) (x_wh (wr f0 (nI N) x1) (wr f1 (nI N) (-1)) (wr f2 (nI N) 0) (x_wp (wr f1 (nI N) (-1)) f3 (N + 1)) f4 (x_wn (wr f1 (nI N) (-1)) (N + 1))) fo)) ⟨hx, hb, hml, hown, hts⟩ (c_X0_cough l D cI ad N w t pa pe f0 f1 f2 f3 f4 x1 h1a h1b h2a hN) (cwV 1 hts gL_cough_X0_cough rfl rfl rfl kv_X0_cough ⟨Nat.le_of_ble_eq_true rfl, Nat.le_of_ble_eq_true rfl⟩) (va_recv hK hP (ci := 0) (q0 := 0) rfl rfl) hP hD (hK.sub [0] rfl) hA [0, 1, 2, 3, 4, 5] [6] [1, 2, 3, 4, 5, 6, 0] rfl rfl rfl rfl rfl (by decide) rfl rfl rfl hl.1 rfl (Nat.le_of_ble_eq_true rfl) dL_cough_4 (Nat.zero_le _) (Nat.zero_le _) hS (fun H locs hP hS => ?_)
  have hD : va_D A (lw cI cJ ad o (nI (N + 1)) (nI (x_wn (wr f1 (nI N) (-1)) (N + 1))) (nI (x_tcn (wr f0 (nI N) x1) (wr f1 (nI N) (-1)) (wr f2 (nI N) 0) (x_wp (wr f1 (nI N) (-1)) f3 (N + 1)) (x_wn (wr f1 (nI N) (-1)) (N + 1)))) pa pe (wr f0 (nI N) x1) (wr f1 (nI N) (-1)) (wr f2 (nI N) 0) (x_wp (wr f1 (nI N) (-1)) f3 (N + 1)) (x_wh (wr f0 (nI N) x1) (wr f1 (nI N) (-1)) (wr f2 (nI N) 0) (x_wp (wr f1 (nI N) (-1)) f3 (N + 1)) f4 (x_wn (wr f1 (nI N) (-1)) (N + 1))) fo) := q_Dc (L := [ad 0, ad 1, ad 2, ad 3, ad 4, ad 5, o]) hD rfl rfl
  refine lv_i2l (v := ((nI N)).toInt64) hx hb dL_cough_7 rfl ?_
  refine va_last hx hb hK hP hD hS 6 1 rfl rfl (vp_in_nI (n := 0) (by decide) (by decide)) dL_cough_8 (fun H locs hP hD hS => ?_)
  have hP : va_P D vwCl (lw cI cJ ad o (nI (N + 1)) (nI (x_wn (wr f1 (nI N) (-1)) (N + 1))) (nI (x_tcn (wr f0 (nI N) x1) (wr f1 (nI N) (-1)) (wr f2 (nI N) 0) (x_wp (wr f1 (nI N) (-1)) f3 (N + 1)) (x_wn (wr f1 (nI N) (-1)) (N + 1)))) pa pe (wr f0 (nI N) x1) (wr f1 (nI N) (-1)) (wr f2 (nI N) 0) (x_wp (wr f1 (nI N) (-1)) f3 (N + 1)) (x_wh (wr f0 (nI N) x1) (wr f1 (nI N) (-1)) (wr f2 (nI N) 0) (x_wp (wr f1 (nI N) (-1)) f3 (N + 1)) f4 (x_wn (wr f1 (nI N) (-1)) (N + 1))) (vp_updL fo 0 (((nI N)).toInt64))) H := hP
  refine lv_goto (tgt := 18) hx hb dL_cough_9 (by decide) ?_
  refine lv_iconst (v := 0) hx hb dL_cough_18 (by decide) ?_
  exact m_retI hx hb hr hlocks hS hP rfl dL_cough_19

set_option maxHeartbeats 4000000 in
set_option maxRecDepth 100000 in
theorem t_L_cough_1 (l : Launch) (D : va_G) (sa : Nat → Nat) (hst : l.stackTraces = false) (cI cJ : ClassId) (ad : Nat → Nat) (o : Nat) (N : Nat) (w : Int32) (t : Int32) (pa pe : Int32) (f0 f1 f2 f3 f4 : Nat → Int32) (x1 : Int32) (hb1 : x1 < 0 ∨ ¬ x1 < 6) (fo : Nat → Int64) : l_X l yL_cough wsL_cough ({ frames := 8, cells := 1, slots := 6, locals := 131 } : Room) D [(cI, .int), (cJ, .long)] (lw cI cJ ad o (nI N) w t pa pe f0 f1 f2 f3 f4 fo) [.ref (ad 0), .int x1, .ref o] sa 1 := by
  refine l_startX (cc := cL_cough) (maxL := 4) (hh := [(0, 9, 12, 13), (0, 9, 15, 17)]) (by decide) rfl (Nat.le_of_ble_eq_true rfl) ?_
  intro p e s m below meth c hx hb hml hr hts hown hlocks hTab hK hZ hNN H locs ls hP hS hl
  have hl : lv_has ls 4 [(0, .ref (ad 0)), (1, .int x1), (2, .ref o)] := hl
  refine lv_aload_n hx hb dL_cough_0 rfl (lv_at hl 2 rfl) ?_
  refine lv_iconst (v := 0) hx hb dL_cough_1 (by decide) ?_
  refine lv_aload_n hx hb dL_cough_2 rfl (lv_at hl 0 rfl) ?_
  refine lv_iload_n hx hb dL_cough_3 rfl (lv_at hl 1 rfl) ?_
  refine l_callX (As := [.int x1]) (rest := [.int 0, .ref o]) (E := t_IO) ⟨hx, hb, hml, hown, hts⟩ (t_X0_cough_1 l D sa hst cI ad N w t pa pe f0 f1 f2 f3 f4 x1 hb1) (cwV 1 hts gL_cough_X0_cough rfl rfl rfl kv_X0_cough ⟨Nat.le_of_ble_eq_true rfl, Nat.le_of_ble_eq_true rfl⟩) (va_recv hK hP (ci := 0) (q0 := 0) rfl rfl) (hP.sub [0, 1, 2, 3, 4, 5] rfl) (hK.sub [0] rfl) hZ rfl hl.1 rfl (Nat.le_of_ble_eq_true rfl) dL_cough_4 (Nat.le_of_ble_eq_true rfl) (Nat.le_of_ble_eq_true rfl) hS [] ⟨0, 9, 12, 13⟩ [⟨0, 9, 15, 17⟩] (by rw [hTab]; rfl) (fun _ h => nomatch h) (by decide) (by decide) (hts (.classLink RL 13 t_IO) (by decide +kernel)) (Or.inl rfl) (fun q9 H locs hS => ?_)
  refine lv_astore_n (lv' := [(3, .ref q9), (0, .ref (ad 0)), (1, .int x1), (2, .ref o)]) hx hb dL_cough_12 rfl hl (by decide) rfl (fun ls hl => ?_)
  refine lv_iconst (v := 1) hx hb dL_cough_13 (by decide) ?_
  exact l_retX hx hb hr hlocks hS rfl dL_cough_14

set_option maxHeartbeats 4000000 in
set_option maxRecDepth 100000 in
theorem t_L_cough_2 (l : Launch) (D : va_G) (sa : Nat → Nat) (hst : l.stackTraces = false) (cI cJ : ClassId) (ad : Nat → Nat) (o : Nat) (N : Nat) (w : Int32) (t : Int32) (pa pe : Int32) (f0 f1 f2 f3 f4 : Nat → Int32) (x1 : Int32) (h1a : ¬ x1 < 0) (h1b : x1 < 6) (hb2 : ¬ (nI N) < 24) (fo : Nat → Int64) : l_X l yL_cough wsL_cough ({ frames := 8, cells := 1, slots := 6, locals := 131 } : Room) D [(cI, .int), (cJ, .long)] (lw cI cJ ad o (nI N) w t pa pe f0 f1 f2 f3 f4 fo) [.ref (ad 0), .int x1, .ref o] sa 2 := by
  refine l_startX (cc := cL_cough) (maxL := 4) (hh := [(0, 9, 12, 13), (0, 9, 15, 17)]) (by decide) rfl (Nat.le_of_ble_eq_true rfl) ?_
  intro p e s m below meth c hx hb hml hr hts hown hlocks hTab hK hZ hNN H locs ls hP hS hl
  have hl : lv_has ls 4 [(0, .ref (ad 0)), (1, .int x1), (2, .ref o)] := hl
  refine lv_aload_n hx hb dL_cough_0 rfl (lv_at hl 2 rfl) ?_
  refine lv_iconst (v := 0) hx hb dL_cough_1 (by decide) ?_
  refine lv_aload_n hx hb dL_cough_2 rfl (lv_at hl 0 rfl) ?_
  refine lv_iload_n hx hb dL_cough_3 rfl (lv_at hl 1 rfl) ?_
  refine l_callX (As := [.int x1]) (rest := [.int 0, .ref o]) (E := t_IS) ⟨hx, hb, hml, hown, hts⟩ (t_X0_cough_2 l D sa hst cI ad N w t pa pe f0 f1 f2 f3 f4 x1 h1a h1b hb2) (cwV 1 hts gL_cough_X0_cough rfl rfl rfl kv_X0_cough ⟨Nat.le_of_ble_eq_true rfl, Nat.le_of_ble_eq_true rfl⟩) (va_recv hK hP (ci := 0) (q0 := 0) rfl rfl) (hP.sub [0, 1, 2, 3, 4, 5] rfl) (hK.sub [0] rfl) hZ rfl hl.1 rfl (Nat.le_of_ble_eq_true rfl) dL_cough_4 (Nat.le_of_ble_eq_true rfl) (Nat.le_of_ble_eq_true rfl) hS [⟨0, 9, 12, 13⟩] ⟨0, 9, 15, 17⟩ [] (by rw [hTab]; rfl) (List.forall_mem_cons.mpr ⟨Or.inr ⟨by decide, t_IO, hts (.classLink RL 13 t_IO) (by decide +kernel), hNN.2.1⟩, (fun _ h => nomatch h)⟩) (by decide) (by decide) (hts (.classLink RL 17 t_IS) (by decide +kernel)) (Or.inr (Or.inr rfl)) (fun q9 H locs hS => ?_)
  refine lv_astore_n (lv' := [(3, .ref q9), (0, .ref (ad 0)), (1, .int x1), (2, .ref o)]) hx hb dL_cough_15 rfl hl (by decide) rfl (fun ls hl => ?_)
  refine lv_iconst (v := 2) hx hb dL_cough_16 (by decide) ?_
  exact l_retX hx hb hr hlocks hS rfl dL_cough_17

theorem kq_L_removeCough : yL_removeCough.cls ≠ "java/lang/invoke/MethodHandle" ∧ yL_removeCough.cls ≠ "java/lang/invoke/VarHandle" ∧ (parseMethodDescriptor yL_removeCough.desc).map (fun d => d.parameters.length) = some 3 := by decide +kernel
set_option maxHeartbeats 4000000 in
set_option maxRecDepth 100000 in
theorem c_L_removeCough (l : Launch) (D : va_G) (cI cJ : ClassId) (ad : Nat → Nat) (o : Nat) (N : Nat) (w : Int32) (t : Int32) (pa pe : Int32) (f0 f1 f2 f3 f4 : Nat → Int32) (P : Nat) (h1a : ¬ nI P < 0) (h1b : nI P < nI N) (h2a : x_cs f1 (nI P) = true) (h3a : 1 ≤ pa) (hN : N ≤ 24) (hPN : P < N) (fo : Nat → Int64) : m_I l yL_removeCough wsL_removeCough ({ frames := 6, cells := 0, slots := 0, locals := 127 } : Room) D [(cI, .int), (cJ, .long)] (lw cI cJ ad o (nI N) w t pa pe f0 f1 f2 f3 f4 fo) [.ref (ad 0), .int (nI P), .ref o] 0 (lw cI cJ ad o (nI (N - 1)) (nI (x_wn (x_mu f1 P (N - 1 - P)) (N - 1))) (nI (x_tcn (x_mu f0 P (N - 1 - P)) (x_mu f1 P (N - 1 - P)) (x_mu f2 P (N - 1 - P)) (x_wp (x_mu f1 P (N - 1 - P)) f3 (N - 1)) (x_wn (x_mu f1 P (N - 1 - P)) (N - 1)))) (pa - 1) (pe + 1) (x_mu f0 P (N - 1 - P)) (x_mu f1 P (N - 1 - P)) (x_mu f2 P (N - 1 - P)) (x_wp (x_mu f1 P (N - 1 - P)) f3 (N - 1)) (x_wh (x_mu f0 P (N - 1 - P)) (x_mu f1 P (N - 1 - P)) (x_mu f2 P (N - 1 - P)) (x_wp (x_mu f1 P (N - 1 - P)) f3 (N - 1)) f4 (x_wn (x_mu f1 P (N - 1 - P)) (N - 1))) (vp_updL fo 0 (((nI (N - 1))).toInt64))) := by
  refine l_startI (cc := cL_removeCough) (maxL := 4) (hh := [(0, 9, 12, 13), (0, 9, 15, 17)]) (by decide) rfl (Nat.le_of_ble_eq_true rfl) ?_
  intro p e s m below meth c A hx hb hml hr hts hown hlocks hK hA H locs ls hP hD hS hl
  have hl : lv_has ls 4 [(0, .ref (ad 0)), (1, .int (nI P)), (2, .ref o)] := hl
  refine lv_aload_n hx hb dL_removeCough_0 rfl (lv_at hl 2 rfl) ?_
  refine lv_iconst (v := 0) hx hb dL_removeCough_1 (by decide) ?_
  refine lv_aload_n hx hb dL_removeCough_2 rfl (lv_at hl 0 rfl) ?_
  refine lv_iload_n hx hb dL_removeCough_3 rfl (lv_at hl 1 rfl) ?_
  refine m_callVI (As := [.int (nI P)]) (rest := [.int 0, .ref o]) (Wr := [(o, .inl (cJ, 1, .inr (.inl fo)))]) (W2 := (lw cI cJ ad o (nI (N - 1)) (nI (x_wn (x_mu f1 P (N - 1 - P)) (N - 1))) (nI (x_tcn (x_mu f0 P (N - 1 - P)) (x_mu f1 P (N - 1 - P)) (x_mu f2 P (N - 1 - P)) (x_wp (x_mu f1 P (N - 1 - P)) f3 (N - 1)) (x_wn (x_mu f1 P (N - 1 - P)) (N - 1)))) (pa - 1) (pe + 1) (x_mu f0 P (N - 1 - P)) (x_mu f1 P (N - 1 - P)) (x_mu f2 P (N - 1 - P)) (x_wp (x_mu f1 P (N - 1 - P)) f3 (N - 1)) (x_wh (x_mu f0 P (N - 1 - P)) (x_mu f1 P (N - 1 - P)) (x_mu f2 P (N - 1 - P)) (x_wp (x_mu f1 P (N - 1 - P)) f3 (N - 1)) f4 (x_wn (x_mu f1 P (N - 1 - P)) (N - 1))) fo)) ⟨hx, hb, hml, hown, hts⟩ (c_X0_removeCough l D cI ad N w t pa pe f0 f1 f2 f3 f4 P h1a h1b h2a h3a hN hPN) (cwV 1 hts gL_removeCough_X0_removeCough rfl rfl rfl kv_X0_removeCough ⟨Nat.le_of_ble_eq_true rfl, Nat.le_of_ble_eq_true rfl⟩) (va_recv hK hP (ci := 0) (q0 := 0) rfl rfl) hP hD (hK.sub [0] rfl) hA [0, 1, 2, 3, 4, 5] [6] [1, 2, 3, 4, 5, 6, 0] rfl rfl rfl rfl rfl (by decide) rfl rfl rfl hl.1 rfl (Nat.le_of_ble_eq_true rfl) dL_removeCough_4 (Nat.zero_le _) (Nat.zero_le _) hS (fun H locs hP hS => ?_)
  have hD : va_D A (lw cI cJ ad o (nI (N - 1)) (nI (x_wn (x_mu f1 P (N - 1 - P)) (N - 1))) (nI (x_tcn (x_mu f0 P (N - 1 - P)) (x_mu f1 P (N - 1 - P)) (x_mu f2 P (N - 1 - P)) (x_wp (x_mu f1 P (N - 1 - P)) f3 (N - 1)) (x_wn (x_mu f1 P (N - 1 - P)) (N - 1)))) (pa - 1) (pe + 1) (x_mu f0 P (N - 1 - P)) (x_mu f1 P (N - 1 - P)) (x_mu f2 P (N - 1 - P)) (x_wp (x_mu f1 P (N - 1 - P)) f3 (N - 1)) (x_wh (x_mu f0 P (N - 1 - P)) (x_mu f1 P (N - 1 - P)) (x_mu f2 P (N - 1 - P)) (x_wp (x_mu f1 P (N - 1 - P)) f3 (N - 1)) f4 (x_wn (x_mu f1 P (N - 1 - P)) (N - 1))) fo) := q_Dc (L := [ad 0, ad 1, ad 2, ad 3, ad 4, ad 5, o]) hD rfl rfl
  refine lv_i2l (v := ((nI (N - 1))).toInt64) hx hb dL_removeCough_7 rfl ?_
  refine va_last hx hb hK hP hD hS 6 1 rfl rfl (vp_in_nI (n := 0) (by decide) (by decide)) dL_removeCough_8 (fun H locs hP hD hS => ?_)
  have hP : va_P D vwCl (lw cI cJ ad o (nI (N - 1)) (nI (x_wn (x_mu f1 P (N - 1 - P)) (N - 1))) (nI (x_tcn (x_mu f0 P (N - 1 - P)) (x_mu f1 P (N - 1 - P)) (x_mu f2 P (N - 1 - P)) (x_wp (x_mu f1 P (N - 1 - P)) f3 (N - 1)) (x_wn (x_mu f1 P (N - 1 - P)) (N - 1)))) (pa - 1) (pe + 1) (x_mu f0 P (N - 1 - P)) (x_mu f1 P (N - 1 - P)) (x_mu f2 P (N - 1 - P)) (x_wp (x_mu f1 P (N - 1 - P)) f3 (N - 1)) (x_wh (x_mu f0 P (N - 1 - P)) (x_mu f1 P (N - 1 - P)) (x_mu f2 P (N - 1 - P)) (x_wp (x_mu f1 P (N - 1 - P)) f3 (N - 1)) f4 (x_wn (x_mu f1 P (N - 1 - P)) (N - 1))) (vp_updL fo 0 (((nI (N - 1))).toInt64))) H := hP
  refine lv_goto (tgt := 18) hx hb dL_removeCough_9 (by decide) ?_
  refine lv_iconst (v := 0) hx hb dL_removeCough_18 (by decide) ?_
  exact m_retI hx hb hr hlocks hS hP rfl dL_removeCough_19

set_option maxHeartbeats 4000000 in
set_option maxRecDepth 100000 in
theorem t_L_removeCough_1 (l : Launch) (D : va_G) (sa : Nat → Nat) (hst : l.stackTraces = false) (cI cJ : ClassId) (ad : Nat → Nat) (o : Nat) (N : Nat) (w : Int32) (t : Int32) (pa pe : Int32) (f0 f1 f2 f3 f4 : Nat → Int32) (x1 : Int32) (hb1 : x1 < 0 ∨ ¬ x1 < (nI N)) (fo : Nat → Int64) : l_X l yL_removeCough wsL_removeCough ({ frames := 8, cells := 1, slots := 6, locals := 132 } : Room) D [(cI, .int), (cJ, .long)] (lw cI cJ ad o (nI N) w t pa pe f0 f1 f2 f3 f4 fo) [.ref (ad 0), .int x1, .ref o] sa 1 := by
  refine l_startX (cc := cL_removeCough) (maxL := 4) (hh := [(0, 9, 12, 13), (0, 9, 15, 17)]) (by decide) rfl (Nat.le_of_ble_eq_true rfl) ?_
  intro p e s m below meth c hx hb hml hr hts hown hlocks hTab hK hZ hNN H locs ls hP hS hl
  have hl : lv_has ls 4 [(0, .ref (ad 0)), (1, .int x1), (2, .ref o)] := hl
  refine lv_aload_n hx hb dL_removeCough_0 rfl (lv_at hl 2 rfl) ?_
  refine lv_iconst (v := 0) hx hb dL_removeCough_1 (by decide) ?_
  refine lv_aload_n hx hb dL_removeCough_2 rfl (lv_at hl 0 rfl) ?_
  refine lv_iload_n hx hb dL_removeCough_3 rfl (lv_at hl 1 rfl) ?_
  refine l_callX (As := [.int x1]) (rest := [.int 0, .ref o]) (E := t_IO) ⟨hx, hb, hml, hown, hts⟩ (t_X0_removeCough_1 l D sa hst cI ad N w t pa pe f0 f1 f2 f3 f4 x1 hb1) (cwV 1 hts gL_removeCough_X0_removeCough rfl rfl rfl kv_X0_removeCough ⟨Nat.le_of_ble_eq_true rfl, Nat.le_of_ble_eq_true rfl⟩) (va_recv hK hP (ci := 0) (q0 := 0) rfl rfl) (hP.sub [0, 1, 2, 3, 4, 5] rfl) (hK.sub [0] rfl) hZ rfl hl.1 rfl (Nat.le_of_ble_eq_true rfl) dL_removeCough_4 (Nat.le_of_ble_eq_true rfl) (Nat.le_of_ble_eq_true rfl) hS [] ⟨0, 9, 12, 13⟩ [⟨0, 9, 15, 17⟩] (by rw [hTab]; rfl) (fun _ h => nomatch h) (by decide) (by decide) (hts (.classLink RL 13 t_IO) (by decide +kernel)) (Or.inl rfl) (fun q9 H locs hS => ?_)
  refine lv_astore_n (lv' := [(3, .ref q9), (0, .ref (ad 0)), (1, .int x1), (2, .ref o)]) hx hb dL_removeCough_12 rfl hl (by decide) rfl (fun ls hl => ?_)
  refine lv_iconst (v := 1) hx hb dL_removeCough_13 (by decide) ?_
  exact l_retX hx hb hr hlocks hS rfl dL_removeCough_14

set_option maxHeartbeats 4000000 in
set_option maxRecDepth 100000 in
theorem t_L_removeCough_2 (l : Launch) (D : va_G) (sa : Nat → Nat) (hst : l.stackTraces = false) (cI cJ : ClassId) (ad : Nat → Nat) (o : Nat) (N : Nat) (w : Int32) (t : Int32) (pa pe : Int32) (f0 f1 f2 f3 f4 : Nat → Int32) (x1 : Int32) (h1a : ¬ x1 < 0) (h1b : x1 < (nI N)) (hb2 : x_cs f1 x1 = false) (fo : Nat → Int64) : l_X l yL_removeCough wsL_removeCough ({ frames := 7, cells := 1, slots := 6, locals := 111 } : Room) D [(cI, .int), (cJ, .long)] (lw cI cJ ad o (nI N) w t pa pe f0 f1 f2 f3 f4 fo) [.ref (ad 0), .int x1, .ref o] sa 2 := by
  refine l_startX (cc := cL_removeCough) (maxL := 4) (hh := [(0, 9, 12, 13), (0, 9, 15, 17)]) (by decide) rfl (Nat.le_of_ble_eq_true rfl) ?_
  intro p e s m below meth c hx hb hml hr hts hown hlocks hTab hK hZ hNN H locs ls hP hS hl
  have hl : lv_has ls 4 [(0, .ref (ad 0)), (1, .int x1), (2, .ref o)] := hl
  refine lv_aload_n hx hb dL_removeCough_0 rfl (lv_at hl 2 rfl) ?_
  refine lv_iconst (v := 0) hx hb dL_removeCough_1 (by decide) ?_
  refine lv_aload_n hx hb dL_removeCough_2 rfl (lv_at hl 0 rfl) ?_
  refine lv_iload_n hx hb dL_removeCough_3 rfl (lv_at hl 1 rfl) ?_
  refine l_callX (As := [.int x1]) (rest := [.int 0, .ref o]) (E := t_IS) ⟨hx, hb, hml, hown, hts⟩ (t_X0_removeCough_2 l D sa hst cI ad N w t pa pe f0 f1 f2 f3 f4 x1 h1a h1b hb2) (cwV 1 hts gL_removeCough_X0_removeCough rfl rfl rfl kv_X0_removeCough ⟨Nat.le_of_ble_eq_true rfl, Nat.le_of_ble_eq_true rfl⟩) (va_recv hK hP (ci := 0) (q0 := 0) rfl rfl) (hP.sub [0, 1, 2, 3, 4, 5] rfl) (hK.sub [0] rfl) hZ rfl hl.1 rfl (Nat.le_of_ble_eq_true rfl) dL_removeCough_4 (Nat.le_of_ble_eq_true rfl) (Nat.le_of_ble_eq_true rfl) hS [⟨0, 9, 12, 13⟩] ⟨0, 9, 15, 17⟩ [] (by rw [hTab]; rfl) (List.forall_mem_cons.mpr ⟨Or.inr ⟨by decide, t_IO, hts (.classLink RL 13 t_IO) (by decide +kernel), hNN.2.1⟩, (fun _ h => nomatch h)⟩) (by decide) (by decide) (hts (.classLink RL 17 t_IS) (by decide +kernel)) (Or.inr (Or.inr rfl)) (fun q9 H locs hS => ?_)
  refine lv_astore_n (lv' := [(3, .ref q9), (0, .ref (ad 0)), (1, .int x1), (2, .ref o)]) hx hb dL_removeCough_15 rfl hl (by decide) rfl (fun ls hl => ?_)
  refine lv_iconst (v := 2) hx hb dL_removeCough_16 (by decide) ?_
  exact l_retX hx hb hr hlocks hS rfl dL_removeCough_17

set_option maxHeartbeats 4000000 in
set_option maxRecDepth 100000 in
theorem t_L_removeCough_3 (l : Launch) (D : va_G) (sa : Nat → Nat) (hst : l.stackTraces = false) (cI cJ : ClassId) (ad : Nat → Nat) (o : Nat) (N : Nat) (w : Int32) (t : Int32) (pa pe : Int32) (f0 f1 f2 f3 f4 : Nat → Int32) (x1 : Int32) (h1a : ¬ x1 < 0) (h1b : x1 < (nI N)) (h2a : x_cs f1 x1 = true) (hb3 : ¬ 1 ≤ pa) (fo : Nat → Int64) : l_X l yL_removeCough wsL_removeCough ({ frames := 8, cells := 1, slots := 6, locals := 132 } : Room) D [(cI, .int), (cJ, .long)] (lw cI cJ ad o (nI N) w t pa pe f0 f1 f2 f3 f4 fo) [.ref (ad 0), .int x1, .ref o] sa 2 := by
  refine l_startX (cc := cL_removeCough) (maxL := 4) (hh := [(0, 9, 12, 13), (0, 9, 15, 17)]) (by decide) rfl (Nat.le_of_ble_eq_true rfl) ?_
  intro p e s m below meth c hx hb hml hr hts hown hlocks hTab hK hZ hNN H locs ls hP hS hl
  have hl : lv_has ls 4 [(0, .ref (ad 0)), (1, .int x1), (2, .ref o)] := hl
  refine lv_aload_n hx hb dL_removeCough_0 rfl (lv_at hl 2 rfl) ?_
  refine lv_iconst (v := 0) hx hb dL_removeCough_1 (by decide) ?_
  refine lv_aload_n hx hb dL_removeCough_2 rfl (lv_at hl 0 rfl) ?_
  refine lv_iload_n hx hb dL_removeCough_3 rfl (lv_at hl 1 rfl) ?_
  refine l_callX (As := [.int x1]) (rest := [.int 0, .ref o]) (E := t_IS) ⟨hx, hb, hml, hown, hts⟩ (t_X0_removeCough_3 l D sa hst cI ad N w t pa pe f0 f1 f2 f3 f4 x1 h1a h1b h2a hb3) (cwV 1 hts gL_removeCough_X0_removeCough rfl rfl rfl kv_X0_removeCough ⟨Nat.le_of_ble_eq_true rfl, Nat.le_of_ble_eq_true rfl⟩) (va_recv hK hP (ci := 0) (q0 := 0) rfl rfl) (hP.sub [0, 1, 2, 3, 4, 5] rfl) (hK.sub [0] rfl) hZ rfl hl.1 rfl (Nat.le_of_ble_eq_true rfl) dL_removeCough_4 (Nat.le_of_ble_eq_true rfl) (Nat.le_of_ble_eq_true rfl) hS [⟨0, 9, 12, 13⟩] ⟨0, 9, 15, 17⟩ [] (by rw [hTab]; rfl) (List.forall_mem_cons.mpr ⟨Or.inr ⟨by decide, t_IO, hts (.classLink RL 13 t_IO) (by decide +kernel), hNN.2.1⟩, (fun _ h => nomatch h)⟩) (by decide) (by decide) (hts (.classLink RL 17 t_IS) (by decide +kernel)) (Or.inr (Or.inr rfl)) (fun q9 H locs hS => ?_)
  refine lv_astore_n (lv' := [(3, .ref q9), (0, .ref (ad 0)), (1, .int x1), (2, .ref o)]) hx hb dL_removeCough_15 rfl hl (by decide) rfl (fun ls hl => ?_)
  refine lv_iconst (v := 2) hx hb dL_removeCough_16 (by decide) ?_
  exact l_retX hx hb hr hlocks hS rfl dL_removeCough_17

theorem kq_L_tie : yL_tie.cls ≠ "java/lang/invoke/MethodHandle" ∧ yL_tie.cls ≠ "java/lang/invoke/VarHandle" ∧ (parseMethodDescriptor yL_tie.desc).map (fun d => d.parameters.length) = some 3 := by decide +kernel
set_option maxHeartbeats 4000000 in
set_option maxRecDepth 100000 in
theorem c_L_tie (l : Launch) (D : va_G) (cI cJ : ClassId) (ad : Nat → Nat) (o : Nat) (N : Nat) (w : Int32) (t : Int32) (pa pe : Int32) (f0 f1 f2 f3 f4 : Nat → Int32) (x1 : Int32) (h1a : ¬ x1 < 0) (h1b : x1 < (x_gc w)) (h2a : x_ti f2 f3 x1 = false) (h3a : 3 ≤ pa) (hN : N ≤ 24) (fo : Nat → Int64) : m_I l yL_tie wsL_tie ({ frames := 6, cells := 0, slots := 0, locals := 127 } : Room) D [(cI, .int), (cJ, .long)] (lw cI cJ ad o (nI N) w t pa pe f0 f1 f2 f3 f4 fo) [.ref (ad 0), .int x1, .ref o] 0 (lw cI cJ ad o (nI N) (nI (x_wn f1 N)) (nI (x_tcn f0 f1 (wr f2 (rd f3 x1) 1) (x_wp f1 f3 N) (x_wn f1 N))) (pa - 3) (pe + 3) f0 f1 (wr f2 (rd f3 x1) 1) (x_wp f1 f3 N) (x_wh f0 f1 (wr f2 (rd f3 x1) 1) (x_wp f1 f3 N) f4 (x_wn f1 N)) (vp_updL fo 0 (((nI (x_tcn f0 f1 (wr f2 (rd f3 x1) 1) (x_wp f1 f3 N) (x_wn f1 N)))).toInt64))) := by
  refine l_startI (cc := cL_tie) (maxL := 4) (hh := [(0, 9, 12, 13), (0, 9, 15, 17)]) (by decide) rfl (Nat.le_of_ble_eq_true rfl) ?_
  intro p e s m below meth c A hx hb hml hr hts hown hlocks hK hA H locs ls hP hD hS hl
  have hl : lv_has ls 4 [(0, .ref (ad 0)), (1, .int x1), (2, .ref o)] := hl
  refine lv_aload_n hx hb dL_tie_0 rfl (lv_at hl 2 rfl) ?_
  refine lv_iconst (v := 0) hx hb dL_tie_1 (by decide) ?_
  refine lv_aload_n hx hb dL_tie_2 rfl (lv_at hl 0 rfl) ?_
  refine lv_iload_n hx hb dL_tie_3 rfl (lv_at hl 1 rfl) ?_
  refine m_callVI (As := [.int x1]) (rest := [.int 0, .ref o]) (Wr := [(o, .inl (cJ, 1, .inr (.inl fo)))]) (W2 := (lw cI cJ ad o (nI N) (nI (x_wn f1 N)) (nI (x_tcn f0 f1 (wr f2 (rd f3 x1) 1) (x_wp f1 f3 N) (x_wn f1 N))) (pa - 3) (pe + 3) f0 f1 (wr f2 (rd f3 x1) 1) (x_wp f1 f3 N) (x_wh f0 f1 (wr f2 (rd f3 x1) 1) (x_wp f1 f3 N) f4 (x_wn f1 N)) fo)) ⟨hx, hb, hml, hown, hts⟩ (c_X0_tie l D cI ad N w t pa pe f0 f1 f2 f3 f4 x1 h1a h1b h2a h3a hN) (cwV 1 hts gL_tie_X0_tie rfl rfl rfl kv_X0_tie ⟨Nat.le_of_ble_eq_true rfl, Nat.le_of_ble_eq_true rfl⟩) (va_recv hK hP (ci := 0) (q0 := 0) rfl rfl) hP hD (hK.sub [0] rfl) hA [0, 1, 2, 3, 4, 5] [6] [1, 2, 3, 4, 5, 6, 0] rfl rfl rfl rfl rfl (by decide) rfl rfl rfl hl.1 rfl (Nat.le_of_ble_eq_true rfl) dL_tie_4 (Nat.zero_le _) (Nat.zero_le _) hS (fun H locs hP hS => ?_)
  have hD : va_D A (lw cI cJ ad o (nI N) (nI (x_wn f1 N)) (nI (x_tcn f0 f1 (wr f2 (rd f3 x1) 1) (x_wp f1 f3 N) (x_wn f1 N))) (pa - 3) (pe + 3) f0 f1 (wr f2 (rd f3 x1) 1) (x_wp f1 f3 N) (x_wh f0 f1 (wr f2 (rd f3 x1) 1) (x_wp f1 f3 N) f4 (x_wn f1 N)) fo) := q_Dc (L := [ad 0, ad 1, ad 2, ad 3, ad 4, ad 5, o]) hD rfl rfl
  refine lv_i2l (v := ((nI (x_tcn f0 f1 (wr f2 (rd f3 x1) 1) (x_wp f1 f3 N) (x_wn f1 N)))).toInt64) hx hb dL_tie_7 rfl ?_
  refine va_last hx hb hK hP hD hS 6 1 rfl rfl (vp_in_nI (n := 0) (by decide) (by decide)) dL_tie_8 (fun H locs hP hD hS => ?_)
  have hP : va_P D vwCl (lw cI cJ ad o (nI N) (nI (x_wn f1 N)) (nI (x_tcn f0 f1 (wr f2 (rd f3 x1) 1) (x_wp f1 f3 N) (x_wn f1 N))) (pa - 3) (pe + 3) f0 f1 (wr f2 (rd f3 x1) 1) (x_wp f1 f3 N) (x_wh f0 f1 (wr f2 (rd f3 x1) 1) (x_wp f1 f3 N) f4 (x_wn f1 N)) (vp_updL fo 0 (((nI (x_tcn f0 f1 (wr f2 (rd f3 x1) 1) (x_wp f1 f3 N) (x_wn f1 N)))).toInt64))) H := hP
  refine lv_goto (tgt := 18) hx hb dL_tie_9 (by decide) ?_
  refine lv_iconst (v := 0) hx hb dL_tie_18 (by decide) ?_
  exact m_retI hx hb hr hlocks hS hP rfl dL_tie_19

set_option maxHeartbeats 4000000 in
set_option maxRecDepth 100000 in
theorem t_L_tie_1 (l : Launch) (D : va_G) (sa : Nat → Nat) (hst : l.stackTraces = false) (cI cJ : ClassId) (ad : Nat → Nat) (o : Nat) (N : Nat) (w : Int32) (t : Int32) (pa pe : Int32) (f0 f1 f2 f3 f4 : Nat → Int32) (x1 : Int32) (hb1 : x1 < 0 ∨ ¬ x1 < (x_gc w)) (hN : N ≤ 24) (fo : Nat → Int64) : l_X l yL_tie wsL_tie ({ frames := 8, cells := 1, slots := 6, locals := 132 } : Room) D [(cI, .int), (cJ, .long)] (lw cI cJ ad o (nI N) w t pa pe f0 f1 f2 f3 f4 fo) [.ref (ad 0), .int x1, .ref o] sa 1 := by
  refine l_startX (cc := cL_tie) (maxL := 4) (hh := [(0, 9, 12, 13), (0, 9, 15, 17)]) (by decide) rfl (Nat.le_of_ble_eq_true rfl) ?_
  intro p e s m below meth c hx hb hml hr hts hown hlocks hTab hK hZ hNN H locs ls hP hS hl
  have hl : lv_has ls 4 [(0, .ref (ad 0)), (1, .int x1), (2, .ref o)] := hl
  refine lv_aload_n hx hb dL_tie_0 rfl (lv_at hl 2 rfl) ?_
  refine lv_iconst (v := 0) hx hb dL_tie_1 (by decide) ?_
  refine lv_aload_n hx hb dL_tie_2 rfl (lv_at hl 0 rfl) ?_
  refine lv_iload_n hx hb dL_tie_3 rfl (lv_at hl 1 rfl) ?_
  refine l_callX (As := [.int x1]) (rest := [.int 0, .ref o]) (E := t_IO) ⟨hx, hb, hml, hown, hts⟩ (t_X0_tie_1 l D sa hst cI ad N w t pa pe f0 f1 f2 f3 f4 x1 hb1 hN) (cwV 1 hts gL_tie_X0_tie rfl rfl rfl kv_X0_tie ⟨Nat.le_of_ble_eq_true rfl, Nat.le_of_ble_eq_true rfl⟩) (va_recv hK hP (ci := 0) (q0 := 0) rfl rfl) (hP.sub [0, 1, 2, 3, 4, 5] rfl) (hK.sub [0] rfl) hZ rfl hl.1 rfl (Nat.le_of_ble_eq_true rfl) dL_tie_4 (Nat.le_of_ble_eq_true rfl) (Nat.le_of_ble_eq_true rfl) hS [] ⟨0, 9, 12, 13⟩ [⟨0, 9, 15, 17⟩] (by rw [hTab]; rfl) (fun _ h => nomatch h) (by decide) (by decide) (hts (.classLink RL 13 t_IO) (by decide +kernel)) (Or.inl rfl) (fun q9 H locs hS => ?_)
  refine lv_astore_n (lv' := [(3, .ref q9), (0, .ref (ad 0)), (1, .int x1), (2, .ref o)]) hx hb dL_tie_12 rfl hl (by decide) rfl (fun ls hl => ?_)
  refine lv_iconst (v := 1) hx hb dL_tie_13 (by decide) ?_
  exact l_retX hx hb hr hlocks hS rfl dL_tie_14

set_option maxHeartbeats 4000000 in
set_option maxRecDepth 100000 in
theorem t_L_tie_2 (l : Launch) (D : va_G) (sa : Nat → Nat) (hst : l.stackTraces = false) (cI cJ : ClassId) (ad : Nat → Nat) (o : Nat) (N : Nat) (w : Int32) (t : Int32) (pa pe : Int32) (f0 f1 f2 f3 f4 : Nat → Int32) (x1 : Int32) (h1a : ¬ x1 < 0) (h1b : x1 < (x_gc w)) (hb2 : x_ti f2 f3 x1 = true) (hN : N ≤ 24) (fo : Nat → Int64) : l_X l yL_tie wsL_tie ({ frames := 8, cells := 1, slots := 6, locals := 132 } : Room) D [(cI, .int), (cJ, .long)] (lw cI cJ ad o (nI N) w t pa pe f0 f1 f2 f3 f4 fo) [.ref (ad 0), .int x1, .ref o] sa 2 := by
  refine l_startX (cc := cL_tie) (maxL := 4) (hh := [(0, 9, 12, 13), (0, 9, 15, 17)]) (by decide) rfl (Nat.le_of_ble_eq_true rfl) ?_
  intro p e s m below meth c hx hb hml hr hts hown hlocks hTab hK hZ hNN H locs ls hP hS hl
  have hl : lv_has ls 4 [(0, .ref (ad 0)), (1, .int x1), (2, .ref o)] := hl
  refine lv_aload_n hx hb dL_tie_0 rfl (lv_at hl 2 rfl) ?_
  refine lv_iconst (v := 0) hx hb dL_tie_1 (by decide) ?_
  refine lv_aload_n hx hb dL_tie_2 rfl (lv_at hl 0 rfl) ?_
  refine lv_iload_n hx hb dL_tie_3 rfl (lv_at hl 1 rfl) ?_
  refine l_callX (As := [.int x1]) (rest := [.int 0, .ref o]) (E := t_IS) ⟨hx, hb, hml, hown, hts⟩ (t_X0_tie_2 l D sa hst cI ad N w t pa pe f0 f1 f2 f3 f4 x1 h1a h1b hb2 hN) (cwV 1 hts gL_tie_X0_tie rfl rfl rfl kv_X0_tie ⟨Nat.le_of_ble_eq_true rfl, Nat.le_of_ble_eq_true rfl⟩) (va_recv hK hP (ci := 0) (q0 := 0) rfl rfl) (hP.sub [0, 1, 2, 3, 4, 5] rfl) (hK.sub [0] rfl) hZ rfl hl.1 rfl (Nat.le_of_ble_eq_true rfl) dL_tie_4 (Nat.le_of_ble_eq_true rfl) (Nat.le_of_ble_eq_true rfl) hS [⟨0, 9, 12, 13⟩] ⟨0, 9, 15, 17⟩ [] (by rw [hTab]; rfl) (List.forall_mem_cons.mpr ⟨Or.inr ⟨by decide, t_IO, hts (.classLink RL 13 t_IO) (by decide +kernel), hNN.2.1⟩, (fun _ h => nomatch h)⟩) (by decide) (by decide) (hts (.classLink RL 17 t_IS) (by decide +kernel)) (Or.inr (Or.inr rfl)) (fun q9 H locs hS => ?_)
  refine lv_astore_n (lv' := [(3, .ref q9), (0, .ref (ad 0)), (1, .int x1), (2, .ref o)]) hx hb dL_tie_15 rfl hl (by decide) rfl (fun ls hl => ?_)
  refine lv_iconst (v := 2) hx hb dL_tie_16 (by decide) ?_
  exact l_retX hx hb hr hlocks hS rfl dL_tie_17

set_option maxHeartbeats 4000000 in
set_option maxRecDepth 100000 in
theorem t_L_tie_3 (l : Launch) (D : va_G) (sa : Nat → Nat) (hst : l.stackTraces = false) (cI cJ : ClassId) (ad : Nat → Nat) (o : Nat) (N : Nat) (w : Int32) (t : Int32) (pa pe : Int32) (f0 f1 f2 f3 f4 : Nat → Int32) (x1 : Int32) (h1a : ¬ x1 < 0) (h1b : x1 < (x_gc w)) (h2a : x_ti f2 f3 x1 = false) (hb3 : ¬ 3 ≤ pa) (hN : N ≤ 24) (fo : Nat → Int64) : l_X l yL_tie wsL_tie ({ frames := 8, cells := 1, slots := 6, locals := 132 } : Room) D [(cI, .int), (cJ, .long)] (lw cI cJ ad o (nI N) w t pa pe f0 f1 f2 f3 f4 fo) [.ref (ad 0), .int x1, .ref o] sa 2 := by
  refine l_startX (cc := cL_tie) (maxL := 4) (hh := [(0, 9, 12, 13), (0, 9, 15, 17)]) (by decide) rfl (Nat.le_of_ble_eq_true rfl) ?_
  intro p e s m below meth c hx hb hml hr hts hown hlocks hTab hK hZ hNN H locs ls hP hS hl
  have hl : lv_has ls 4 [(0, .ref (ad 0)), (1, .int x1), (2, .ref o)] := hl
  refine lv_aload_n hx hb dL_tie_0 rfl (lv_at hl 2 rfl) ?_
  refine lv_iconst (v := 0) hx hb dL_tie_1 (by decide) ?_
  refine lv_aload_n hx hb dL_tie_2 rfl (lv_at hl 0 rfl) ?_
  refine lv_iload_n hx hb dL_tie_3 rfl (lv_at hl 1 rfl) ?_
  refine l_callX (As := [.int x1]) (rest := [.int 0, .ref o]) (E := t_IS) ⟨hx, hb, hml, hown, hts⟩ (t_X0_tie_3 l D sa hst cI ad N w t pa pe f0 f1 f2 f3 f4 x1 h1a h1b h2a hb3 hN) (cwV 1 hts gL_tie_X0_tie rfl rfl rfl kv_X0_tie ⟨Nat.le_of_ble_eq_true rfl, Nat.le_of_ble_eq_true rfl⟩) (va_recv hK hP (ci := 0) (q0 := 0) rfl rfl) (hP.sub [0, 1, 2, 3, 4, 5] rfl) (hK.sub [0] rfl) hZ rfl hl.1 rfl (Nat.le_of_ble_eq_true rfl) dL_tie_4 (Nat.le_of_ble_eq_true rfl) (Nat.le_of_ble_eq_true rfl) hS [⟨0, 9, 12, 13⟩] ⟨0, 9, 15, 17⟩ [] (by rw [hTab]; rfl) (List.forall_mem_cons.mpr ⟨Or.inr ⟨by decide, t_IO, hts (.classLink RL 13 t_IO) (by decide +kernel), hNN.2.1⟩, (fun _ h => nomatch h)⟩) (by decide) (by decide) (hts (.classLink RL 17 t_IS) (by decide +kernel)) (Or.inr (Or.inr rfl)) (fun q9 H locs hS => ?_)
  refine lv_astore_n (lv' := [(3, .ref q9), (0, .ref (ad 0)), (1, .int x1), (2, .ref o)]) hx hb dL_tie_15 rfl hl (by decide) rfl (fun ls hl => ?_)
  refine lv_iconst (v := 2) hx hb dL_tie_16 (by decide) ?_
  exact l_retX hx hb hr hlocks hS rfl dL_tie_17

theorem kq_L_splice : yL_splice.cls ≠ "java/lang/invoke/MethodHandle" ∧ yL_splice.cls ≠ "java/lang/invoke/VarHandle" ∧ (parseMethodDescriptor yL_splice.desc).map (fun d => d.parameters.length) = some 3 := by decide +kernel
set_option maxHeartbeats 4000000 in
set_option maxRecDepth 100000 in
theorem c_L_splice (l : Launch) (D : va_G) (cI cJ : ClassId) (ad : Nat → Nat) (o : Nat) (N : Nat) (w : Int32) (t : Int32) (pa pe : Int32) (f0 f1 f2 f3 f4 : Nat → Int32) (x1 : Int32) (h1a : ¬ x1 < 0) (h1b : x1 < (x_gc w)) (h2a : x_ti f2 f3 x1 = false) (h3a : (nI N) < 24) (h4a : 2 ≤ pa) (P : Nat) (hPe : rd f3 x1 + 1 = nI P) (hPN : P ≤ N) (hN : N < 24) (fo : Nat → Int64) : m_I l yL_splice wsL_splice ({ frames := 6, cells := 0, slots := 0, locals := 130 } : Room) D [(cI, .int), (cJ, .long)] (lw cI cJ ad o (nI N) w t pa pe f0 f1 f2 f3 f4 fo) [.ref (ad 0), .int x1, .ref o] 0 (lw cI cJ ad o (nI (N + 1)) (nI (x_wn (wr (x_mk f1 N (N - P)) (nI P) (x_btw (x_tp f1 f3 x1) (x_tp f1 f3 (x1 + 1)))) (N + 1))) (nI (x_tcn (wr (x_mk f0 N (N - P)) (nI P) (x_sp f0 f3 x1)) (wr (x_mk f1 N (N - P)) (nI P) (x_btw (x_tp f1 f3 x1) (x_tp f1 f3 (x1 + 1)))) (wr (x_mk f2 N (N - P)) (nI P) 0) (x_wp (wr (x_mk f1 N (N - P)) (nI P) (x_btw (x_tp f1 f3 x1) (x_tp f1 f3 (x1 + 1)))) f3 (N + 1)) (x_wn (wr (x_mk f1 N (N - P)) (nI P) (x_btw (x_tp f1 f3 x1) (x_tp f1 f3 (x1 + 1)))) (N + 1)))) (pa - 2) (pe + 2) (wr (x_mk f0 N (N - P)) (nI P) (x_sp f0 f3 x1)) (wr (x_mk f1 N (N - P)) (nI P) (x_btw (x_tp f1 f3 x1) (x_tp f1 f3 (x1 + 1)))) (wr (x_mk f2 N (N - P)) (nI P) 0) (x_wp (wr (x_mk f1 N (N - P)) (nI P) (x_btw (x_tp f1 f3 x1) (x_tp f1 f3 (x1 + 1)))) f3 (N + 1)) (x_wh (wr (x_mk f0 N (N - P)) (nI P) (x_sp f0 f3 x1)) (wr (x_mk f1 N (N - P)) (nI P) (x_btw (x_tp f1 f3 x1) (x_tp f1 f3 (x1 + 1)))) (wr (x_mk f2 N (N - P)) (nI P) 0) (x_wp (wr (x_mk f1 N (N - P)) (nI P) (x_btw (x_tp f1 f3 x1) (x_tp f1 f3 (x1 + 1)))) f3 (N + 1)) f4 (x_wn (wr (x_mk f1 N (N - P)) (nI P) (x_btw (x_tp f1 f3 x1) (x_tp f1 f3 (x1 + 1)))) (N + 1))) (vp_updL fo 0 (((x_btw (x_tp f1 f3 x1) (x_tp f1 f3 (x1 + 1)))).toInt64))) := by
  refine l_startI (cc := cL_splice) (maxL := 4) (hh := [(0, 9, 12, 13), (0, 9, 15, 17)]) (by decide) rfl (Nat.le_of_ble_eq_true rfl) ?_
  intro p e s m below meth c A hx hb hml hr hts hown hlocks hK hA H locs ls hP hD hS hl
  have hl : lv_has ls 4 [(0, .ref (ad 0)), (1, .int x1), (2, .ref o)] := hl
  refine lv_aload_n hx hb dL_splice_0 rfl (lv_at hl 2 rfl) ?_
  refine lv_iconst (v := 0) hx hb dL_splice_1 (by decide) ?_
  refine lv_aload_n hx hb dL_splice_2 rfl (lv_at hl 0 rfl) ?_
  refine lv_iload_n hx hb dL_splice_3 rfl (lv_at hl 1 rfl) ?_
  refine m_callVI (As := [.int x1]) (rest := [.int 0, .ref o]) (Wr := [(o, .inl (cJ, 1, .inr (.inl fo)))]) (W2 := (lw cI cJ ad o (nI (N + 1)) (nI (x_wn (wr (x_mk f1 N (N - P)) (nI P) (x_btw (x_tp f1 f3 x1) (x_tp f1 f3 (x1 + 1)))) (N + 1))) (nI (x_tcn (wr (x_mk f0 N (N - P)) (nI P) (x_sp f0 f3 x1)) (wr (x_mk f1 N (N - P)) (nI P) (x_btw (x_tp f1 f3 x1) (x_tp f1 f3 (x1 + 1)))) (wr (x_mk f2 N (N - P)) (nI P) 0) (x_wp (wr (x_mk f1 N (N - P)) (nI P) (x_btw (x_tp f1 f3 x1) (x_tp f1 f3 (x1 + 1)))) f3 (N + 1)) (x_wn (wr (x_mk f1 N (N - P)) (nI P) (x_btw (x_tp f1 f3 x1) (x_tp f1 f3 (x1 + 1)))) (N + 1)))) (pa - 2) (pe + 2) (wr (x_mk f0 N (N - P)) (nI P) (x_sp f0 f3 x1)) (wr (x_mk f1 N (N - P)) (nI P) (x_btw (x_tp f1 f3 x1) (x_tp f1 f3 (x1 + 1)))) (wr (x_mk f2 N (N - P)) (nI P) 0) (x_wp (wr (x_mk f1 N (N - P)) (nI P) (x_btw (x_tp f1 f3 x1) (x_tp f1 f3 (x1 + 1)))) f3 (N + 1)) (x_wh (wr (x_mk f0 N (N - P)) (nI P) (x_sp f0 f3 x1)) (wr (x_mk f1 N (N - P)) (nI P) (x_btw (x_tp f1 f3 x1) (x_tp f1 f3 (x1 + 1)))) (wr (x_mk f2 N (N - P)) (nI P) 0) (x_wp (wr (x_mk f1 N (N - P)) (nI P) (x_btw (x_tp f1 f3 x1) (x_tp f1 f3 (x1 + 1)))) f3 (N + 1)) f4 (x_wn (wr (x_mk f1 N (N - P)) (nI P) (x_btw (x_tp f1 f3 x1) (x_tp f1 f3 (x1 + 1)))) (N + 1))) fo)) ⟨hx, hb, hml, hown, hts⟩ (c_X0_splice l D cI ad N w t pa pe f0 f1 f2 f3 f4 x1 h1a h1b h2a h3a h4a P hPe hPN hN) (cwV 1 hts gL_splice_X0_splice rfl rfl rfl kv_X0_splice ⟨Nat.le_of_ble_eq_true rfl, Nat.le_of_ble_eq_true rfl⟩) (va_recv hK hP (ci := 0) (q0 := 0) rfl rfl) hP hD (hK.sub [0] rfl) hA [0, 1, 2, 3, 4, 5] [6] [1, 2, 3, 4, 5, 6, 0] rfl rfl rfl rfl rfl (by decide) rfl rfl rfl hl.1 rfl (Nat.le_of_ble_eq_true rfl) dL_splice_4 (Nat.zero_le _) (Nat.zero_le _) hS (fun H locs hP hS => ?_)
  have hD : va_D A (lw cI cJ ad o (nI (N + 1)) (nI (x_wn (wr (x_mk f1 N (N - P)) (nI P) (x_btw (x_tp f1 f3 x1) (x_tp f1 f3 (x1 + 1)))) (N + 1))) (nI (x_tcn (wr (x_mk f0 N (N - P)) (nI P) (x_sp f0 f3 x1)) (wr (x_mk f1 N (N - P)) (nI P) (x_btw (x_tp f1 f3 x1) (x_tp f1 f3 (x1 + 1)))) (wr (x_mk f2 N (N - P)) (nI P) 0) (x_wp (wr (x_mk f1 N (N - P)) (nI P) (x_btw (x_tp f1 f3 x1) (x_tp f1 f3 (x1 + 1)))) f3 (N + 1)) (x_wn (wr (x_mk f1 N (N - P)) (nI P) (x_btw (x_tp f1 f3 x1) (x_tp f1 f3 (x1 + 1)))) (N + 1)))) (pa - 2) (pe + 2) (wr (x_mk f0 N (N - P)) (nI P) (x_sp f0 f3 x1)) (wr (x_mk f1 N (N - P)) (nI P) (x_btw (x_tp f1 f3 x1) (x_tp f1 f3 (x1 + 1)))) (wr (x_mk f2 N (N - P)) (nI P) 0) (x_wp (wr (x_mk f1 N (N - P)) (nI P) (x_btw (x_tp f1 f3 x1) (x_tp f1 f3 (x1 + 1)))) f3 (N + 1)) (x_wh (wr (x_mk f0 N (N - P)) (nI P) (x_sp f0 f3 x1)) (wr (x_mk f1 N (N - P)) (nI P) (x_btw (x_tp f1 f3 x1) (x_tp f1 f3 (x1 + 1)))) (wr (x_mk f2 N (N - P)) (nI P) 0) (x_wp (wr (x_mk f1 N (N - P)) (nI P) (x_btw (x_tp f1 f3 x1) (x_tp f1 f3 (x1 + 1)))) f3 (N + 1)) f4 (x_wn (wr (x_mk f1 N (N - P)) (nI P) (x_btw (x_tp f1 f3 x1) (x_tp f1 f3 (x1 + 1)))) (N + 1))) fo) := q_Dc (L := [ad 0, ad 1, ad 2, ad 3, ad 4, ad 5, o]) hD rfl rfl
  refine lv_i2l (v := ((x_btw (x_tp f1 f3 x1) (x_tp f1 f3 (x1 + 1)))).toInt64) hx hb dL_splice_7 rfl ?_
  refine va_last hx hb hK hP hD hS 6 1 rfl rfl (vp_in_nI (n := 0) (by decide) (by decide)) dL_splice_8 (fun H locs hP hD hS => ?_)
  have hP : va_P D vwCl (lw cI cJ ad o (nI (N + 1)) (nI (x_wn (wr (x_mk f1 N (N - P)) (nI P) (x_btw (x_tp f1 f3 x1) (x_tp f1 f3 (x1 + 1)))) (N + 1))) (nI (x_tcn (wr (x_mk f0 N (N - P)) (nI P) (x_sp f0 f3 x1)) (wr (x_mk f1 N (N - P)) (nI P) (x_btw (x_tp f1 f3 x1) (x_tp f1 f3 (x1 + 1)))) (wr (x_mk f2 N (N - P)) (nI P) 0) (x_wp (wr (x_mk f1 N (N - P)) (nI P) (x_btw (x_tp f1 f3 x1) (x_tp f1 f3 (x1 + 1)))) f3 (N + 1)) (x_wn (wr (x_mk f1 N (N - P)) (nI P) (x_btw (x_tp f1 f3 x1) (x_tp f1 f3 (x1 + 1)))) (N + 1)))) (pa - 2) (pe + 2) (wr (x_mk f0 N (N - P)) (nI P) (x_sp f0 f3 x1)) (wr (x_mk f1 N (N - P)) (nI P) (x_btw (x_tp f1 f3 x1) (x_tp f1 f3 (x1 + 1)))) (wr (x_mk f2 N (N - P)) (nI P) 0) (x_wp (wr (x_mk f1 N (N - P)) (nI P) (x_btw (x_tp f1 f3 x1) (x_tp f1 f3 (x1 + 1)))) f3 (N + 1)) (x_wh (wr (x_mk f0 N (N - P)) (nI P) (x_sp f0 f3 x1)) (wr (x_mk f1 N (N - P)) (nI P) (x_btw (x_tp f1 f3 x1) (x_tp f1 f3 (x1 + 1)))) (wr (x_mk f2 N (N - P)) (nI P) 0) (x_wp (wr (x_mk f1 N (N - P)) (nI P) (x_btw (x_tp f1 f3 x1) (x_tp f1 f3 (x1 + 1)))) f3 (N + 1)) f4 (x_wn (wr (x_mk f1 N (N - P)) (nI P) (x_btw (x_tp f1 f3 x1) (x_tp f1 f3 (x1 + 1)))) (N + 1))) (vp_updL fo 0 (((x_btw (x_tp f1 f3 x1) (x_tp f1 f3 (x1 + 1)))).toInt64))) H := hP
  refine lv_goto (tgt := 18) hx hb dL_splice_9 (by decide) ?_
  refine lv_iconst (v := 0) hx hb dL_splice_18 (by decide) ?_
  exact m_retI hx hb hr hlocks hS hP rfl dL_splice_19

set_option maxHeartbeats 4000000 in
set_option maxRecDepth 100000 in
theorem t_L_splice_1 (l : Launch) (D : va_G) (sa : Nat → Nat) (hst : l.stackTraces = false) (cI cJ : ClassId) (ad : Nat → Nat) (o : Nat) (N : Nat) (w : Int32) (t : Int32) (pa pe : Int32) (f0 f1 f2 f3 f4 : Nat → Int32) (x1 : Int32) (hb1 : x1 < 0 ∨ ¬ x1 < (x_gc w)) (fo : Nat → Int64) : l_X l yL_splice wsL_splice ({ frames := 8, cells := 1, slots := 6, locals := 135 } : Room) D [(cI, .int), (cJ, .long)] (lw cI cJ ad o (nI N) w t pa pe f0 f1 f2 f3 f4 fo) [.ref (ad 0), .int x1, .ref o] sa 1 := by
  refine l_startX (cc := cL_splice) (maxL := 4) (hh := [(0, 9, 12, 13), (0, 9, 15, 17)]) (by decide) rfl (Nat.le_of_ble_eq_true rfl) ?_
  intro p e s m below meth c hx hb hml hr hts hown hlocks hTab hK hZ hNN H locs ls hP hS hl
  have hl : lv_has ls 4 [(0, .ref (ad 0)), (1, .int x1), (2, .ref o)] := hl
  refine lv_aload_n hx hb dL_splice_0 rfl (lv_at hl 2 rfl) ?_
  refine lv_iconst (v := 0) hx hb dL_splice_1 (by decide) ?_
  refine lv_aload_n hx hb dL_splice_2 rfl (lv_at hl 0 rfl) ?_
  refine lv_iload_n hx hb dL_splice_3 rfl (lv_at hl 1 rfl) ?_
  refine l_callX (As := [.int x1]) (rest := [.int 0, .ref o]) (E := t_IO) ⟨hx, hb, hml, hown, hts⟩ (t_X0_splice_1 l D sa hst cI ad N w t pa pe f0 f1 f2 f3 f4 x1 hb1) (cwV 1 hts gL_splice_X0_splice rfl rfl rfl kv_X0_splice ⟨Nat.le_of_ble_eq_true rfl, Nat.le_of_ble_eq_true rfl⟩) (va_recv hK hP (ci := 0) (q0 := 0) rfl rfl) (hP.sub [0, 1, 2, 3, 4, 5] rfl) (hK.sub [0] rfl) hZ rfl hl.1 rfl (Nat.le_of_ble_eq_true rfl) dL_splice_4 (Nat.le_of_ble_eq_true rfl) (Nat.le_of_ble_eq_true rfl) hS [] ⟨0, 9, 12, 13⟩ [⟨0, 9, 15, 17⟩] (by rw [hTab]; rfl) (fun _ h => nomatch h) (by decide) (by decide) (hts (.classLink RL 13 t_IO) (by decide +kernel)) (Or.inl rfl) (fun q9 H locs hS => ?_)
  refine lv_astore_n (lv' := [(3, .ref q9), (0, .ref (ad 0)), (1, .int x1), (2, .ref o)]) hx hb dL_splice_12 rfl hl (by decide) rfl (fun ls hl => ?_)
  refine lv_iconst (v := 1) hx hb dL_splice_13 (by decide) ?_
  exact l_retX hx hb hr hlocks hS rfl dL_splice_14

set_option maxHeartbeats 4000000 in
set_option maxRecDepth 100000 in
theorem t_L_splice_2 (l : Launch) (D : va_G) (sa : Nat → Nat) (hst : l.stackTraces = false) (cI cJ : ClassId) (ad : Nat → Nat) (o : Nat) (N : Nat) (w : Int32) (t : Int32) (pa pe : Int32) (f0 f1 f2 f3 f4 : Nat → Int32) (x1 : Int32) (h1a : ¬ x1 < 0) (h1b : x1 < (x_gc w)) (hb2 : x_ti f2 f3 x1 = true) (fo : Nat → Int64) : l_X l yL_splice wsL_splice ({ frames := 8, cells := 1, slots := 6, locals := 135 } : Room) D [(cI, .int), (cJ, .long)] (lw cI cJ ad o (nI N) w t pa pe f0 f1 f2 f3 f4 fo) [.ref (ad 0), .int x1, .ref o] sa 2 := by
  refine l_startX (cc := cL_splice) (maxL := 4) (hh := [(0, 9, 12, 13), (0, 9, 15, 17)]) (by decide) rfl (Nat.le_of_ble_eq_true rfl) ?_
  intro p e s m below meth c hx hb hml hr hts hown hlocks hTab hK hZ hNN H locs ls hP hS hl
  have hl : lv_has ls 4 [(0, .ref (ad 0)), (1, .int x1), (2, .ref o)] := hl
  refine lv_aload_n hx hb dL_splice_0 rfl (lv_at hl 2 rfl) ?_
  refine lv_iconst (v := 0) hx hb dL_splice_1 (by decide) ?_
  refine lv_aload_n hx hb dL_splice_2 rfl (lv_at hl 0 rfl) ?_
  refine lv_iload_n hx hb dL_splice_3 rfl (lv_at hl 1 rfl) ?_
  refine l_callX (As := [.int x1]) (rest := [.int 0, .ref o]) (E := t_IS) ⟨hx, hb, hml, hown, hts⟩ (t_X0_splice_2 l D sa hst cI ad N w t pa pe f0 f1 f2 f3 f4 x1 h1a h1b hb2) (cwV 1 hts gL_splice_X0_splice rfl rfl rfl kv_X0_splice ⟨Nat.le_of_ble_eq_true rfl, Nat.le_of_ble_eq_true rfl⟩) (va_recv hK hP (ci := 0) (q0 := 0) rfl rfl) (hP.sub [0, 1, 2, 3, 4, 5] rfl) (hK.sub [0] rfl) hZ rfl hl.1 rfl (Nat.le_of_ble_eq_true rfl) dL_splice_4 (Nat.le_of_ble_eq_true rfl) (Nat.le_of_ble_eq_true rfl) hS [⟨0, 9, 12, 13⟩] ⟨0, 9, 15, 17⟩ [] (by rw [hTab]; rfl) (List.forall_mem_cons.mpr ⟨Or.inr ⟨by decide, t_IO, hts (.classLink RL 13 t_IO) (by decide +kernel), hNN.2.1⟩, (fun _ h => nomatch h)⟩) (by decide) (by decide) (hts (.classLink RL 17 t_IS) (by decide +kernel)) (Or.inr (Or.inr rfl)) (fun q9 H locs hS => ?_)
  refine lv_astore_n (lv' := [(3, .ref q9), (0, .ref (ad 0)), (1, .int x1), (2, .ref o)]) hx hb dL_splice_15 rfl hl (by decide) rfl (fun ls hl => ?_)
  refine lv_iconst (v := 2) hx hb dL_splice_16 (by decide) ?_
  exact l_retX hx hb hr hlocks hS rfl dL_splice_17

set_option maxHeartbeats 4000000 in
set_option maxRecDepth 100000 in
theorem t_L_splice_3 (l : Launch) (D : va_G) (sa : Nat → Nat) (hst : l.stackTraces = false) (cI cJ : ClassId) (ad : Nat → Nat) (o : Nat) (N : Nat) (w : Int32) (t : Int32) (pa pe : Int32) (f0 f1 f2 f3 f4 : Nat → Int32) (x1 : Int32) (h1a : ¬ x1 < 0) (h1b : x1 < (x_gc w)) (h2a : x_ti f2 f3 x1 = false) (hb3 : ¬ (nI N) < 24) (fo : Nat → Int64) : l_X l yL_splice wsL_splice ({ frames := 8, cells := 1, slots := 6, locals := 134 } : Room) D [(cI, .int), (cJ, .long)] (lw cI cJ ad o (nI N) w t pa pe f0 f1 f2 f3 f4 fo) [.ref (ad 0), .int x1, .ref o] sa 2 := by
  refine l_startX (cc := cL_splice) (maxL := 4) (hh := [(0, 9, 12, 13), (0, 9, 15, 17)]) (by decide) rfl (Nat.le_of_ble_eq_true rfl) ?_
  intro p e s m below meth c hx hb hml hr hts hown hlocks hTab hK hZ hNN H locs ls hP hS hl
  have hl : lv_has ls 4 [(0, .ref (ad 0)), (1, .int x1), (2, .ref o)] := hl
  refine lv_aload_n hx hb dL_splice_0 rfl (lv_at hl 2 rfl) ?_
  refine lv_iconst (v := 0) hx hb dL_splice_1 (by decide) ?_
  refine lv_aload_n hx hb dL_splice_2 rfl (lv_at hl 0 rfl) ?_
  refine lv_iload_n hx hb dL_splice_3 rfl (lv_at hl 1 rfl) ?_
  refine l_callX (As := [.int x1]) (rest := [.int 0, .ref o]) (E := t_IS) ⟨hx, hb, hml, hown, hts⟩ (t_X0_splice_3 l D sa hst cI ad N w t pa pe f0 f1 f2 f3 f4 x1 h1a h1b h2a hb3) (cwV 1 hts gL_splice_X0_splice rfl rfl rfl kv_X0_splice ⟨Nat.le_of_ble_eq_true rfl, Nat.le_of_ble_eq_true rfl⟩) (va_recv hK hP (ci := 0) (q0 := 0) rfl rfl) (hP.sub [0, 1, 2, 3, 4, 5] rfl) (hK.sub [0] rfl) hZ rfl hl.1 rfl (Nat.le_of_ble_eq_true rfl) dL_splice_4 (Nat.le_of_ble_eq_true rfl) (Nat.le_of_ble_eq_true rfl) hS [⟨0, 9, 12, 13⟩] ⟨0, 9, 15, 17⟩ [] (by rw [hTab]; rfl) (List.forall_mem_cons.mpr ⟨Or.inr ⟨by decide, t_IO, hts (.classLink RL 13 t_IO) (by decide +kernel), hNN.2.1⟩, (fun _ h => nomatch h)⟩) (by decide) (by decide) (hts (.classLink RL 17 t_IS) (by decide +kernel)) (Or.inr (Or.inr rfl)) (fun q9 H locs hS => ?_)
  refine lv_astore_n (lv' := [(3, .ref q9), (0, .ref (ad 0)), (1, .int x1), (2, .ref o)]) hx hb dL_splice_15 rfl hl (by decide) rfl (fun ls hl => ?_)
  refine lv_iconst (v := 2) hx hb dL_splice_16 (by decide) ?_
  exact l_retX hx hb hr hlocks hS rfl dL_splice_17

set_option maxHeartbeats 4000000 in
set_option maxRecDepth 100000 in
theorem t_L_splice_4 (l : Launch) (D : va_G) (sa : Nat → Nat) (hst : l.stackTraces = false) (cI cJ : ClassId) (ad : Nat → Nat) (o : Nat) (N : Nat) (w : Int32) (t : Int32) (pa pe : Int32) (f0 f1 f2 f3 f4 : Nat → Int32) (x1 : Int32) (h1a : ¬ x1 < 0) (h1b : x1 < (x_gc w)) (h2a : x_ti f2 f3 x1 = false) (h3a : (nI N) < 24) (hb4 : ¬ 2 ≤ pa) (fo : Nat → Int64) : l_X l yL_splice wsL_splice ({ frames := 8, cells := 1, slots := 6, locals := 135 } : Room) D [(cI, .int), (cJ, .long)] (lw cI cJ ad o (nI N) w t pa pe f0 f1 f2 f3 f4 fo) [.ref (ad 0), .int x1, .ref o] sa 2 := by
  refine l_startX (cc := cL_splice) (maxL := 4) (hh := [(0, 9, 12, 13), (0, 9, 15, 17)]) (by decide) rfl (Nat.le_of_ble_eq_true rfl) ?_
  intro p e s m below meth c hx hb hml hr hts hown hlocks hTab hK hZ hNN H locs ls hP hS hl
  have hl : lv_has ls 4 [(0, .ref (ad 0)), (1, .int x1), (2, .ref o)] := hl
  refine lv_aload_n hx hb dL_splice_0 rfl (lv_at hl 2 rfl) ?_
  refine lv_iconst (v := 0) hx hb dL_splice_1 (by decide) ?_
  refine lv_aload_n hx hb dL_splice_2 rfl (lv_at hl 0 rfl) ?_
  refine lv_iload_n hx hb dL_splice_3 rfl (lv_at hl 1 rfl) ?_
  refine l_callX (As := [.int x1]) (rest := [.int 0, .ref o]) (E := t_IS) ⟨hx, hb, hml, hown, hts⟩ (t_X0_splice_4 l D sa hst cI ad N w t pa pe f0 f1 f2 f3 f4 x1 h1a h1b h2a h3a hb4) (cwV 1 hts gL_splice_X0_splice rfl rfl rfl kv_X0_splice ⟨Nat.le_of_ble_eq_true rfl, Nat.le_of_ble_eq_true rfl⟩) (va_recv hK hP (ci := 0) (q0 := 0) rfl rfl) (hP.sub [0, 1, 2, 3, 4, 5] rfl) (hK.sub [0] rfl) hZ rfl hl.1 rfl (Nat.le_of_ble_eq_true rfl) dL_splice_4 (Nat.le_of_ble_eq_true rfl) (Nat.le_of_ble_eq_true rfl) hS [⟨0, 9, 12, 13⟩] ⟨0, 9, 15, 17⟩ [] (by rw [hTab]; rfl) (List.forall_mem_cons.mpr ⟨Or.inr ⟨by decide, t_IO, hts (.classLink RL 13 t_IO) (by decide +kernel), hNN.2.1⟩, (fun _ h => nomatch h)⟩) (by decide) (by decide) (hts (.classLink RL 17 t_IS) (by decide +kernel)) (Or.inr (Or.inr rfl)) (fun q9 H locs hS => ?_)
  refine lv_astore_n (lv' := [(3, .ref q9), (0, .ref (ad 0)), (1, .int x1), (2, .ref o)]) hx hb dL_splice_15 rfl hl (by decide) rfl (fun ls hl => ?_)
  refine lv_iconst (v := 2) hx hb dL_splice_16 (by decide) ?_
  exact l_retX hx hb hr hlocks hS rfl dL_splice_17

theorem kq_L_rest : yL_rest.cls ≠ "java/lang/invoke/MethodHandle" ∧ yL_rest.cls ≠ "java/lang/invoke/VarHandle" ∧ (parseMethodDescriptor yL_rest.desc).map (fun d => d.parameters.length) = some 3 := by decide +kernel
set_option maxHeartbeats 4000000 in
set_option maxRecDepth 100000 in
theorem c_L_rest (l : Launch) (D : va_G) (cI cJ : ClassId) (ad : Nat → Nat) (o : Nat) (n : Int32) (w : Int32) (t : Int32) (pa pe : Int32) (f0 f1 f2 f3 f4 : Nat → Int32) (x1 : Int32) (h1a : ¬ x1 < 1) (h1b : x1 ≤ 60) (fo : Nat → Int64) : m_I l yL_rest wsL_rest ({ frames := 2, cells := 0, slots := 0, locals := 42 } : Room) D [(cI, .int), (cJ, .long)] (lw cI cJ ad o n w t pa pe f0 f1 f2 f3 f4 fo) [.ref (ad 0), .int x1, .ref o] 0 (lw cI cJ ad o n w t (i_min 99 (pa + x1)) pe f0 f1 f2 f3 f4 (vp_updL fo 0 (((i_min 99 (pa + x1))).toInt64))) := by
  refine l_startI (cc := cL_rest) (maxL := 4) (hh := [(0, 9, 12, 15)]) (by decide) rfl (Nat.le_of_ble_eq_true rfl) ?_
  intro p e s m below meth c A hx hb hml hr hts hown hlocks hK hA H locs ls hP hD hS hl
  have hl : lv_has ls 4 [(0, .ref (ad 0)), (1, .int x1), (2, .ref o)] := hl
  refine lv_aload_n hx hb dL_rest_0 rfl (lv_at hl 2 rfl) ?_
  refine lv_iconst (v := 0) hx hb dL_rest_1 (by decide) ?_
  refine lv_aload_n hx hb dL_rest_2 rfl (lv_at hl 0 rfl) ?_
  refine lv_iload_n hx hb dL_rest_3 rfl (lv_at hl 1 rfl) ?_
  refine m_callVI (As := [.int x1]) (rest := [.int 0, .ref o]) (Wr := [(o, .inl (cJ, 1, .inr (.inl fo)))]) (W2 := (lw cI cJ ad o n w t (i_min 99 (pa + x1)) pe f0 f1 f2 f3 f4 fo)) ⟨hx, hb, hml, hown, hts⟩ (c_X0_rest l D cI ad n w t pa pe f0 f1 f2 f3 f4 x1 h1a h1b) (cwV 1 hts gL_rest_X0_rest rfl rfl rfl kv_X0_rest ⟨Nat.le_of_ble_eq_true rfl, Nat.le_of_ble_eq_true rfl⟩) (va_recv hK hP (ci := 0) (q0 := 0) rfl rfl) hP hD (hK.sub [0] rfl) hA [0, 1, 2, 3, 4, 5] [6] [1, 2, 3, 4, 5, 6, 0] rfl rfl rfl rfl rfl (by decide) rfl rfl rfl hl.1 rfl (Nat.le_of_ble_eq_true rfl) dL_rest_4 (Nat.zero_le _) (Nat.zero_le _) hS (fun H locs hP hS => ?_)
  have hD : va_D A (lw cI cJ ad o n w t (i_min 99 (pa + x1)) pe f0 f1 f2 f3 f4 fo) := q_Dc (L := [ad 0, ad 1, ad 2, ad 3, ad 4, ad 5, o]) hD rfl rfl
  refine lv_i2l (v := ((i_min 99 (pa + x1))).toInt64) hx hb dL_rest_7 rfl ?_
  refine va_last hx hb hK hP hD hS 6 1 rfl rfl (vp_in_nI (n := 0) (by decide) (by decide)) dL_rest_8 (fun H locs hP hD hS => ?_)
  have hP : va_P D vwCl (lw cI cJ ad o n w t (i_min 99 (pa + x1)) pe f0 f1 f2 f3 f4 (vp_updL fo 0 (((i_min 99 (pa + x1))).toInt64))) H := hP
  refine lv_goto (tgt := 15) hx hb dL_rest_9 (by decide) ?_
  refine lv_iconst (v := 0) hx hb dL_rest_15 (by decide) ?_
  exact m_retI hx hb hr hlocks hS hP rfl dL_rest_16

set_option maxHeartbeats 4000000 in
set_option maxRecDepth 100000 in
theorem t_L_rest_1 (l : Launch) (D : va_G) (sa : Nat → Nat) (hst : l.stackTraces = false) (cI cJ : ClassId) (ad : Nat → Nat) (o : Nat) (n : Int32) (w : Int32) (t : Int32) (pa pe : Int32) (f0 f1 f2 f3 f4 : Nat → Int32) (x1 : Int32) (hb1 : x1 < 1 ∨ ¬ x1 ≤ 60) (fo : Nat → Int64) : l_X l yL_rest wsL_rest ({ frames := 7, cells := 1, slots := 6, locals := 111 } : Room) D [(cI, .int), (cJ, .long)] (lw cI cJ ad o n w t pa pe f0 f1 f2 f3 f4 fo) [.ref (ad 0), .int x1, .ref o] sa 1 := by
  refine l_startX (cc := cL_rest) (maxL := 4) (hh := [(0, 9, 12, 15)]) (by decide) rfl (Nat.le_of_ble_eq_true rfl) ?_
  intro p e s m below meth c hx hb hml hr hts hown hlocks hTab hK hZ hNN H locs ls hP hS hl
  have hl : lv_has ls 4 [(0, .ref (ad 0)), (1, .int x1), (2, .ref o)] := hl
  refine lv_aload_n hx hb dL_rest_0 rfl (lv_at hl 2 rfl) ?_
  refine lv_iconst (v := 0) hx hb dL_rest_1 (by decide) ?_
  refine lv_aload_n hx hb dL_rest_2 rfl (lv_at hl 0 rfl) ?_
  refine lv_iload_n hx hb dL_rest_3 rfl (lv_at hl 1 rfl) ?_
  refine l_callX (As := [.int x1]) (rest := [.int 0, .ref o]) (E := t_IA) ⟨hx, hb, hml, hown, hts⟩ (t_X0_rest_1 l D sa hst cI ad n w t pa pe f0 f1 f2 f3 f4 x1 hb1) (cwV 1 hts gL_rest_X0_rest rfl rfl rfl kv_X0_rest ⟨Nat.le_of_ble_eq_true rfl, Nat.le_of_ble_eq_true rfl⟩) (va_recv hK hP (ci := 0) (q0 := 0) rfl rfl) (hP.sub [0, 1, 2, 3, 4, 5] rfl) (hK.sub [0] rfl) hZ rfl hl.1 rfl (Nat.le_of_ble_eq_true rfl) dL_rest_4 (Nat.le_of_ble_eq_true rfl) (Nat.le_of_ble_eq_true rfl) hS [] ⟨0, 9, 12, 15⟩ [] (by rw [hTab]; rfl) (fun _ h => nomatch h) (by decide) (by decide) (hts (.classLink RL 15 t_IA) (by decide +kernel)) (Or.inr (Or.inl rfl)) (fun q9 H locs hS => ?_)
  refine lv_astore_n (lv' := [(3, .ref q9), (0, .ref (ad 0)), (1, .int x1), (2, .ref o)]) hx hb dL_rest_12 rfl hl (by decide) rfl (fun ls hl => ?_)
  refine lv_iconst (v := 1) hx hb dL_rest_13 (by decide) ?_
  exact l_retX hx hb hr hlocks hS rfl dL_rest_14

theorem kq_L_isCough : yL_isCough.cls ≠ "java/lang/invoke/MethodHandle" ∧ yL_isCough.cls ≠ "java/lang/invoke/VarHandle" ∧ (parseMethodDescriptor yL_isCough.desc).map (fun d => d.parameters.length) = some 3 := by decide +kernel
set_option maxHeartbeats 4000000 in
set_option maxRecDepth 100000 in
theorem c_L_isCough (l : Launch) (D : va_G) (cI cJ : ClassId) (ad : Nat → Nat) (o : Nat) (n : Int32) (w : Int32) (t : Int32) (pa pe : Int32) (f0 f1 f2 f3 f4 : Nat → Int32) (x1 : Int32) (h1a : ¬ x1 < 0) (h1b : x1 < n) (fo : Nat → Int64) : m_I l yL_isCough wsL_isCough ({ frames := 3, cells := 0, slots := 0, locals := 63 } : Room) D [(cI, .int), (cJ, .long)] (lw cI cJ ad o n w t pa pe f0 f1 f2 f3 f4 fo) [.ref (ad 0), .int x1, .ref o] 0 (lw cI cJ ad o n w t pa pe f0 f1 f2 f3 f4 (vp_updL fo 0 (bL (x_cs f1 x1)))) := by
  refine l_startI (cc := cL_isCough) (maxL := 4) (hh := [(0, 16, 19, 13)]) (by decide) rfl (Nat.le_of_ble_eq_true rfl) ?_
  intro p e s m below meth c A hx hb hml hr hts hown hlocks hK hA H locs ls hP hD hS hl
  have hl : lv_has ls 4 [(0, .ref (ad 0)), (1, .int x1), (2, .ref o)] := hl
  refine lv_aload_n hx hb dL_isCough_0 rfl (lv_at hl 2 rfl) ?_
  refine lv_iconst (v := 0) hx hb dL_isCough_1 (by decide) ?_
  refine lv_aload_n hx hb dL_isCough_2 rfl (lv_at hl 0 rfl) ?_
  refine lv_iload_n hx hb dL_isCough_3 rfl (lv_at hl 1 rfl) ?_
  refine q_callV (As := [.int x1]) (rest := [.int 0, .ref o]) ⟨hx, hb, hml, hown, hts⟩ (c_X0_isCough l D cI ad n w t pa pe f0 f1 f2 f3 f4 x1 h1a h1b) (cwV 1 hts gL_isCough_X0_isCough rfl rfl rfl kv_X0_isCough ⟨Nat.le_of_ble_eq_true rfl, Nat.le_of_ble_eq_true rfl⟩) (va_recv hK hP (ci := 0) (q0 := 0) rfl rfl) (hP.sub [0, 1, 2, 3, 4, 5] rfl) (hK.sub [0] rfl) rfl hl.1 rfl (Nat.le_of_ble_eq_true rfl) dL_isCough_4 (Nat.zero_le _) (Nat.zero_le _) hS (fun H locs hsm hS => ?_)
  have hP := hsm.P hP
  suffices K : ∀ v9 : Int64, v9 = bL (x_cs f1 x1) → W p l e ({ frames := 3, cells := 0, slots := 0, locals := 63 } : Room) s m [.ref (ad 0), .int x1, .ref o].toArray below meth c H locs 0 0 (m_EI D below [.ref (ad 0), .int x1, .ref o].toArray s 0 (lw cI cJ ad o n w t pa pe f0 f1 f2 f3 f4 (vp_updL fo 0 (bL (x_cs f1 x1)))) A) (F0 m 15 ls [.long v9, .int 0, .ref o]) from by
    refine lv_if_eq (tgt := 14) hx hb dL_isCough_7 (by decide) (fun h9 => ?_) (fun h9 => ?_)
    · refine lv_lconst (v := 0) hx hb dL_isCough_14 (by decide) ?_
      exact K _ (by rw [bI_0.mp h9]; rfl)
    · refine lv_lconst (v := 1) hx hb dL_isCough_10 (by decide) ?_
      refine lv_goto (tgt := 15) hx hb dL_isCough_11 (by decide) ?_
      exact K _ (by rw [bI_n0.mp h9]; rfl)
  intro v9 hv9
  rw [hv9]; clear hv9
  refine va_last hx hb hK hP hD hS 6 1 rfl rfl (vp_in_nI (n := 0) (by decide) (by decide)) dL_isCough_15 (fun H locs hP hD hS => ?_)
  have hP : va_P D vwCl (lw cI cJ ad o n w t pa pe f0 f1 f2 f3 f4 (vp_updL fo 0 (bL (x_cs f1 x1)))) H := hP
  refine lv_goto (tgt := 22) hx hb dL_isCough_16 (by decide) ?_
  refine lv_iconst (v := 0) hx hb dL_isCough_22 (by decide) ?_
  exact m_retI hx hb hr hlocks hS hP rfl dL_isCough_23

set_option maxHeartbeats 4000000 in
set_option maxRecDepth 100000 in
theorem t_L_isCough_1 (l : Launch) (D : va_G) (sa : Nat → Nat) (hst : l.stackTraces = false) (cI cJ : ClassId) (ad : Nat → Nat) (o : Nat) (n : Int32) (w : Int32) (t : Int32) (pa pe : Int32) (f0 f1 f2 f3 f4 : Nat → Int32) (x1 : Int32) (hb1 : x1 < 0 ∨ ¬ x1 < n) (fo : Nat → Int64) : l_X l yL_isCough wsL_isCough ({ frames := 8, cells := 1, slots := 6, locals := 132 } : Room) D [(cI, .int), (cJ, .long)] (lw cI cJ ad o n w t pa pe f0 f1 f2 f3 f4 fo) [.ref (ad 0), .int x1, .ref o] sa 1 := by
  refine l_startX (cc := cL_isCough) (maxL := 4) (hh := [(0, 16, 19, 13)]) (by decide) rfl (Nat.le_of_ble_eq_true rfl) ?_
  intro p e s m below meth c hx hb hml hr hts hown hlocks hTab hK hZ hNN H locs ls hP hS hl
  have hl : lv_has ls 4 [(0, .ref (ad 0)), (1, .int x1), (2, .ref o)] := hl
  refine lv_aload_n hx hb dL_isCough_0 rfl (lv_at hl 2 rfl) ?_
  refine lv_iconst (v := 0) hx hb dL_isCough_1 (by decide) ?_
  refine lv_aload_n hx hb dL_isCough_2 rfl (lv_at hl 0 rfl) ?_
  refine lv_iload_n hx hb dL_isCough_3 rfl (lv_at hl 1 rfl) ?_
  refine l_callX (As := [.int x1]) (rest := [.int 0, .ref o]) (E := t_IO) ⟨hx, hb, hml, hown, hts⟩ (t_X0_isCough_1 l D sa hst cI ad n w t pa pe f0 f1 f2 f3 f4 x1 hb1) (cwV 1 hts gL_isCough_X0_isCough rfl rfl rfl kv_X0_isCough ⟨Nat.le_of_ble_eq_true rfl, Nat.le_of_ble_eq_true rfl⟩) (va_recv hK hP (ci := 0) (q0 := 0) rfl rfl) (hP.sub [0, 1, 2, 3, 4, 5] rfl) (hK.sub [0] rfl) hZ rfl hl.1 rfl (Nat.le_of_ble_eq_true rfl) dL_isCough_4 (Nat.le_of_ble_eq_true rfl) (Nat.le_of_ble_eq_true rfl) hS [] ⟨0, 16, 19, 13⟩ [] (by rw [hTab]; rfl) (fun _ h => nomatch h) (by decide) (by decide) (hts (.classLink RL 13 t_IO) (by decide +kernel)) (Or.inl rfl) (fun q9 H locs hS => ?_)
  refine lv_astore_n (lv' := [(3, .ref q9), (0, .ref (ad 0)), (1, .int x1), (2, .ref o)]) hx hb dL_isCough_19 rfl hl (by decide) rfl (fun ls hl => ?_)
  refine lv_iconst (v := 1) hx hb dL_isCough_20 (by decide) ?_
  exact l_retX hx hb hr hlocks hS rfl dL_isCough_21

theorem kq_L_speakerAt : yL_speakerAt.cls ≠ "java/lang/invoke/MethodHandle" ∧ yL_speakerAt.cls ≠ "java/lang/invoke/VarHandle" ∧ (parseMethodDescriptor yL_speakerAt.desc).map (fun d => d.parameters.length) = some 3 := by decide +kernel
set_option maxHeartbeats 4000000 in
set_option maxRecDepth 100000 in
theorem c_L_speakerAt (l : Launch) (D : va_G) (cI cJ : ClassId) (ad : Nat → Nat) (o : Nat) (n : Int32) (w : Int32) (t : Int32) (pa pe : Int32) (f0 f1 f2 f3 f4 : Nat → Int32) (x1 : Int32) (h1a : ¬ x1 < 0) (h1b : x1 < n) (fo : Nat → Int64) : m_I l yL_speakerAt wsL_speakerAt ({ frames := 2, cells := 0, slots := 0, locals := 42 } : Room) D [(cI, .int), (cJ, .long)] (lw cI cJ ad o n w t pa pe f0 f1 f2 f3 f4 fo) [.ref (ad 0), .int x1, .ref o] 0 (lw cI cJ ad o n w t pa pe f0 f1 f2 f3 f4 (vp_updL fo 0 (((rd f0 x1)).toInt64))) := by
  refine l_startI (cc := cL_speakerAt) (maxL := 4) (hh := [(0, 9, 12, 13)]) (by decide) rfl (Nat.le_of_ble_eq_true rfl) ?_
  intro p e s m below meth c A hx hb hml hr hts hown hlocks hK hA H locs ls hP hD hS hl
  have hl : lv_has ls 4 [(0, .ref (ad 0)), (1, .int x1), (2, .ref o)] := hl
  refine lv_aload_n hx hb dL_speakerAt_0 rfl (lv_at hl 2 rfl) ?_
  refine lv_iconst (v := 0) hx hb dL_speakerAt_1 (by decide) ?_
  refine lv_aload_n hx hb dL_speakerAt_2 rfl (lv_at hl 0 rfl) ?_
  refine lv_iload_n hx hb dL_speakerAt_3 rfl (lv_at hl 1 rfl) ?_
  refine q_callV (As := [.int x1]) (rest := [.int 0, .ref o]) ⟨hx, hb, hml, hown, hts⟩ (c_X0_speakerAt l D cI ad n w t pa pe f0 f1 f2 f3 f4 x1 h1a h1b) (cwV 1 hts gL_speakerAt_X0_speakerAt rfl rfl rfl kv_X0_speakerAt ⟨Nat.le_of_ble_eq_true rfl, Nat.le_of_ble_eq_true rfl⟩) (va_recv hK hP (ci := 0) (q0 := 0) rfl rfl) (hP.sub [0, 1, 2, 3, 4, 5] rfl) (hK.sub [0] rfl) rfl hl.1 rfl (Nat.le_of_ble_eq_true rfl) dL_speakerAt_4 (Nat.zero_le _) (Nat.zero_le _) hS (fun H locs hsm hS => ?_)
  have hP := hsm.P hP
  refine lv_i2l (v := ((rd f0 x1)).toInt64) hx hb dL_speakerAt_7 rfl ?_
  refine va_last hx hb hK hP hD hS 6 1 rfl rfl (vp_in_nI (n := 0) (by decide) (by decide)) dL_speakerAt_8 (fun H locs hP hD hS => ?_)
  have hP : va_P D vwCl (lw cI cJ ad o n w t pa pe f0 f1 f2 f3 f4 (vp_updL fo 0 (((rd f0 x1)).toInt64))) H := hP
  refine lv_goto (tgt := 15) hx hb dL_speakerAt_9 (by decide) ?_
  refine lv_iconst (v := 0) hx hb dL_speakerAt_15 (by decide) ?_
  exact m_retI hx hb hr hlocks hS hP rfl dL_speakerAt_16

set_option maxHeartbeats 4000000 in
set_option maxRecDepth 100000 in
theorem t_L_speakerAt_1 (l : Launch) (D : va_G) (sa : Nat → Nat) (hst : l.stackTraces = false) (cI cJ : ClassId) (ad : Nat → Nat) (o : Nat) (n : Int32) (w : Int32) (t : Int32) (pa pe : Int32) (f0 f1 f2 f3 f4 : Nat → Int32) (x1 : Int32) (hb1 : x1 < 0 ∨ ¬ x1 < n) (fo : Nat → Int64) : l_X l yL_speakerAt wsL_speakerAt ({ frames := 8, cells := 1, slots := 6, locals := 132 } : Room) D [(cI, .int), (cJ, .long)] (lw cI cJ ad o n w t pa pe f0 f1 f2 f3 f4 fo) [.ref (ad 0), .int x1, .ref o] sa 1 := by
  refine l_startX (cc := cL_speakerAt) (maxL := 4) (hh := [(0, 9, 12, 13)]) (by decide) rfl (Nat.le_of_ble_eq_true rfl) ?_
  intro p e s m below meth c hx hb hml hr hts hown hlocks hTab hK hZ hNN H locs ls hP hS hl
  have hl : lv_has ls 4 [(0, .ref (ad 0)), (1, .int x1), (2, .ref o)] := hl
  refine lv_aload_n hx hb dL_speakerAt_0 rfl (lv_at hl 2 rfl) ?_
  refine lv_iconst (v := 0) hx hb dL_speakerAt_1 (by decide) ?_
  refine lv_aload_n hx hb dL_speakerAt_2 rfl (lv_at hl 0 rfl) ?_
  refine lv_iload_n hx hb dL_speakerAt_3 rfl (lv_at hl 1 rfl) ?_
  refine l_callX (As := [.int x1]) (rest := [.int 0, .ref o]) (E := t_IO) ⟨hx, hb, hml, hown, hts⟩ (t_X0_speakerAt_1 l D sa hst cI ad n w t pa pe f0 f1 f2 f3 f4 x1 hb1) (cwV 1 hts gL_speakerAt_X0_speakerAt rfl rfl rfl kv_X0_speakerAt ⟨Nat.le_of_ble_eq_true rfl, Nat.le_of_ble_eq_true rfl⟩) (va_recv hK hP (ci := 0) (q0 := 0) rfl rfl) (hP.sub [0, 1, 2, 3, 4, 5] rfl) (hK.sub [0] rfl) hZ rfl hl.1 rfl (Nat.le_of_ble_eq_true rfl) dL_speakerAt_4 (Nat.le_of_ble_eq_true rfl) (Nat.le_of_ble_eq_true rfl) hS [] ⟨0, 9, 12, 13⟩ [] (by rw [hTab]; rfl) (fun _ h => nomatch h) (by decide) (by decide) (hts (.classLink RL 13 t_IO) (by decide +kernel)) (Or.inl rfl) (fun q9 H locs hS => ?_)
  refine lv_astore_n (lv' := [(3, .ref q9), (0, .ref (ad 0)), (1, .int x1), (2, .ref o)]) hx hb dL_speakerAt_12 rfl hl (by decide) rfl (fun ls hl => ?_)
  refine lv_iconst (v := 1) hx hb dL_speakerAt_13 (by decide) ?_
  exact l_retX hx hb hr hlocks hS rfl dL_speakerAt_14

theorem kq_L_placeOf : yL_placeOf.cls ≠ "java/lang/invoke/MethodHandle" ∧ yL_placeOf.cls ≠ "java/lang/invoke/VarHandle" ∧ (parseMethodDescriptor yL_placeOf.desc).map (fun d => d.parameters.length) = some 3 := by decide +kernel
set_option maxHeartbeats 4000000 in
set_option maxRecDepth 100000 in
theorem c_L_placeOf (l : Launch) (D : va_G) (cI cJ : ClassId) (ad : Nat → Nat) (o : Nat) (n : Int32) (w : Int32) (t : Int32) (pa pe : Int32) (f0 f1 f2 f3 f4 : Nat → Int32) (x1 : Int32) (h1a : ¬ x1 < 0) (h1b : x1 < w) (fo : Nat → Int64) : m_I l yL_placeOf wsL_placeOf ({ frames := 2, cells := 0, slots := 0, locals := 42 } : Room) D [(cI, .int), (cJ, .long)] (lw cI cJ ad o n w t pa pe f0 f1 f2 f3 f4 fo) [.ref (ad 0), .int x1, .ref o] 0 (lw cI cJ ad o n w t pa pe f0 f1 f2 f3 f4 (vp_updL fo 0 (((rd f3 x1)).toInt64))) := by
  refine l_startI (cc := cL_placeOf) (maxL := 4) (hh := [(0, 9, 12, 13)]) (by decide) rfl (Nat.le_of_ble_eq_true rfl) ?_
  intro p e s m below meth c A hx hb hml hr hts hown hlocks hK hA H locs ls hP hD hS hl
  have hl : lv_has ls 4 [(0, .ref (ad 0)), (1, .int x1), (2, .ref o)] := hl
  refine lv_aload_n hx hb dL_placeOf_0 rfl (lv_at hl 2 rfl) ?_
  refine lv_iconst (v := 0) hx hb dL_placeOf_1 (by decide) ?_
  refine lv_aload_n hx hb dL_placeOf_2 rfl (lv_at hl 0 rfl) ?_
  refine lv_iload_n hx hb dL_placeOf_3 rfl (lv_at hl 1 rfl) ?_
  refine q_callV (As := [.int x1]) (rest := [.int 0, .ref o]) ⟨hx, hb, hml, hown, hts⟩ (c_X0_placeOf l D cI ad n w t pa pe f0 f1 f2 f3 f4 x1 h1a h1b) (cwV 1 hts gL_placeOf_X0_placeOf rfl rfl rfl kv_X0_placeOf ⟨Nat.le_of_ble_eq_true rfl, Nat.le_of_ble_eq_true rfl⟩) (va_recv hK hP (ci := 0) (q0 := 0) rfl rfl) (hP.sub [0, 1, 2, 3, 4, 5] rfl) (hK.sub [0] rfl) rfl hl.1 rfl (Nat.le_of_ble_eq_true rfl) dL_placeOf_4 (Nat.zero_le _) (Nat.zero_le _) hS (fun H locs hsm hS => ?_)
  have hP := hsm.P hP
  refine lv_i2l (v := ((rd f3 x1)).toInt64) hx hb dL_placeOf_7 rfl ?_
  refine va_last hx hb hK hP hD hS 6 1 rfl rfl (vp_in_nI (n := 0) (by decide) (by decide)) dL_placeOf_8 (fun H locs hP hD hS => ?_)
  have hP : va_P D vwCl (lw cI cJ ad o n w t pa pe f0 f1 f2 f3 f4 (vp_updL fo 0 (((rd f3 x1)).toInt64))) H := hP
  refine lv_goto (tgt := 15) hx hb dL_placeOf_9 (by decide) ?_
  refine lv_iconst (v := 0) hx hb dL_placeOf_15 (by decide) ?_
  exact m_retI hx hb hr hlocks hS hP rfl dL_placeOf_16

set_option maxHeartbeats 4000000 in
set_option maxRecDepth 100000 in
theorem t_L_placeOf_1 (l : Launch) (D : va_G) (sa : Nat → Nat) (hst : l.stackTraces = false) (cI cJ : ClassId) (ad : Nat → Nat) (o : Nat) (n : Int32) (w : Int32) (t : Int32) (pa pe : Int32) (f0 f1 f2 f3 f4 : Nat → Int32) (x1 : Int32) (hb1 : x1 < 0 ∨ ¬ x1 < w) (fo : Nat → Int64) : l_X l yL_placeOf wsL_placeOf ({ frames := 8, cells := 1, slots := 6, locals := 132 } : Room) D [(cI, .int), (cJ, .long)] (lw cI cJ ad o n w t pa pe f0 f1 f2 f3 f4 fo) [.ref (ad 0), .int x1, .ref o] sa 1 := by
  refine l_startX (cc := cL_placeOf) (maxL := 4) (hh := [(0, 9, 12, 13)]) (by decide) rfl (Nat.le_of_ble_eq_true rfl) ?_
  intro p e s m below meth c hx hb hml hr hts hown hlocks hTab hK hZ hNN H locs ls hP hS hl
  have hl : lv_has ls 4 [(0, .ref (ad 0)), (1, .int x1), (2, .ref o)] := hl
  refine lv_aload_n hx hb dL_placeOf_0 rfl (lv_at hl 2 rfl) ?_
  refine lv_iconst (v := 0) hx hb dL_placeOf_1 (by decide) ?_
  refine lv_aload_n hx hb dL_placeOf_2 rfl (lv_at hl 0 rfl) ?_
  refine lv_iload_n hx hb dL_placeOf_3 rfl (lv_at hl 1 rfl) ?_
  refine l_callX (As := [.int x1]) (rest := [.int 0, .ref o]) (E := t_IO) ⟨hx, hb, hml, hown, hts⟩ (t_X0_placeOf_1 l D sa hst cI ad n w t pa pe f0 f1 f2 f3 f4 x1 hb1) (cwV 1 hts gL_placeOf_X0_placeOf rfl rfl rfl kv_X0_placeOf ⟨Nat.le_of_ble_eq_true rfl, Nat.le_of_ble_eq_true rfl⟩) (va_recv hK hP (ci := 0) (q0 := 0) rfl rfl) (hP.sub [0, 1, 2, 3, 4, 5] rfl) (hK.sub [0] rfl) hZ rfl hl.1 rfl (Nat.le_of_ble_eq_true rfl) dL_placeOf_4 (Nat.le_of_ble_eq_true rfl) (Nat.le_of_ble_eq_true rfl) hS [] ⟨0, 9, 12, 13⟩ [] (by rw [hTab]; rfl) (fun _ h => nomatch h) (by decide) (by decide) (hts (.classLink RL 13 t_IO) (by decide +kernel)) (Or.inl rfl) (fun q9 H locs hS => ?_)
  refine lv_astore_n (lv' := [(3, .ref q9), (0, .ref (ad 0)), (1, .int x1), (2, .ref o)]) hx hb dL_placeOf_12 rfl hl (by decide) rfl (fun ls hl => ?_)
  refine lv_iconst (v := 1) hx hb dL_placeOf_13 (by decide) ?_
  exact l_retX hx hb hr hlocks hS rfl dL_placeOf_14

theorem kq_L_topicOf : yL_topicOf.cls ≠ "java/lang/invoke/MethodHandle" ∧ yL_topicOf.cls ≠ "java/lang/invoke/VarHandle" ∧ (parseMethodDescriptor yL_topicOf.desc).map (fun d => d.parameters.length) = some 3 := by decide +kernel
set_option maxHeartbeats 4000000 in
set_option maxRecDepth 100000 in
theorem c_L_topicOf (l : Launch) (D : va_G) (cI cJ : ClassId) (ad : Nat → Nat) (o : Nat) (n : Int32) (w : Int32) (t : Int32) (pa pe : Int32) (f0 f1 f2 f3 f4 : Nat → Int32) (x1 : Int32) (h1a : ¬ x1 < 0) (h1b : x1 < w) (fo : Nat → Int64) : m_I l yL_topicOf wsL_topicOf ({ frames := 3, cells := 0, slots := 0, locals := 63 } : Room) D [(cI, .int), (cJ, .long)] (lw cI cJ ad o n w t pa pe f0 f1 f2 f3 f4 fo) [.ref (ad 0), .int x1, .ref o] 0 (lw cI cJ ad o n w t pa pe f0 f1 f2 f3 f4 (vp_updL fo 0 (((x_tp f1 f3 x1)).toInt64))) := by
  refine l_startI (cc := cL_topicOf) (maxL := 4) (hh := [(0, 9, 12, 13)]) (by decide) rfl (Nat.le_of_ble_eq_true rfl) ?_
  intro p e s m below meth c A hx hb hml hr hts hown hlocks hK hA H locs ls hP hD hS hl
  have hl : lv_has ls 4 [(0, .ref (ad 0)), (1, .int x1), (2, .ref o)] := hl
  refine lv_aload_n hx hb dL_topicOf_0 rfl (lv_at hl 2 rfl) ?_
  refine lv_iconst (v := 0) hx hb dL_topicOf_1 (by decide) ?_
  refine lv_aload_n hx hb dL_topicOf_2 rfl (lv_at hl 0 rfl) ?_
  refine lv_iload_n hx hb dL_topicOf_3 rfl (lv_at hl 1 rfl) ?_
  refine q_callV (As := [.int x1]) (rest := [.int 0, .ref o]) ⟨hx, hb, hml, hown, hts⟩ (c_X0_topicOf l D cI ad n w t pa pe f0 f1 f2 f3 f4 x1 h1a h1b) (cwV 1 hts gL_topicOf_X0_topicOf rfl rfl rfl kv_X0_topicOf ⟨Nat.le_of_ble_eq_true rfl, Nat.le_of_ble_eq_true rfl⟩) (va_recv hK hP (ci := 0) (q0 := 0) rfl rfl) (hP.sub [0, 1, 2, 3, 4, 5] rfl) (hK.sub [0] rfl) rfl hl.1 rfl (Nat.le_of_ble_eq_true rfl) dL_topicOf_4 (Nat.zero_le _) (Nat.zero_le _) hS (fun H locs hsm hS => ?_)
  have hP := hsm.P hP
  refine lv_i2l (v := ((x_tp f1 f3 x1)).toInt64) hx hb dL_topicOf_7 rfl ?_
  refine va_last hx hb hK hP hD hS 6 1 rfl rfl (vp_in_nI (n := 0) (by decide) (by decide)) dL_topicOf_8 (fun H locs hP hD hS => ?_)
  have hP : va_P D vwCl (lw cI cJ ad o n w t pa pe f0 f1 f2 f3 f4 (vp_updL fo 0 (((x_tp f1 f3 x1)).toInt64))) H := hP
  refine lv_goto (tgt := 15) hx hb dL_topicOf_9 (by decide) ?_
  refine lv_iconst (v := 0) hx hb dL_topicOf_15 (by decide) ?_
  exact m_retI hx hb hr hlocks hS hP rfl dL_topicOf_16

set_option maxHeartbeats 4000000 in
set_option maxRecDepth 100000 in
theorem t_L_topicOf_1 (l : Launch) (D : va_G) (sa : Nat → Nat) (hst : l.stackTraces = false) (cI cJ : ClassId) (ad : Nat → Nat) (o : Nat) (n : Int32) (w : Int32) (t : Int32) (pa pe : Int32) (f0 f1 f2 f3 f4 : Nat → Int32) (x1 : Int32) (hb1 : x1 < 0 ∨ ¬ x1 < w) (fo : Nat → Int64) : l_X l yL_topicOf wsL_topicOf ({ frames := 8, cells := 1, slots := 6, locals := 132 } : Room) D [(cI, .int), (cJ, .long)] (lw cI cJ ad o n w t pa pe f0 f1 f2 f3 f4 fo) [.ref (ad 0), .int x1, .ref o] sa 1 := by
  refine l_startX (cc := cL_topicOf) (maxL := 4) (hh := [(0, 9, 12, 13)]) (by decide) rfl (Nat.le_of_ble_eq_true rfl) ?_
  intro p e s m below meth c hx hb hml hr hts hown hlocks hTab hK hZ hNN H locs ls hP hS hl
  have hl : lv_has ls 4 [(0, .ref (ad 0)), (1, .int x1), (2, .ref o)] := hl
  refine lv_aload_n hx hb dL_topicOf_0 rfl (lv_at hl 2 rfl) ?_
  refine lv_iconst (v := 0) hx hb dL_topicOf_1 (by decide) ?_
  refine lv_aload_n hx hb dL_topicOf_2 rfl (lv_at hl 0 rfl) ?_
  refine lv_iload_n hx hb dL_topicOf_3 rfl (lv_at hl 1 rfl) ?_
  refine l_callX (As := [.int x1]) (rest := [.int 0, .ref o]) (E := t_IO) ⟨hx, hb, hml, hown, hts⟩ (t_X0_topicOf_1 l D sa hst cI ad n w t pa pe f0 f1 f2 f3 f4 x1 hb1) (cwV 1 hts gL_topicOf_X0_topicOf rfl rfl rfl kv_X0_topicOf ⟨Nat.le_of_ble_eq_true rfl, Nat.le_of_ble_eq_true rfl⟩) (va_recv hK hP (ci := 0) (q0 := 0) rfl rfl) (hP.sub [0, 1, 2, 3, 4, 5] rfl) (hK.sub [0] rfl) hZ rfl hl.1 rfl (Nat.le_of_ble_eq_true rfl) dL_topicOf_4 (Nat.le_of_ble_eq_true rfl) (Nat.le_of_ble_eq_true rfl) hS [] ⟨0, 9, 12, 13⟩ [] (by rw [hTab]; rfl) (fun _ h => nomatch h) (by decide) (by decide) (hts (.classLink RL 13 t_IO) (by decide +kernel)) (Or.inl rfl) (fun q9 H locs hS => ?_)
  refine lv_astore_n (lv' := [(3, .ref q9), (0, .ref (ad 0)), (1, .int x1), (2, .ref o)]) hx hb dL_topicOf_12 rfl hl (by decide) rfl (fun ls hl => ?_)
  refine lv_iconst (v := 1) hx hb dL_topicOf_13 (by decide) ?_
  exact l_retX hx hb hr hlocks hS rfl dL_topicOf_14

theorem kq_L_wordsOf : yL_wordsOf.cls ≠ "java/lang/invoke/MethodHandle" ∧ yL_wordsOf.cls ≠ "java/lang/invoke/VarHandle" ∧ (parseMethodDescriptor yL_wordsOf.desc).map (fun d => d.parameters.length) = some 3 := by decide +kernel
set_option maxHeartbeats 4000000 in
set_option maxRecDepth 100000 in
theorem c_L_wordsOf (l : Launch) (D : va_G) (cI cJ : ClassId) (ad : Nat → Nat) (o : Nat) (n : Int32) (wN : Nat) (t : Int32) (pa pe : Int32) (f0 f1 f2 f3 f4 : Nat → Int32) (x1 : Int32) (h1a : ¬ x1 < 0) (h1b : x1 < 6) (hwN : wN ≤ 24) (fo : Nat → Int64) : m_I l yL_wordsOf wsL_wordsOf ({ frames := 3, cells := 0, slots := 0, locals := 65 } : Room) D [(cI, .int), (cJ, .long)] (lw cI cJ ad o n (nI wN) t pa pe f0 f1 f2 f3 f4 fo) [.ref (ad 0), .int x1, .ref o] 0 (lw cI cJ ad o n (nI wN) t pa pe f0 f1 f2 f3 f4 (vp_updL fo 0 (((nI (x_wo f0 f3 x1 wN))).toInt64))) := by
  refine l_startI (cc := cL_wordsOf) (maxL := 4) (hh := [(0, 9, 12, 13)]) (by decide) rfl (Nat.le_of_ble_eq_true rfl) ?_
  intro p e s m below meth c A hx hb hml hr hts hown hlocks hK hA H locs ls hP hD hS hl
  have hl : lv_has ls 4 [(0, .ref (ad 0)), (1, .int x1), (2, .ref o)] := hl
  refine lv_aload_n hx hb dL_wordsOf_0 rfl (lv_at hl 2 rfl) ?_
  refine lv_iconst (v := 0) hx hb dL_wordsOf_1 (by decide) ?_
  refine lv_aload_n hx hb dL_wordsOf_2 rfl (lv_at hl 0 rfl) ?_
  refine lv_iload_n hx hb dL_wordsOf_3 rfl (lv_at hl 1 rfl) ?_
  refine q_callV (As := [.int x1]) (rest := [.int 0, .ref o]) ⟨hx, hb, hml, hown, hts⟩ (c_X0_wordsOf l D cI ad n wN t pa pe f0 f1 f2 f3 f4 x1 h1a h1b hwN) (cwV 1 hts gL_wordsOf_X0_wordsOf rfl rfl rfl kv_X0_wordsOf ⟨Nat.le_of_ble_eq_true rfl, Nat.le_of_ble_eq_true rfl⟩) (va_recv hK hP (ci := 0) (q0 := 0) rfl rfl) (hP.sub [0, 1, 2, 3, 4, 5] rfl) (hK.sub [0] rfl) rfl hl.1 rfl (Nat.le_of_ble_eq_true rfl) dL_wordsOf_4 (Nat.zero_le _) (Nat.zero_le _) hS (fun H locs hsm hS => ?_)
  have hP := hsm.P hP
  refine lv_i2l (v := ((nI (x_wo f0 f3 x1 wN))).toInt64) hx hb dL_wordsOf_7 rfl ?_
  refine va_last hx hb hK hP hD hS 6 1 rfl rfl (vp_in_nI (n := 0) (by decide) (by decide)) dL_wordsOf_8 (fun H locs hP hD hS => ?_)
  have hP : va_P D vwCl (lw cI cJ ad o n (nI wN) t pa pe f0 f1 f2 f3 f4 (vp_updL fo 0 (((nI (x_wo f0 f3 x1 wN))).toInt64))) H := hP
  refine lv_goto (tgt := 15) hx hb dL_wordsOf_9 (by decide) ?_
  refine lv_iconst (v := 0) hx hb dL_wordsOf_15 (by decide) ?_
  exact m_retI hx hb hr hlocks hS hP rfl dL_wordsOf_16

set_option maxHeartbeats 4000000 in
set_option maxRecDepth 100000 in
theorem t_L_wordsOf_1 (l : Launch) (D : va_G) (sa : Nat → Nat) (hst : l.stackTraces = false) (cI cJ : ClassId) (ad : Nat → Nat) (o : Nat) (n : Int32) (wN : Nat) (t : Int32) (pa pe : Int32) (f0 f1 f2 f3 f4 : Nat → Int32) (x1 : Int32) (hb1 : x1 < 0 ∨ ¬ x1 < 6) (hwN : wN ≤ 24) (fo : Nat → Int64) : l_X l yL_wordsOf wsL_wordsOf ({ frames := 8, cells := 1, slots := 6, locals := 133 } : Room) D [(cI, .int), (cJ, .long)] (lw cI cJ ad o n (nI wN) t pa pe f0 f1 f2 f3 f4 fo) [.ref (ad 0), .int x1, .ref o] sa 1 := by
  refine l_startX (cc := cL_wordsOf) (maxL := 4) (hh := [(0, 9, 12, 13)]) (by decide) rfl (Nat.le_of_ble_eq_true rfl) ?_
  intro p e s m below meth c hx hb hml hr hts hown hlocks hTab hK hZ hNN H locs ls hP hS hl
  have hl : lv_has ls 4 [(0, .ref (ad 0)), (1, .int x1), (2, .ref o)] := hl
  refine lv_aload_n hx hb dL_wordsOf_0 rfl (lv_at hl 2 rfl) ?_
  refine lv_iconst (v := 0) hx hb dL_wordsOf_1 (by decide) ?_
  refine lv_aload_n hx hb dL_wordsOf_2 rfl (lv_at hl 0 rfl) ?_
  refine lv_iload_n hx hb dL_wordsOf_3 rfl (lv_at hl 1 rfl) ?_
  refine l_callX (As := [.int x1]) (rest := [.int 0, .ref o]) (E := t_IO) ⟨hx, hb, hml, hown, hts⟩ (t_X0_wordsOf_1 l D sa hst cI ad n wN t pa pe f0 f1 f2 f3 f4 x1 hb1 hwN) (cwV 1 hts gL_wordsOf_X0_wordsOf rfl rfl rfl kv_X0_wordsOf ⟨Nat.le_of_ble_eq_true rfl, Nat.le_of_ble_eq_true rfl⟩) (va_recv hK hP (ci := 0) (q0 := 0) rfl rfl) (hP.sub [0, 1, 2, 3, 4, 5] rfl) (hK.sub [0] rfl) hZ rfl hl.1 rfl (Nat.le_of_ble_eq_true rfl) dL_wordsOf_4 (Nat.le_of_ble_eq_true rfl) (Nat.le_of_ble_eq_true rfl) hS [] ⟨0, 9, 12, 13⟩ [] (by rw [hTab]; rfl) (fun _ h => nomatch h) (by decide) (by decide) (hts (.classLink RL 13 t_IO) (by decide +kernel)) (Or.inl rfl) (fun q9 H locs hS => ?_)
  refine lv_astore_n (lv' := [(3, .ref q9), (0, .ref (ad 0)), (1, .int x1), (2, .ref o)]) hx hb dL_wordsOf_12 rfl hl (by decide) rfl (fun ls hl => ?_)
  refine lv_iconst (v := 1) hx hb dL_wordsOf_13 (by decide) ?_
  exact l_retX hx hb hr hlocks hS rfl dL_wordsOf_14

theorem kq_L_coughsIn : yL_coughsIn.cls ≠ "java/lang/invoke/MethodHandle" ∧ yL_coughsIn.cls ≠ "java/lang/invoke/VarHandle" ∧ (parseMethodDescriptor yL_coughsIn.desc).map (fun d => d.parameters.length) = some 3 := by decide +kernel
set_option maxHeartbeats 4000000 in
set_option maxRecDepth 100000 in
theorem c_L_coughsIn (l : Launch) (D : va_G) (cI cJ : ClassId) (ad : Nat → Nat) (o : Nat) (n : Int32) (w : Int32) (t : Int32) (pa pe : Int32) (f0 f1 f2 f3 f4 : Nat → Int32) (x1 : Int32) (h1a : ¬ x1 < 0) (h1b : x1 < (x_gc w)) (fo : Nat → Int64) : m_I l yL_coughsIn wsL_coughsIn ({ frames := 3, cells := 0, slots := 0, locals := 63 } : Room) D [(cI, .int), (cJ, .long)] (lw cI cJ ad o n w t pa pe f0 f1 f2 f3 f4 fo) [.ref (ad 0), .int x1, .ref o] 0 (lw cI cJ ad o n w t pa pe f0 f1 f2 f3 f4 (vp_updL fo 0 (((x_cg f3 x1)).toInt64))) := by
  refine l_startI (cc := cL_coughsIn) (maxL := 4) (hh := [(0, 9, 12, 13)]) (by decide) rfl (Nat.le_of_ble_eq_true rfl) ?_
  intro p e s m below meth c A hx hb hml hr hts hown hlocks hK hA H locs ls hP hD hS hl
  have hl : lv_has ls 4 [(0, .ref (ad 0)), (1, .int x1), (2, .ref o)] := hl
  refine lv_aload_n hx hb dL_coughsIn_0 rfl (lv_at hl 2 rfl) ?_
  refine lv_iconst (v := 0) hx hb dL_coughsIn_1 (by decide) ?_
  refine lv_aload_n hx hb dL_coughsIn_2 rfl (lv_at hl 0 rfl) ?_
  refine lv_iload_n hx hb dL_coughsIn_3 rfl (lv_at hl 1 rfl) ?_
  refine q_callV (As := [.int x1]) (rest := [.int 0, .ref o]) ⟨hx, hb, hml, hown, hts⟩ (c_X0_coughsIn l D cI ad n w t pa pe f0 f1 f2 f3 f4 x1 h1a h1b) (cwV 1 hts gL_coughsIn_X0_coughsIn rfl rfl rfl kv_X0_coughsIn ⟨Nat.le_of_ble_eq_true rfl, Nat.le_of_ble_eq_true rfl⟩) (va_recv hK hP (ci := 0) (q0 := 0) rfl rfl) (hP.sub [0, 1, 2, 3, 4, 5] rfl) (hK.sub [0] rfl) rfl hl.1 rfl (Nat.le_of_ble_eq_true rfl) dL_coughsIn_4 (Nat.zero_le _) (Nat.zero_le _) hS (fun H locs hsm hS => ?_)
  have hP := hsm.P hP
  refine lv_i2l (v := ((x_cg f3 x1)).toInt64) hx hb dL_coughsIn_7 rfl ?_
  refine va_last hx hb hK hP hD hS 6 1 rfl rfl (vp_in_nI (n := 0) (by decide) (by decide)) dL_coughsIn_8 (fun H locs hP hD hS => ?_)
  have hP : va_P D vwCl (lw cI cJ ad o n w t pa pe f0 f1 f2 f3 f4 (vp_updL fo 0 (((x_cg f3 x1)).toInt64))) H := hP
  refine lv_goto (tgt := 15) hx hb dL_coughsIn_9 (by decide) ?_
  refine lv_iconst (v := 0) hx hb dL_coughsIn_15 (by decide) ?_
  exact m_retI hx hb hr hlocks hS hP rfl dL_coughsIn_16

set_option maxHeartbeats 4000000 in
set_option maxRecDepth 100000 in
theorem t_L_coughsIn_1 (l : Launch) (D : va_G) (sa : Nat → Nat) (hst : l.stackTraces = false) (cI cJ : ClassId) (ad : Nat → Nat) (o : Nat) (n : Int32) (w : Int32) (t : Int32) (pa pe : Int32) (f0 f1 f2 f3 f4 : Nat → Int32) (x1 : Int32) (hb1 : x1 < 0 ∨ ¬ x1 < (x_gc w)) (fo : Nat → Int64) : l_X l yL_coughsIn wsL_coughsIn ({ frames := 8, cells := 1, slots := 6, locals := 132 } : Room) D [(cI, .int), (cJ, .long)] (lw cI cJ ad o n w t pa pe f0 f1 f2 f3 f4 fo) [.ref (ad 0), .int x1, .ref o] sa 1 := by
  refine l_startX (cc := cL_coughsIn) (maxL := 4) (hh := [(0, 9, 12, 13)]) (by decide) rfl (Nat.le_of_ble_eq_true rfl) ?_
  intro p e s m below meth c hx hb hml hr hts hown hlocks hTab hK hZ hNN H locs ls hP hS hl
  have hl : lv_has ls 4 [(0, .ref (ad 0)), (1, .int x1), (2, .ref o)] := hl
  refine lv_aload_n hx hb dL_coughsIn_0 rfl (lv_at hl 2 rfl) ?_
  refine lv_iconst (v := 0) hx hb dL_coughsIn_1 (by decide) ?_
  refine lv_aload_n hx hb dL_coughsIn_2 rfl (lv_at hl 0 rfl) ?_
  refine lv_iload_n hx hb dL_coughsIn_3 rfl (lv_at hl 1 rfl) ?_
  refine l_callX (As := [.int x1]) (rest := [.int 0, .ref o]) (E := t_IO) ⟨hx, hb, hml, hown, hts⟩ (t_X0_coughsIn_1 l D sa hst cI ad n w t pa pe f0 f1 f2 f3 f4 x1 hb1) (cwV 1 hts gL_coughsIn_X0_coughsIn rfl rfl rfl kv_X0_coughsIn ⟨Nat.le_of_ble_eq_true rfl, Nat.le_of_ble_eq_true rfl⟩) (va_recv hK hP (ci := 0) (q0 := 0) rfl rfl) (hP.sub [0, 1, 2, 3, 4, 5] rfl) (hK.sub [0] rfl) hZ rfl hl.1 rfl (Nat.le_of_ble_eq_true rfl) dL_coughsIn_4 (Nat.le_of_ble_eq_true rfl) (Nat.le_of_ble_eq_true rfl) hS [] ⟨0, 9, 12, 13⟩ [] (by rw [hTab]; rfl) (fun _ h => nomatch h) (by decide) (by decide) (hts (.classLink RL 13 t_IO) (by decide +kernel)) (Or.inl rfl) (fun q9 H locs hS => ?_)
  refine lv_astore_n (lv' := [(3, .ref q9), (0, .ref (ad 0)), (1, .int x1), (2, .ref o)]) hx hb dL_coughsIn_12 rfl hl (by decide) rfl (fun ls hl => ?_)
  refine lv_iconst (v := 1) hx hb dL_coughsIn_13 (by decide) ?_
  exact l_retX hx hb hr hlocks hS rfl dL_coughsIn_14

theorem kq_L_strainOf : yL_strainOf.cls ≠ "java/lang/invoke/MethodHandle" ∧ yL_strainOf.cls ≠ "java/lang/invoke/VarHandle" ∧ (parseMethodDescriptor yL_strainOf.desc).map (fun d => d.parameters.length) = some 3 := by decide +kernel
set_option maxHeartbeats 4000000 in
set_option maxRecDepth 100000 in
theorem c_L_strainOf (l : Launch) (D : va_G) (cI cJ : ClassId) (ad : Nat → Nat) (o : Nat) (n : Int32) (w : Int32) (t : Int32) (pa pe : Int32) (f0 f1 f2 f3 f4 : Nat → Int32) (x1 : Int32) (h1a : ¬ x1 < 0) (h1b : x1 < (x_gc w)) (fo : Nat → Int64) : m_I l yL_strainOf wsL_strainOf ({ frames := 4, cells := 0, slots := 0, locals := 85 } : Room) D [(cI, .int), (cJ, .long)] (lw cI cJ ad o n w t pa pe f0 f1 f2 f3 f4 fo) [.ref (ad 0), .int x1, .ref o] 0 (lw cI cJ ad o n w t pa pe f0 f1 f2 f3 f4 (vp_updL fo 0 (((x_st f1 f3 x1)).toInt64))) := by
  refine l_startI (cc := cL_strainOf) (maxL := 4) (hh := [(0, 9, 12, 13)]) (by decide) rfl (Nat.le_of_ble_eq_true rfl) ?_
  intro p e s m below meth c A hx hb hml hr hts hown hlocks hK hA H locs ls hP hD hS hl
  have hl : lv_has ls 4 [(0, .ref (ad 0)), (1, .int x1), (2, .ref o)] := hl
  refine lv_aload_n hx hb dL_strainOf_0 rfl (lv_at hl 2 rfl) ?_
  refine lv_iconst (v := 0) hx hb dL_strainOf_1 (by decide) ?_
  refine lv_aload_n hx hb dL_strainOf_2 rfl (lv_at hl 0 rfl) ?_
  refine lv_iload_n hx hb dL_strainOf_3 rfl (lv_at hl 1 rfl) ?_
  refine q_callV (As := [.int x1]) (rest := [.int 0, .ref o]) ⟨hx, hb, hml, hown, hts⟩ (c_X0_strainOf l D cI ad n w t pa pe f0 f1 f2 f3 f4 x1 h1a h1b) (cwV 1 hts gL_strainOf_X0_strainOf rfl rfl rfl kv_X0_strainOf ⟨Nat.le_of_ble_eq_true rfl, Nat.le_of_ble_eq_true rfl⟩) (va_recv hK hP (ci := 0) (q0 := 0) rfl rfl) (hP.sub [0, 1, 2, 3, 4, 5] rfl) (hK.sub [0] rfl) rfl hl.1 rfl (Nat.le_of_ble_eq_true rfl) dL_strainOf_4 (Nat.zero_le _) (Nat.zero_le _) hS (fun H locs hsm hS => ?_)
  have hP := hsm.P hP
  refine lv_i2l (v := ((x_st f1 f3 x1)).toInt64) hx hb dL_strainOf_7 rfl ?_
  refine va_last hx hb hK hP hD hS 6 1 rfl rfl (vp_in_nI (n := 0) (by decide) (by decide)) dL_strainOf_8 (fun H locs hP hD hS => ?_)
  have hP : va_P D vwCl (lw cI cJ ad o n w t pa pe f0 f1 f2 f3 f4 (vp_updL fo 0 (((x_st f1 f3 x1)).toInt64))) H := hP
  refine lv_goto (tgt := 15) hx hb dL_strainOf_9 (by decide) ?_
  refine lv_iconst (v := 0) hx hb dL_strainOf_15 (by decide) ?_
  exact m_retI hx hb hr hlocks hS hP rfl dL_strainOf_16

set_option maxHeartbeats 4000000 in
set_option maxRecDepth 100000 in
theorem t_L_strainOf_1 (l : Launch) (D : va_G) (sa : Nat → Nat) (hst : l.stackTraces = false) (cI cJ : ClassId) (ad : Nat → Nat) (o : Nat) (n : Int32) (w : Int32) (t : Int32) (pa pe : Int32) (f0 f1 f2 f3 f4 : Nat → Int32) (x1 : Int32) (hb1 : x1 < 0 ∨ ¬ x1 < (x_gc w)) (fo : Nat → Int64) : l_X l yL_strainOf wsL_strainOf ({ frames := 8, cells := 1, slots := 6, locals := 132 } : Room) D [(cI, .int), (cJ, .long)] (lw cI cJ ad o n w t pa pe f0 f1 f2 f3 f4 fo) [.ref (ad 0), .int x1, .ref o] sa 1 := by
  refine l_startX (cc := cL_strainOf) (maxL := 4) (hh := [(0, 9, 12, 13)]) (by decide) rfl (Nat.le_of_ble_eq_true rfl) ?_
  intro p e s m below meth c hx hb hml hr hts hown hlocks hTab hK hZ hNN H locs ls hP hS hl
  have hl : lv_has ls 4 [(0, .ref (ad 0)), (1, .int x1), (2, .ref o)] := hl
  refine lv_aload_n hx hb dL_strainOf_0 rfl (lv_at hl 2 rfl) ?_
  refine lv_iconst (v := 0) hx hb dL_strainOf_1 (by decide) ?_
  refine lv_aload_n hx hb dL_strainOf_2 rfl (lv_at hl 0 rfl) ?_
  refine lv_iload_n hx hb dL_strainOf_3 rfl (lv_at hl 1 rfl) ?_
  refine l_callX (As := [.int x1]) (rest := [.int 0, .ref o]) (E := t_IO) ⟨hx, hb, hml, hown, hts⟩ (t_X0_strainOf_1 l D sa hst cI ad n w t pa pe f0 f1 f2 f3 f4 x1 hb1) (cwV 1 hts gL_strainOf_X0_strainOf rfl rfl rfl kv_X0_strainOf ⟨Nat.le_of_ble_eq_true rfl, Nat.le_of_ble_eq_true rfl⟩) (va_recv hK hP (ci := 0) (q0 := 0) rfl rfl) (hP.sub [0, 1, 2, 3, 4, 5] rfl) (hK.sub [0] rfl) hZ rfl hl.1 rfl (Nat.le_of_ble_eq_true rfl) dL_strainOf_4 (Nat.le_of_ble_eq_true rfl) (Nat.le_of_ble_eq_true rfl) hS [] ⟨0, 9, 12, 13⟩ [] (by rw [hTab]; rfl) (fun _ h => nomatch h) (by decide) (by decide) (hts (.classLink RL 13 t_IO) (by decide +kernel)) (Or.inl rfl) (fun q9 H locs hS => ?_)
  refine lv_astore_n (lv' := [(3, .ref q9), (0, .ref (ad 0)), (1, .int x1), (2, .ref o)]) hx hb dL_strainOf_12 rfl hl (by decide) rfl (fun ls hl => ?_)
  refine lv_iconst (v := 1) hx hb dL_strainOf_13 (by decide) ?_
  exact l_retX hx hb hr hlocks hS rfl dL_strainOf_14

theorem kq_L_isTied : yL_isTied.cls ≠ "java/lang/invoke/MethodHandle" ∧ yL_isTied.cls ≠ "java/lang/invoke/VarHandle" ∧ (parseMethodDescriptor yL_isTied.desc).map (fun d => d.parameters.length) = some 3 := by decide +kernel
set_option maxHeartbeats 4000000 in
set_option maxRecDepth 100000 in
theorem c_L_isTied (l : Launch) (D : va_G) (cI cJ : ClassId) (ad : Nat → Nat) (o : Nat) (n : Int32) (w : Int32) (t : Int32) (pa pe : Int32) (f0 f1 f2 f3 f4 : Nat → Int32) (x1 : Int32) (h1a : ¬ x1 < 0) (h1b : x1 < (x_gc w)) (fo : Nat → Int64) : m_I l yL_isTied wsL_isTied ({ frames := 3, cells := 0, slots := 0, locals := 63 } : Room) D [(cI, .int), (cJ, .long)] (lw cI cJ ad o n w t pa pe f0 f1 f2 f3 f4 fo) [.ref (ad 0), .int x1, .ref o] 0 (lw cI cJ ad o n w t pa pe f0 f1 f2 f3 f4 (vp_updL fo 0 (bL (x_ti f2 f3 x1)))) := by
  refine l_startI (cc := cL_isTied) (maxL := 4) (hh := [(0, 16, 19, 13)]) (by decide) rfl (Nat.le_of_ble_eq_true rfl) ?_
  intro p e s m below meth c A hx hb hml hr hts hown hlocks hK hA H locs ls hP hD hS hl
  have hl : lv_has ls 4 [(0, .ref (ad 0)), (1, .int x1), (2, .ref o)] := hl
  refine lv_aload_n hx hb dL_isTied_0 rfl (lv_at hl 2 rfl) ?_
  refine lv_iconst (v := 0) hx hb dL_isTied_1 (by decide) ?_
  refine lv_aload_n hx hb dL_isTied_2 rfl (lv_at hl 0 rfl) ?_
  refine lv_iload_n hx hb dL_isTied_3 rfl (lv_at hl 1 rfl) ?_
  refine q_callV (As := [.int x1]) (rest := [.int 0, .ref o]) ⟨hx, hb, hml, hown, hts⟩ (c_X0_isTied l D cI ad n w t pa pe f0 f1 f2 f3 f4 x1 h1a h1b) (cwV 1 hts gL_isTied_X0_isTied rfl rfl rfl kv_X0_isTied ⟨Nat.le_of_ble_eq_true rfl, Nat.le_of_ble_eq_true rfl⟩) (va_recv hK hP (ci := 0) (q0 := 0) rfl rfl) (hP.sub [0, 1, 2, 3, 4, 5] rfl) (hK.sub [0] rfl) rfl hl.1 rfl (Nat.le_of_ble_eq_true rfl) dL_isTied_4 (Nat.zero_le _) (Nat.zero_le _) hS (fun H locs hsm hS => ?_)
  have hP := hsm.P hP
  suffices K : ∀ v9 : Int64, v9 = bL (x_ti f2 f3 x1) → W p l e ({ frames := 3, cells := 0, slots := 0, locals := 63 } : Room) s m [.ref (ad 0), .int x1, .ref o].toArray below meth c H locs 0 0 (m_EI D below [.ref (ad 0), .int x1, .ref o].toArray s 0 (lw cI cJ ad o n w t pa pe f0 f1 f2 f3 f4 (vp_updL fo 0 (bL (x_ti f2 f3 x1)))) A) (F0 m 15 ls [.long v9, .int 0, .ref o]) from by
    refine lv_if_eq (tgt := 14) hx hb dL_isTied_7 (by decide) (fun h9 => ?_) (fun h9 => ?_)
    · refine lv_lconst (v := 0) hx hb dL_isTied_14 (by decide) ?_
      exact K _ (by rw [bI_0.mp h9]; rfl)
    · refine lv_lconst (v := 1) hx hb dL_isTied_10 (by decide) ?_
      refine lv_goto (tgt := 15) hx hb dL_isTied_11 (by decide) ?_
      exact K _ (by rw [bI_n0.mp h9]; rfl)
  intro v9 hv9
  rw [hv9]; clear hv9
  refine va_last hx hb hK hP hD hS 6 1 rfl rfl (vp_in_nI (n := 0) (by decide) (by decide)) dL_isTied_15 (fun H locs hP hD hS => ?_)
  have hP : va_P D vwCl (lw cI cJ ad o n w t pa pe f0 f1 f2 f3 f4 (vp_updL fo 0 (bL (x_ti f2 f3 x1)))) H := hP
  refine lv_goto (tgt := 22) hx hb dL_isTied_16 (by decide) ?_
  refine lv_iconst (v := 0) hx hb dL_isTied_22 (by decide) ?_
  exact m_retI hx hb hr hlocks hS hP rfl dL_isTied_23

set_option maxHeartbeats 4000000 in
set_option maxRecDepth 100000 in
theorem t_L_isTied_1 (l : Launch) (D : va_G) (sa : Nat → Nat) (hst : l.stackTraces = false) (cI cJ : ClassId) (ad : Nat → Nat) (o : Nat) (n : Int32) (w : Int32) (t : Int32) (pa pe : Int32) (f0 f1 f2 f3 f4 : Nat → Int32) (x1 : Int32) (hb1 : x1 < 0 ∨ ¬ x1 < (x_gc w)) (fo : Nat → Int64) : l_X l yL_isTied wsL_isTied ({ frames := 8, cells := 1, slots := 6, locals := 132 } : Room) D [(cI, .int), (cJ, .long)] (lw cI cJ ad o n w t pa pe f0 f1 f2 f3 f4 fo) [.ref (ad 0), .int x1, .ref o] sa 1 := by
  refine l_startX (cc := cL_isTied) (maxL := 4) (hh := [(0, 16, 19, 13)]) (by decide) rfl (Nat.le_of_ble_eq_true rfl) ?_
  intro p e s m below meth c hx hb hml hr hts hown hlocks hTab hK hZ hNN H locs ls hP hS hl
  have hl : lv_has ls 4 [(0, .ref (ad 0)), (1, .int x1), (2, .ref o)] := hl
  refine lv_aload_n hx hb dL_isTied_0 rfl (lv_at hl 2 rfl) ?_
  refine lv_iconst (v := 0) hx hb dL_isTied_1 (by decide) ?_
  refine lv_aload_n hx hb dL_isTied_2 rfl (lv_at hl 0 rfl) ?_
  refine lv_iload_n hx hb dL_isTied_3 rfl (lv_at hl 1 rfl) ?_
  refine l_callX (As := [.int x1]) (rest := [.int 0, .ref o]) (E := t_IO) ⟨hx, hb, hml, hown, hts⟩ (t_X0_isTied_1 l D sa hst cI ad n w t pa pe f0 f1 f2 f3 f4 x1 hb1) (cwV 1 hts gL_isTied_X0_isTied rfl rfl rfl kv_X0_isTied ⟨Nat.le_of_ble_eq_true rfl, Nat.le_of_ble_eq_true rfl⟩) (va_recv hK hP (ci := 0) (q0 := 0) rfl rfl) (hP.sub [0, 1, 2, 3, 4, 5] rfl) (hK.sub [0] rfl) hZ rfl hl.1 rfl (Nat.le_of_ble_eq_true rfl) dL_isTied_4 (Nat.le_of_ble_eq_true rfl) (Nat.le_of_ble_eq_true rfl) hS [] ⟨0, 16, 19, 13⟩ [] (by rw [hTab]; rfl) (fun _ h => nomatch h) (by decide) (by decide) (hts (.classLink RL 13 t_IO) (by decide +kernel)) (Or.inl rfl) (fun q9 H locs hS => ?_)
  refine lv_astore_n (lv' := [(3, .ref q9), (0, .ref (ad 0)), (1, .int x1), (2, .ref o)]) hx hb dL_isTied_19 rfl hl (by decide) rfl (fun ls hl => ?_)
  refine lv_iconst (v := 1) hx hb dL_isTied_20 (by decide) ?_
  exact l_retX hx hb hr hlocks hS rfl dL_isTied_21

theorem kq_L_isSmooth : yL_isSmooth.cls ≠ "java/lang/invoke/MethodHandle" ∧ yL_isSmooth.cls ≠ "java/lang/invoke/VarHandle" ∧ (parseMethodDescriptor yL_isSmooth.desc).map (fun d => d.parameters.length) = some 3 := by decide +kernel
set_option maxHeartbeats 4000000 in
set_option maxRecDepth 100000 in
theorem c_L_isSmooth (l : Launch) (D : va_G) (cI cJ : ClassId) (ad : Nat → Nat) (o : Nat) (n : Int32) (w : Int32) (t : Int32) (pa pe : Int32) (f0 f1 f2 f3 f4 : Nat → Int32) (x1 : Int32) (h1a : ¬ x1 < 0) (h1b : x1 < (x_gc w)) (fo : Nat → Int64) : m_I l yL_isSmooth wsL_isSmooth ({ frames := 5, cells := 0, slots := 0, locals := 106 } : Room) D [(cI, .int), (cJ, .long)] (lw cI cJ ad o n w t pa pe f0 f1 f2 f3 f4 fo) [.ref (ad 0), .int x1, .ref o] 0 (lw cI cJ ad o n w t pa pe f0 f1 f2 f3 f4 (vp_updL fo 0 (bL (decide (x_kg f0 f1 f2 f3 x1 = 0))))) := by
  refine l_startI (cc := cL_isSmooth) (maxL := 4) (hh := [(0, 16, 19, 13)]) (by decide) rfl (Nat.le_of_ble_eq_true rfl) ?_
  intro p e s m below meth c A hx hb hml hr hts hown hlocks hK hA H locs ls hP hD hS hl
  have hl : lv_has ls 4 [(0, .ref (ad 0)), (1, .int x1), (2, .ref o)] := hl
  refine lv_aload_n hx hb dL_isSmooth_0 rfl (lv_at hl 2 rfl) ?_
  refine lv_iconst (v := 0) hx hb dL_isSmooth_1 (by decide) ?_
  refine lv_aload_n hx hb dL_isSmooth_2 rfl (lv_at hl 0 rfl) ?_
  refine lv_iload_n hx hb dL_isSmooth_3 rfl (lv_at hl 1 rfl) ?_
  refine q_callV (As := [.int x1]) (rest := [.int 0, .ref o]) ⟨hx, hb, hml, hown, hts⟩ (c_X0_isSmooth l D cI ad n w t pa pe f0 f1 f2 f3 f4 x1 h1a h1b) (cwV 1 hts gL_isSmooth_X0_isSmooth rfl rfl rfl kv_X0_isSmooth ⟨Nat.le_of_ble_eq_true rfl, Nat.le_of_ble_eq_true rfl⟩) (va_recv hK hP (ci := 0) (q0 := 0) rfl rfl) (hP.sub [0, 1, 2, 3, 4, 5] rfl) (hK.sub [0] rfl) rfl hl.1 rfl (Nat.le_of_ble_eq_true rfl) dL_isSmooth_4 (Nat.zero_le _) (Nat.zero_le _) hS (fun H locs hsm hS => ?_)
  have hP := hsm.P hP
  suffices K : ∀ v9 : Int64, v9 = bL (decide (x_kg f0 f1 f2 f3 x1 = 0)) → W p l e ({ frames := 5, cells := 0, slots := 0, locals := 106 } : Room) s m [.ref (ad 0), .int x1, .ref o].toArray below meth c H locs 0 0 (m_EI D below [.ref (ad 0), .int x1, .ref o].toArray s 0 (lw cI cJ ad o n w t pa pe f0 f1 f2 f3 f4 (vp_updL fo 0 (bL (decide (x_kg f0 f1 f2 f3 x1 = 0))))) A) (F0 m 15 ls [.long v9, .int 0, .ref o]) from by
    refine lv_if_eq (tgt := 14) hx hb dL_isSmooth_7 (by decide) (fun h9 => ?_) (fun h9 => ?_)
    · refine lv_lconst (v := 0) hx hb dL_isSmooth_14 (by decide) ?_
      exact K _ (by rw [bI_0.mp h9]; rfl)
    · refine lv_lconst (v := 1) hx hb dL_isSmooth_10 (by decide) ?_
      refine lv_goto (tgt := 15) hx hb dL_isSmooth_11 (by decide) ?_
      exact K _ (by rw [bI_n0.mp h9]; rfl)
  intro v9 hv9
  rw [hv9]; clear hv9
  refine va_last hx hb hK hP hD hS 6 1 rfl rfl (vp_in_nI (n := 0) (by decide) (by decide)) dL_isSmooth_15 (fun H locs hP hD hS => ?_)
  have hP : va_P D vwCl (lw cI cJ ad o n w t pa pe f0 f1 f2 f3 f4 (vp_updL fo 0 (bL (decide (x_kg f0 f1 f2 f3 x1 = 0))))) H := hP
  refine lv_goto (tgt := 22) hx hb dL_isSmooth_16 (by decide) ?_
  refine lv_iconst (v := 0) hx hb dL_isSmooth_22 (by decide) ?_
  exact m_retI hx hb hr hlocks hS hP rfl dL_isSmooth_23

set_option maxHeartbeats 4000000 in
set_option maxRecDepth 100000 in
theorem t_L_isSmooth_1 (l : Launch) (D : va_G) (sa : Nat → Nat) (hst : l.stackTraces = false) (cI cJ : ClassId) (ad : Nat → Nat) (o : Nat) (n : Int32) (w : Int32) (t : Int32) (pa pe : Int32) (f0 f1 f2 f3 f4 : Nat → Int32) (x1 : Int32) (hb1 : x1 < 0 ∨ ¬ x1 < (x_gc w)) (fo : Nat → Int64) : l_X l yL_isSmooth wsL_isSmooth ({ frames := 8, cells := 1, slots := 6, locals := 132 } : Room) D [(cI, .int), (cJ, .long)] (lw cI cJ ad o n w t pa pe f0 f1 f2 f3 f4 fo) [.ref (ad 0), .int x1, .ref o] sa 1 := by
  refine l_startX (cc := cL_isSmooth) (maxL := 4) (hh := [(0, 16, 19, 13)]) (by decide) rfl (Nat.le_of_ble_eq_true rfl) ?_
  intro p e s m below meth c hx hb hml hr hts hown hlocks hTab hK hZ hNN H locs ls hP hS hl
  have hl : lv_has ls 4 [(0, .ref (ad 0)), (1, .int x1), (2, .ref o)] := hl
  refine lv_aload_n hx hb dL_isSmooth_0 rfl (lv_at hl 2 rfl) ?_
  refine lv_iconst (v := 0) hx hb dL_isSmooth_1 (by decide) ?_
  refine lv_aload_n hx hb dL_isSmooth_2 rfl (lv_at hl 0 rfl) ?_
  refine lv_iload_n hx hb dL_isSmooth_3 rfl (lv_at hl 1 rfl) ?_
  refine l_callX (As := [.int x1]) (rest := [.int 0, .ref o]) (E := t_IO) ⟨hx, hb, hml, hown, hts⟩ (t_X0_isSmooth_1 l D sa hst cI ad n w t pa pe f0 f1 f2 f3 f4 x1 hb1) (cwV 1 hts gL_isSmooth_X0_isSmooth rfl rfl rfl kv_X0_isSmooth ⟨Nat.le_of_ble_eq_true rfl, Nat.le_of_ble_eq_true rfl⟩) (va_recv hK hP (ci := 0) (q0 := 0) rfl rfl) (hP.sub [0, 1, 2, 3, 4, 5] rfl) (hK.sub [0] rfl) hZ rfl hl.1 rfl (Nat.le_of_ble_eq_true rfl) dL_isSmooth_4 (Nat.le_of_ble_eq_true rfl) (Nat.le_of_ble_eq_true rfl) hS [] ⟨0, 16, 19, 13⟩ [] (by rw [hTab]; rfl) (fun _ h => nomatch h) (by decide) (by decide) (hts (.classLink RL 13 t_IO) (by decide +kernel)) (Or.inl rfl) (fun q9 H locs hS => ?_)
  refine lv_astore_n (lv' := [(3, .ref q9), (0, .ref (ad 0)), (1, .int x1), (2, .ref o)]) hx hb dL_isSmooth_19 rfl hl (by decide) rfl (fun ls hl => ?_)
  refine lv_iconst (v := 1) hx hb dL_isSmooth_20 (by decide) ?_
  exact l_retX hx hb hr hlocks hS rfl dL_isSmooth_21

theorem kq_L_isPolite : yL_isPolite.cls ≠ "java/lang/invoke/MethodHandle" ∧ yL_isPolite.cls ≠ "java/lang/invoke/VarHandle" ∧ (parseMethodDescriptor yL_isPolite.desc).map (fun d => d.parameters.length) = some 3 := by decide +kernel
set_option maxHeartbeats 4000000 in
set_option maxRecDepth 100000 in
theorem c_L_isPolite (l : Launch) (D : va_G) (cI cJ : ClassId) (ad : Nat → Nat) (o : Nat) (n : Int32) (w : Int32) (t : Int32) (pa pe : Int32) (f0 f1 f2 f3 f4 : Nat → Int32) (x1 : Int32) (h1a : ¬ x1 < 0) (h1b : x1 < (x_gc w)) (fo : Nat → Int64) : m_I l yL_isPolite wsL_isPolite ({ frames := 5, cells := 0, slots := 0, locals := 106 } : Room) D [(cI, .int), (cJ, .long)] (lw cI cJ ad o n w t pa pe f0 f1 f2 f3 f4 fo) [.ref (ad 0), .int x1, .ref o] 0 (lw cI cJ ad o n w t pa pe f0 f1 f2 f3 f4 (vp_updL fo 0 (bL (decide (x_kg f0 f1 f2 f3 x1 = 1))))) := by
  refine l_startI (cc := cL_isPolite) (maxL := 4) (hh := [(0, 16, 19, 13)]) (by decide) rfl (Nat.le_of_ble_eq_true rfl) ?_
  intro p e s m below meth c A hx hb hml hr hts hown hlocks hK hA H locs ls hP hD hS hl
  have hl : lv_has ls 4 [(0, .ref (ad 0)), (1, .int x1), (2, .ref o)] := hl
  refine lv_aload_n hx hb dL_isPolite_0 rfl (lv_at hl 2 rfl) ?_
  refine lv_iconst (v := 0) hx hb dL_isPolite_1 (by decide) ?_
  refine lv_aload_n hx hb dL_isPolite_2 rfl (lv_at hl 0 rfl) ?_
  refine lv_iload_n hx hb dL_isPolite_3 rfl (lv_at hl 1 rfl) ?_
  refine q_callV (As := [.int x1]) (rest := [.int 0, .ref o]) ⟨hx, hb, hml, hown, hts⟩ (c_X0_isPolite l D cI ad n w t pa pe f0 f1 f2 f3 f4 x1 h1a h1b) (cwV 1 hts gL_isPolite_X0_isPolite rfl rfl rfl kv_X0_isPolite ⟨Nat.le_of_ble_eq_true rfl, Nat.le_of_ble_eq_true rfl⟩) (va_recv hK hP (ci := 0) (q0 := 0) rfl rfl) (hP.sub [0, 1, 2, 3, 4, 5] rfl) (hK.sub [0] rfl) rfl hl.1 rfl (Nat.le_of_ble_eq_true rfl) dL_isPolite_4 (Nat.zero_le _) (Nat.zero_le _) hS (fun H locs hsm hS => ?_)
  have hP := hsm.P hP
  suffices K : ∀ v9 : Int64, v9 = bL (decide (x_kg f0 f1 f2 f3 x1 = 1)) → W p l e ({ frames := 5, cells := 0, slots := 0, locals := 106 } : Room) s m [.ref (ad 0), .int x1, .ref o].toArray below meth c H locs 0 0 (m_EI D below [.ref (ad 0), .int x1, .ref o].toArray s 0 (lw cI cJ ad o n w t pa pe f0 f1 f2 f3 f4 (vp_updL fo 0 (bL (decide (x_kg f0 f1 f2 f3 x1 = 1))))) A) (F0 m 15 ls [.long v9, .int 0, .ref o]) from by
    refine lv_if_eq (tgt := 14) hx hb dL_isPolite_7 (by decide) (fun h9 => ?_) (fun h9 => ?_)
    · refine lv_lconst (v := 0) hx hb dL_isPolite_14 (by decide) ?_
      exact K _ (by rw [bI_0.mp h9]; rfl)
    · refine lv_lconst (v := 1) hx hb dL_isPolite_10 (by decide) ?_
      refine lv_goto (tgt := 15) hx hb dL_isPolite_11 (by decide) ?_
      exact K _ (by rw [bI_n0.mp h9]; rfl)
  intro v9 hv9
  rw [hv9]; clear hv9
  refine va_last hx hb hK hP hD hS 6 1 rfl rfl (vp_in_nI (n := 0) (by decide) (by decide)) dL_isPolite_15 (fun H locs hP hD hS => ?_)
  have hP : va_P D vwCl (lw cI cJ ad o n w t pa pe f0 f1 f2 f3 f4 (vp_updL fo 0 (bL (decide (x_kg f0 f1 f2 f3 x1 = 1))))) H := hP
  refine lv_goto (tgt := 22) hx hb dL_isPolite_16 (by decide) ?_
  refine lv_iconst (v := 0) hx hb dL_isPolite_22 (by decide) ?_
  exact m_retI hx hb hr hlocks hS hP rfl dL_isPolite_23

set_option maxHeartbeats 4000000 in
set_option maxRecDepth 100000 in
theorem t_L_isPolite_1 (l : Launch) (D : va_G) (sa : Nat → Nat) (hst : l.stackTraces = false) (cI cJ : ClassId) (ad : Nat → Nat) (o : Nat) (n : Int32) (w : Int32) (t : Int32) (pa pe : Int32) (f0 f1 f2 f3 f4 : Nat → Int32) (x1 : Int32) (hb1 : x1 < 0 ∨ ¬ x1 < (x_gc w)) (fo : Nat → Int64) : l_X l yL_isPolite wsL_isPolite ({ frames := 8, cells := 1, slots := 6, locals := 132 } : Room) D [(cI, .int), (cJ, .long)] (lw cI cJ ad o n w t pa pe f0 f1 f2 f3 f4 fo) [.ref (ad 0), .int x1, .ref o] sa 1 := by
  refine l_startX (cc := cL_isPolite) (maxL := 4) (hh := [(0, 16, 19, 13)]) (by decide) rfl (Nat.le_of_ble_eq_true rfl) ?_
  intro p e s m below meth c hx hb hml hr hts hown hlocks hTab hK hZ hNN H locs ls hP hS hl
  have hl : lv_has ls 4 [(0, .ref (ad 0)), (1, .int x1), (2, .ref o)] := hl
  refine lv_aload_n hx hb dL_isPolite_0 rfl (lv_at hl 2 rfl) ?_
  refine lv_iconst (v := 0) hx hb dL_isPolite_1 (by decide) ?_
  refine lv_aload_n hx hb dL_isPolite_2 rfl (lv_at hl 0 rfl) ?_
  refine lv_iload_n hx hb dL_isPolite_3 rfl (lv_at hl 1 rfl) ?_
  refine l_callX (As := [.int x1]) (rest := [.int 0, .ref o]) (E := t_IO) ⟨hx, hb, hml, hown, hts⟩ (t_X0_isPolite_1 l D sa hst cI ad n w t pa pe f0 f1 f2 f3 f4 x1 hb1) (cwV 1 hts gL_isPolite_X0_isPolite rfl rfl rfl kv_X0_isPolite ⟨Nat.le_of_ble_eq_true rfl, Nat.le_of_ble_eq_true rfl⟩) (va_recv hK hP (ci := 0) (q0 := 0) rfl rfl) (hP.sub [0, 1, 2, 3, 4, 5] rfl) (hK.sub [0] rfl) hZ rfl hl.1 rfl (Nat.le_of_ble_eq_true rfl) dL_isPolite_4 (Nat.le_of_ble_eq_true rfl) (Nat.le_of_ble_eq_true rfl) hS [] ⟨0, 16, 19, 13⟩ [] (by rw [hTab]; rfl) (fun _ h => nomatch h) (by decide) (by decide) (hts (.classLink RL 13 t_IO) (by decide +kernel)) (Or.inl rfl) (fun q9 H locs hS => ?_)
  refine lv_astore_n (lv' := [(3, .ref q9), (0, .ref (ad 0)), (1, .int x1), (2, .ref o)]) hx hb dL_isPolite_19 rfl hl (by decide) rfl (fun ls hl => ?_)
  refine lv_iconst (v := 1) hx hb dL_isPolite_20 (by decide) ?_
  exact l_retX hx hb hr hlocks hS rfl dL_isPolite_21

theorem kq_L_isBroken : yL_isBroken.cls ≠ "java/lang/invoke/MethodHandle" ∧ yL_isBroken.cls ≠ "java/lang/invoke/VarHandle" ∧ (parseMethodDescriptor yL_isBroken.desc).map (fun d => d.parameters.length) = some 3 := by decide +kernel
set_option maxHeartbeats 4000000 in
set_option maxRecDepth 100000 in
theorem c_L_isBroken (l : Launch) (D : va_G) (cI cJ : ClassId) (ad : Nat → Nat) (o : Nat) (n : Int32) (w : Int32) (t : Int32) (pa pe : Int32) (f0 f1 f2 f3 f4 : Nat → Int32) (x1 : Int32) (h1a : ¬ x1 < 0) (h1b : x1 < (x_gc w)) (fo : Nat → Int64) : m_I l yL_isBroken wsL_isBroken ({ frames := 5, cells := 0, slots := 0, locals := 106 } : Room) D [(cI, .int), (cJ, .long)] (lw cI cJ ad o n w t pa pe f0 f1 f2 f3 f4 fo) [.ref (ad 0), .int x1, .ref o] 0 (lw cI cJ ad o n w t pa pe f0 f1 f2 f3 f4 (vp_updL fo 0 (bL (decide (x_kg f0 f1 f2 f3 x1 = 2))))) := by
  refine l_startI (cc := cL_isBroken) (maxL := 4) (hh := [(0, 16, 19, 13)]) (by decide) rfl (Nat.le_of_ble_eq_true rfl) ?_
  intro p e s m below meth c A hx hb hml hr hts hown hlocks hK hA H locs ls hP hD hS hl
  have hl : lv_has ls 4 [(0, .ref (ad 0)), (1, .int x1), (2, .ref o)] := hl
  refine lv_aload_n hx hb dL_isBroken_0 rfl (lv_at hl 2 rfl) ?_
  refine lv_iconst (v := 0) hx hb dL_isBroken_1 (by decide) ?_
  refine lv_aload_n hx hb dL_isBroken_2 rfl (lv_at hl 0 rfl) ?_
  refine lv_iload_n hx hb dL_isBroken_3 rfl (lv_at hl 1 rfl) ?_
  refine q_callV (As := [.int x1]) (rest := [.int 0, .ref o]) ⟨hx, hb, hml, hown, hts⟩ (c_X0_isBroken l D cI ad n w t pa pe f0 f1 f2 f3 f4 x1 h1a h1b) (cwV 1 hts gL_isBroken_X0_isBroken rfl rfl rfl kv_X0_isBroken ⟨Nat.le_of_ble_eq_true rfl, Nat.le_of_ble_eq_true rfl⟩) (va_recv hK hP (ci := 0) (q0 := 0) rfl rfl) (hP.sub [0, 1, 2, 3, 4, 5] rfl) (hK.sub [0] rfl) rfl hl.1 rfl (Nat.le_of_ble_eq_true rfl) dL_isBroken_4 (Nat.zero_le _) (Nat.zero_le _) hS (fun H locs hsm hS => ?_)
  have hP := hsm.P hP
  suffices K : ∀ v9 : Int64, v9 = bL (decide (x_kg f0 f1 f2 f3 x1 = 2)) → W p l e ({ frames := 5, cells := 0, slots := 0, locals := 106 } : Room) s m [.ref (ad 0), .int x1, .ref o].toArray below meth c H locs 0 0 (m_EI D below [.ref (ad 0), .int x1, .ref o].toArray s 0 (lw cI cJ ad o n w t pa pe f0 f1 f2 f3 f4 (vp_updL fo 0 (bL (decide (x_kg f0 f1 f2 f3 x1 = 2))))) A) (F0 m 15 ls [.long v9, .int 0, .ref o]) from by
    refine lv_if_eq (tgt := 14) hx hb dL_isBroken_7 (by decide) (fun h9 => ?_) (fun h9 => ?_)
    · refine lv_lconst (v := 0) hx hb dL_isBroken_14 (by decide) ?_
      exact K _ (by rw [bI_0.mp h9]; rfl)
    · refine lv_lconst (v := 1) hx hb dL_isBroken_10 (by decide) ?_
      refine lv_goto (tgt := 15) hx hb dL_isBroken_11 (by decide) ?_
      exact K _ (by rw [bI_n0.mp h9]; rfl)
  intro v9 hv9
  rw [hv9]; clear hv9
  refine va_last hx hb hK hP hD hS 6 1 rfl rfl (vp_in_nI (n := 0) (by decide) (by decide)) dL_isBroken_15 (fun H locs hP hD hS => ?_)
  have hP : va_P D vwCl (lw cI cJ ad o n w t pa pe f0 f1 f2 f3 f4 (vp_updL fo 0 (bL (decide (x_kg f0 f1 f2 f3 x1 = 2))))) H := hP
  refine lv_goto (tgt := 22) hx hb dL_isBroken_16 (by decide) ?_
  refine lv_iconst (v := 0) hx hb dL_isBroken_22 (by decide) ?_
  exact m_retI hx hb hr hlocks hS hP rfl dL_isBroken_23

set_option maxHeartbeats 4000000 in
set_option maxRecDepth 100000 in
theorem t_L_isBroken_1 (l : Launch) (D : va_G) (sa : Nat → Nat) (hst : l.stackTraces = false) (cI cJ : ClassId) (ad : Nat → Nat) (o : Nat) (n : Int32) (w : Int32) (t : Int32) (pa pe : Int32) (f0 f1 f2 f3 f4 : Nat → Int32) (x1 : Int32) (hb1 : x1 < 0 ∨ ¬ x1 < (x_gc w)) (fo : Nat → Int64) : l_X l yL_isBroken wsL_isBroken ({ frames := 8, cells := 1, slots := 6, locals := 132 } : Room) D [(cI, .int), (cJ, .long)] (lw cI cJ ad o n w t pa pe f0 f1 f2 f3 f4 fo) [.ref (ad 0), .int x1, .ref o] sa 1 := by
  refine l_startX (cc := cL_isBroken) (maxL := 4) (hh := [(0, 16, 19, 13)]) (by decide) rfl (Nat.le_of_ble_eq_true rfl) ?_
  intro p e s m below meth c hx hb hml hr hts hown hlocks hTab hK hZ hNN H locs ls hP hS hl
  have hl : lv_has ls 4 [(0, .ref (ad 0)), (1, .int x1), (2, .ref o)] := hl
  refine lv_aload_n hx hb dL_isBroken_0 rfl (lv_at hl 2 rfl) ?_
  refine lv_iconst (v := 0) hx hb dL_isBroken_1 (by decide) ?_
  refine lv_aload_n hx hb dL_isBroken_2 rfl (lv_at hl 0 rfl) ?_
  refine lv_iload_n hx hb dL_isBroken_3 rfl (lv_at hl 1 rfl) ?_
  refine l_callX (As := [.int x1]) (rest := [.int 0, .ref o]) (E := t_IO) ⟨hx, hb, hml, hown, hts⟩ (t_X0_isBroken_1 l D sa hst cI ad n w t pa pe f0 f1 f2 f3 f4 x1 hb1) (cwV 1 hts gL_isBroken_X0_isBroken rfl rfl rfl kv_X0_isBroken ⟨Nat.le_of_ble_eq_true rfl, Nat.le_of_ble_eq_true rfl⟩) (va_recv hK hP (ci := 0) (q0 := 0) rfl rfl) (hP.sub [0, 1, 2, 3, 4, 5] rfl) (hK.sub [0] rfl) hZ rfl hl.1 rfl (Nat.le_of_ble_eq_true rfl) dL_isBroken_4 (Nat.le_of_ble_eq_true rfl) (Nat.le_of_ble_eq_true rfl) hS [] ⟨0, 16, 19, 13⟩ [] (by rw [hTab]; rfl) (fun _ h => nomatch h) (by decide) (by decide) (hts (.classLink RL 13 t_IO) (by decide +kernel)) (Or.inl rfl) (fun q9 H locs hS => ?_)
  refine lv_astore_n (lv' := [(3, .ref q9), (0, .ref (ad 0)), (1, .int x1), (2, .ref o)]) hx hb dL_isBroken_19 rfl hl (by decide) rfl (fun ls hl => ?_)
  refine lv_iconst (v := 1) hx hb dL_isBroken_20 (by decide) ?_
  exact l_retX hx hb hr hlocks hS rfl dL_isBroken_21

theorem kq_L_threadOf : yL_threadOf.cls ≠ "java/lang/invoke/MethodHandle" ∧ yL_threadOf.cls ≠ "java/lang/invoke/VarHandle" ∧ (parseMethodDescriptor yL_threadOf.desc).map (fun d => d.parameters.length) = some 3 := by decide +kernel
set_option maxHeartbeats 4000000 in
set_option maxRecDepth 100000 in
theorem c_L_threadOf (l : Launch) (D : va_G) (cI cJ : ClassId) (ad : Nat → Nat) (o : Nat) (n : Int32) (w : Int32) (t : Int32) (pa pe : Int32) (f0 f1 f2 f3 f4 : Nat → Int32) (x1 : Int32) (h1a : ¬ x1 < 0) (h1b : x1 < w) (fo : Nat → Int64) : m_I l yL_threadOf wsL_threadOf ({ frames := 3, cells := 0, slots := 0, locals := 63 } : Room) D [(cI, .int), (cJ, .long)] (lw cI cJ ad o n w t pa pe f0 f1 f2 f3 f4 fo) [.ref (ad 0), .int x1, .ref o] 0 (lw cI cJ ad o n w t pa pe f0 f1 f2 f3 f4 (vp_updL fo 0 (((rd f4 x1)).toInt64))) := by
  refine l_startI (cc := cL_threadOf) (maxL := 4) (hh := [(0, 9, 12, 13)]) (by decide) rfl (Nat.le_of_ble_eq_true rfl) ?_
  intro p e s m below meth c A hx hb hml hr hts hown hlocks hK hA H locs ls hP hD hS hl
  have hl : lv_has ls 4 [(0, .ref (ad 0)), (1, .int x1), (2, .ref o)] := hl
  refine lv_aload_n hx hb dL_threadOf_0 rfl (lv_at hl 2 rfl) ?_
  refine lv_iconst (v := 0) hx hb dL_threadOf_1 (by decide) ?_
  refine lv_aload_n hx hb dL_threadOf_2 rfl (lv_at hl 0 rfl) ?_
  refine lv_iload_n hx hb dL_threadOf_3 rfl (lv_at hl 1 rfl) ?_
  refine q_callV (As := [.int x1]) (rest := [.int 0, .ref o]) ⟨hx, hb, hml, hown, hts⟩ (c_X0_threadOf l D cI ad n w t pa pe f0 f1 f2 f3 f4 x1 h1a h1b) (cwV 1 hts gL_threadOf_X0_threadOf rfl rfl rfl kv_X0_threadOf ⟨Nat.le_of_ble_eq_true rfl, Nat.le_of_ble_eq_true rfl⟩) (va_recv hK hP (ci := 0) (q0 := 0) rfl rfl) (hP.sub [0, 1, 2, 3, 4, 5] rfl) (hK.sub [0] rfl) rfl hl.1 rfl (Nat.le_of_ble_eq_true rfl) dL_threadOf_4 (Nat.zero_le _) (Nat.zero_le _) hS (fun H locs hsm hS => ?_)
  have hP := hsm.P hP
  refine lv_i2l (v := ((rd f4 x1)).toInt64) hx hb dL_threadOf_7 rfl ?_
  refine va_last hx hb hK hP hD hS 6 1 rfl rfl (vp_in_nI (n := 0) (by decide) (by decide)) dL_threadOf_8 (fun H locs hP hD hS => ?_)
  have hP : va_P D vwCl (lw cI cJ ad o n w t pa pe f0 f1 f2 f3 f4 (vp_updL fo 0 (((rd f4 x1)).toInt64))) H := hP
  refine lv_goto (tgt := 15) hx hb dL_threadOf_9 (by decide) ?_
  refine lv_iconst (v := 0) hx hb dL_threadOf_15 (by decide) ?_
  exact m_retI hx hb hr hlocks hS hP rfl dL_threadOf_16

set_option maxHeartbeats 4000000 in
set_option maxRecDepth 100000 in
theorem t_L_threadOf_1 (l : Launch) (D : va_G) (sa : Nat → Nat) (hst : l.stackTraces = false) (cI cJ : ClassId) (ad : Nat → Nat) (o : Nat) (n : Int32) (w : Int32) (t : Int32) (pa pe : Int32) (f0 f1 f2 f3 f4 : Nat → Int32) (x1 : Int32) (hb1 : x1 < 0 ∨ ¬ x1 < w) (fo : Nat → Int64) : l_X l yL_threadOf wsL_threadOf ({ frames := 8, cells := 1, slots := 6, locals := 132 } : Room) D [(cI, .int), (cJ, .long)] (lw cI cJ ad o n w t pa pe f0 f1 f2 f3 f4 fo) [.ref (ad 0), .int x1, .ref o] sa 1 := by
  refine l_startX (cc := cL_threadOf) (maxL := 4) (hh := [(0, 9, 12, 13)]) (by decide) rfl (Nat.le_of_ble_eq_true rfl) ?_
  intro p e s m below meth c hx hb hml hr hts hown hlocks hTab hK hZ hNN H locs ls hP hS hl
  have hl : lv_has ls 4 [(0, .ref (ad 0)), (1, .int x1), (2, .ref o)] := hl
  refine lv_aload_n hx hb dL_threadOf_0 rfl (lv_at hl 2 rfl) ?_
  refine lv_iconst (v := 0) hx hb dL_threadOf_1 (by decide) ?_
  refine lv_aload_n hx hb dL_threadOf_2 rfl (lv_at hl 0 rfl) ?_
  refine lv_iload_n hx hb dL_threadOf_3 rfl (lv_at hl 1 rfl) ?_
  refine l_callX (As := [.int x1]) (rest := [.int 0, .ref o]) (E := t_IO) ⟨hx, hb, hml, hown, hts⟩ (t_X0_threadOf_1 l D sa hst cI ad n w t pa pe f0 f1 f2 f3 f4 x1 hb1) (cwV 1 hts gL_threadOf_X0_threadOf rfl rfl rfl kv_X0_threadOf ⟨Nat.le_of_ble_eq_true rfl, Nat.le_of_ble_eq_true rfl⟩) (va_recv hK hP (ci := 0) (q0 := 0) rfl rfl) (hP.sub [0, 1, 2, 3, 4, 5] rfl) (hK.sub [0] rfl) hZ rfl hl.1 rfl (Nat.le_of_ble_eq_true rfl) dL_threadOf_4 (Nat.le_of_ble_eq_true rfl) (Nat.le_of_ble_eq_true rfl) hS [] ⟨0, 9, 12, 13⟩ [] (by rw [hTab]; rfl) (fun _ h => nomatch h) (by decide) (by decide) (hts (.classLink RL 13 t_IO) (by decide +kernel)) (Or.inl rfl) (fun q9 H locs hS => ?_)
  refine lv_astore_n (lv' := [(3, .ref q9), (0, .ref (ad 0)), (1, .int x1), (2, .ref o)]) hx hb dL_threadOf_12 rfl hl (by decide) rfl (fun ls hl => ?_)
  refine lv_iconst (v := 1) hx hb dL_threadOf_13 (by decide) ?_
  exact l_retX hx hb hr hlocks hS rfl dL_threadOf_14

theorem kq_L_lengthOf : yL_lengthOf.cls ≠ "java/lang/invoke/MethodHandle" ∧ yL_lengthOf.cls ≠ "java/lang/invoke/VarHandle" ∧ (parseMethodDescriptor yL_lengthOf.desc).map (fun d => d.parameters.length) = some 3 := by decide +kernel
set_option maxHeartbeats 4000000 in
set_option maxRecDepth 100000 in
theorem c_L_lengthOf (l : Launch) (D : va_G) (cI cJ : ClassId) (ad : Nat → Nat) (o : Nat) (n : Int32) (wN : Nat) (t : Int32) (pa pe : Int32) (f0 f1 f2 f3 f4 : Nat → Int32) (x1 : Int32) (h1a : ¬ x1 < 0) (h1b : x1 < t) (hwN : wN ≤ 24) (fo : Nat → Int64) : m_I l yL_lengthOf wsL_lengthOf ({ frames := 4, cells := 0, slots := 0, locals := 86 } : Room) D [(cI, .int), (cJ, .long)] (lw cI cJ ad o n (nI wN) t pa pe f0 f1 f2 f3 f4 fo) [.ref (ad 0), .int x1, .ref o] 0 (lw cI cJ ad o n (nI wN) t pa pe f0 f1 f2 f3 f4 (vp_updL fo 0 (((x_wt f4 x1 wN)).toInt64))) := by
  refine l_startI (cc := cL_lengthOf) (maxL := 4) (hh := [(0, 9, 12, 13)]) (by decide) rfl (Nat.le_of_ble_eq_true rfl) ?_
  intro p e s m below meth c A hx hb hml hr hts hown hlocks hK hA H locs ls hP hD hS hl
  have hl : lv_has ls 4 [(0, .ref (ad 0)), (1, .int x1), (2, .ref o)] := hl
  refine lv_aload_n hx hb dL_lengthOf_0 rfl (lv_at hl 2 rfl) ?_
  refine lv_iconst (v := 0) hx hb dL_lengthOf_1 (by decide) ?_
  refine lv_aload_n hx hb dL_lengthOf_2 rfl (lv_at hl 0 rfl) ?_
  refine lv_iload_n hx hb dL_lengthOf_3 rfl (lv_at hl 1 rfl) ?_
  refine q_callV (As := [.int x1]) (rest := [.int 0, .ref o]) ⟨hx, hb, hml, hown, hts⟩ (c_X0_lengthOf l D cI ad n wN t pa pe f0 f1 f2 f3 f4 x1 h1a h1b hwN) (cwV 1 hts gL_lengthOf_X0_lengthOf rfl rfl rfl kv_X0_lengthOf ⟨Nat.le_of_ble_eq_true rfl, Nat.le_of_ble_eq_true rfl⟩) (va_recv hK hP (ci := 0) (q0 := 0) rfl rfl) (hP.sub [0, 1, 2, 3, 4, 5] rfl) (hK.sub [0] rfl) rfl hl.1 rfl (Nat.le_of_ble_eq_true rfl) dL_lengthOf_4 (Nat.zero_le _) (Nat.zero_le _) hS (fun H locs hsm hS => ?_)
  have hP := hsm.P hP
  refine lv_i2l (v := ((x_wt f4 x1 wN)).toInt64) hx hb dL_lengthOf_7 rfl ?_
  refine va_last hx hb hK hP hD hS 6 1 rfl rfl (vp_in_nI (n := 0) (by decide) (by decide)) dL_lengthOf_8 (fun H locs hP hD hS => ?_)
  have hP : va_P D vwCl (lw cI cJ ad o n (nI wN) t pa pe f0 f1 f2 f3 f4 (vp_updL fo 0 (((x_wt f4 x1 wN)).toInt64))) H := hP
  refine lv_goto (tgt := 15) hx hb dL_lengthOf_9 (by decide) ?_
  refine lv_iconst (v := 0) hx hb dL_lengthOf_15 (by decide) ?_
  exact m_retI hx hb hr hlocks hS hP rfl dL_lengthOf_16

set_option maxHeartbeats 4000000 in
set_option maxRecDepth 100000 in
theorem t_L_lengthOf_1 (l : Launch) (D : va_G) (sa : Nat → Nat) (hst : l.stackTraces = false) (cI cJ : ClassId) (ad : Nat → Nat) (o : Nat) (n : Int32) (wN : Nat) (t : Int32) (pa pe : Int32) (f0 f1 f2 f3 f4 : Nat → Int32) (x1 : Int32) (hb1 : x1 < 0 ∨ ¬ x1 < t) (hwN : wN ≤ 24) (fo : Nat → Int64) : l_X l yL_lengthOf wsL_lengthOf ({ frames := 8, cells := 1, slots := 6, locals := 132 } : Room) D [(cI, .int), (cJ, .long)] (lw cI cJ ad o n (nI wN) t pa pe f0 f1 f2 f3 f4 fo) [.ref (ad 0), .int x1, .ref o] sa 1 := by
  refine l_startX (cc := cL_lengthOf) (maxL := 4) (hh := [(0, 9, 12, 13)]) (by decide) rfl (Nat.le_of_ble_eq_true rfl) ?_
  intro p e s m below meth c hx hb hml hr hts hown hlocks hTab hK hZ hNN H locs ls hP hS hl
  have hl : lv_has ls 4 [(0, .ref (ad 0)), (1, .int x1), (2, .ref o)] := hl
  refine lv_aload_n hx hb dL_lengthOf_0 rfl (lv_at hl 2 rfl) ?_
  refine lv_iconst (v := 0) hx hb dL_lengthOf_1 (by decide) ?_
  refine lv_aload_n hx hb dL_lengthOf_2 rfl (lv_at hl 0 rfl) ?_
  refine lv_iload_n hx hb dL_lengthOf_3 rfl (lv_at hl 1 rfl) ?_
  refine l_callX (As := [.int x1]) (rest := [.int 0, .ref o]) (E := t_IO) ⟨hx, hb, hml, hown, hts⟩ (t_X0_lengthOf_1 l D sa hst cI ad n wN t pa pe f0 f1 f2 f3 f4 x1 hb1 hwN) (cwV 1 hts gL_lengthOf_X0_lengthOf rfl rfl rfl kv_X0_lengthOf ⟨Nat.le_of_ble_eq_true rfl, Nat.le_of_ble_eq_true rfl⟩) (va_recv hK hP (ci := 0) (q0 := 0) rfl rfl) (hP.sub [0, 1, 2, 3, 4, 5] rfl) (hK.sub [0] rfl) hZ rfl hl.1 rfl (Nat.le_of_ble_eq_true rfl) dL_lengthOf_4 (Nat.le_of_ble_eq_true rfl) (Nat.le_of_ble_eq_true rfl) hS [] ⟨0, 9, 12, 13⟩ [] (by rw [hTab]; rfl) (fun _ h => nomatch h) (by decide) (by decide) (hts (.classLink RL 13 t_IO) (by decide +kernel)) (Or.inl rfl) (fun q9 H locs hS => ?_)
  refine lv_astore_n (lv' := [(3, .ref q9), (0, .ref (ad 0)), (1, .int x1), (2, .ref o)]) hx hb dL_lengthOf_12 rfl hl (by decide) rfl (fun ls hl => ?_)
  refine lv_iconst (v := 1) hx hb dL_lengthOf_13 (by decide) ?_
  exact l_retX hx hb hr hlocks hS rfl dL_lengthOf_14

theorem kq_L_threadsOf : yL_threadsOf.cls ≠ "java/lang/invoke/MethodHandle" ∧ yL_threadsOf.cls ≠ "java/lang/invoke/VarHandle" ∧ (parseMethodDescriptor yL_threadsOf.desc).map (fun d => d.parameters.length) = some 3 := by decide +kernel
set_option maxHeartbeats 4000000 in
set_option maxRecDepth 100000 in
theorem c_L_threadsOf (l : Launch) (D : va_G) (cI cJ : ClassId) (ad : Nat → Nat) (o : Nat) (n : Int32) (wN : Nat) (t : Int32) (pa pe : Int32) (f0 f1 f2 f3 f4 : Nat → Int32) (x1 : Int32) (h1a : ¬ x1 < 0) (h1b : x1 < 6) (hwN : wN ≤ 24) (fo : Nat → Int64) : m_I l yL_threadsOf wsL_threadsOf ({ frames := 3, cells := 0, slots := 0, locals := 67 } : Room) D [(cI, .int), (cJ, .long)] (lw cI cJ ad o n (nI wN) t pa pe f0 f1 f2 f3 f4 fo) [.ref (ad 0), .int x1, .ref o] 0 (lw cI cJ ad o n (nI wN) t pa pe f0 f1 f2 f3 f4 (vp_updL fo 0 ((((x_to f0 f3 f4 x1 wN).1)).toInt64))) := by
  refine l_startI (cc := cL_threadsOf) (maxL := 4) (hh := [(0, 9, 12, 13)]) (by decide) rfl (Nat.le_of_ble_eq_true rfl) ?_
  intro p e s m below meth c A hx hb hml hr hts hown hlocks hK hA H locs ls hP hD hS hl
  have hl : lv_has ls 4 [(0, .ref (ad 0)), (1, .int x1), (2, .ref o)] := hl
  refine lv_aload_n hx hb dL_threadsOf_0 rfl (lv_at hl 2 rfl) ?_
  refine lv_iconst (v := 0) hx hb dL_threadsOf_1 (by decide) ?_
  refine lv_aload_n hx hb dL_threadsOf_2 rfl (lv_at hl 0 rfl) ?_
  refine lv_iload_n hx hb dL_threadsOf_3 rfl (lv_at hl 1 rfl) ?_
  refine q_callV (As := [.int x1]) (rest := [.int 0, .ref o]) ⟨hx, hb, hml, hown, hts⟩ (c_X0_threadsOf l D cI ad n wN t pa pe f0 f1 f2 f3 f4 x1 h1a h1b hwN) (cwV 1 hts gL_threadsOf_X0_threadsOf rfl rfl rfl kv_X0_threadsOf ⟨Nat.le_of_ble_eq_true rfl, Nat.le_of_ble_eq_true rfl⟩) (va_recv hK hP (ci := 0) (q0 := 0) rfl rfl) (hP.sub [0, 1, 2, 3, 4, 5] rfl) (hK.sub [0] rfl) rfl hl.1 rfl (Nat.le_of_ble_eq_true rfl) dL_threadsOf_4 (Nat.zero_le _) (Nat.zero_le _) hS (fun H locs hsm hS => ?_)
  have hP := hsm.P hP
  refine lv_i2l (v := (((x_to f0 f3 f4 x1 wN).1)).toInt64) hx hb dL_threadsOf_7 rfl ?_
  refine va_last hx hb hK hP hD hS 6 1 rfl rfl (vp_in_nI (n := 0) (by decide) (by decide)) dL_threadsOf_8 (fun H locs hP hD hS => ?_)
  have hP : va_P D vwCl (lw cI cJ ad o n (nI wN) t pa pe f0 f1 f2 f3 f4 (vp_updL fo 0 ((((x_to f0 f3 f4 x1 wN).1)).toInt64))) H := hP
  refine lv_goto (tgt := 15) hx hb dL_threadsOf_9 (by decide) ?_
  refine lv_iconst (v := 0) hx hb dL_threadsOf_15 (by decide) ?_
  exact m_retI hx hb hr hlocks hS hP rfl dL_threadsOf_16

set_option maxHeartbeats 4000000 in
set_option maxRecDepth 100000 in
theorem t_L_threadsOf_1 (l : Launch) (D : va_G) (sa : Nat → Nat) (hst : l.stackTraces = false) (cI cJ : ClassId) (ad : Nat → Nat) (o : Nat) (n : Int32) (wN : Nat) (t : Int32) (pa pe : Int32) (f0 f1 f2 f3 f4 : Nat → Int32) (x1 : Int32) (hb1 : x1 < 0 ∨ ¬ x1 < 6) (hwN : wN ≤ 24) (fo : Nat → Int64) : l_X l yL_threadsOf wsL_threadsOf ({ frames := 8, cells := 1, slots := 6, locals := 135 } : Room) D [(cI, .int), (cJ, .long)] (lw cI cJ ad o n (nI wN) t pa pe f0 f1 f2 f3 f4 fo) [.ref (ad 0), .int x1, .ref o] sa 1 := by
  refine l_startX (cc := cL_threadsOf) (maxL := 4) (hh := [(0, 9, 12, 13)]) (by decide) rfl (Nat.le_of_ble_eq_true rfl) ?_
  intro p e s m below meth c hx hb hml hr hts hown hlocks hTab hK hZ hNN H locs ls hP hS hl
  have hl : lv_has ls 4 [(0, .ref (ad 0)), (1, .int x1), (2, .ref o)] := hl
  refine lv_aload_n hx hb dL_threadsOf_0 rfl (lv_at hl 2 rfl) ?_
  refine lv_iconst (v := 0) hx hb dL_threadsOf_1 (by decide) ?_
  refine lv_aload_n hx hb dL_threadsOf_2 rfl (lv_at hl 0 rfl) ?_
  refine lv_iload_n hx hb dL_threadsOf_3 rfl (lv_at hl 1 rfl) ?_
  refine l_callX (As := [.int x1]) (rest := [.int 0, .ref o]) (E := t_IO) ⟨hx, hb, hml, hown, hts⟩ (t_X0_threadsOf_1 l D sa hst cI ad n wN t pa pe f0 f1 f2 f3 f4 x1 hb1 hwN) (cwV 1 hts gL_threadsOf_X0_threadsOf rfl rfl rfl kv_X0_threadsOf ⟨Nat.le_of_ble_eq_true rfl, Nat.le_of_ble_eq_true rfl⟩) (va_recv hK hP (ci := 0) (q0 := 0) rfl rfl) (hP.sub [0, 1, 2, 3, 4, 5] rfl) (hK.sub [0] rfl) hZ rfl hl.1 rfl (Nat.le_of_ble_eq_true rfl) dL_threadsOf_4 (Nat.le_of_ble_eq_true rfl) (Nat.le_of_ble_eq_true rfl) hS [] ⟨0, 9, 12, 13⟩ [] (by rw [hTab]; rfl) (fun _ h => nomatch h) (by decide) (by decide) (hts (.classLink RL 13 t_IO) (by decide +kernel)) (Or.inl rfl) (fun q9 H locs hS => ?_)
  refine lv_astore_n (lv' := [(3, .ref q9), (0, .ref (ad 0)), (1, .int x1), (2, .ref o)]) hx hb dL_threadsOf_12 rfl hl (by decide) rfl (fun ls hl => ?_)
  refine lv_iconst (v := 1) hx hb dL_threadsOf_13 (by decide) ?_
  exact l_retX hx hb hr hlocks hS rfl dL_threadsOf_14

theorem kq_L_topicsIn : yL_topicsIn.cls ≠ "java/lang/invoke/MethodHandle" ∧ yL_topicsIn.cls ≠ "java/lang/invoke/VarHandle" ∧ (parseMethodDescriptor yL_topicsIn.desc).map (fun d => d.parameters.length) = some 3 := by decide +kernel
set_option maxHeartbeats 4000000 in
set_option maxRecDepth 100000 in
theorem c_L_topicsIn (l : Launch) (D : va_G) (cI cJ : ClassId) (ad : Nat → Nat) (o : Nat) (n : Int32) (wN : Nat) (t : Int32) (pa pe : Int32) (f0 f1 f2 f3 f4 : Nat → Int32) (x1 : Int32) (h1a : ¬ x1 < 0) (h1b : x1 < t) (hwN : wN ≤ 24) (fo : Nat → Int64) : m_I l yL_topicsIn wsL_topicsIn ({ frames := 3, cells := 0, slots := 0, locals := 65 } : Room) D [(cI, .int), (cJ, .long)] (lw cI cJ ad o n (nI wN) t pa pe f0 f1 f2 f3 f4 fo) [.ref (ad 0), .int x1, .ref o] 0 (lw cI cJ ad o n (nI wN) t pa pe f0 f1 f2 f3 f4 (vp_updL fo 0 (((i_bits (x_tm f1 f3 f4 x1 wN))).toInt64))) := by
  refine l_startI (cc := cL_topicsIn) (maxL := 4) (hh := [(0, 9, 12, 13)]) (by decide) rfl (Nat.le_of_ble_eq_true rfl) ?_
  intro p e s m below meth c A hx hb hml hr hts hown hlocks hK hA H locs ls hP hD hS hl
  have hl : lv_has ls 4 [(0, .ref (ad 0)), (1, .int x1), (2, .ref o)] := hl
  refine lv_aload_n hx hb dL_topicsIn_0 rfl (lv_at hl 2 rfl) ?_
  refine lv_iconst (v := 0) hx hb dL_topicsIn_1 (by decide) ?_
  refine lv_aload_n hx hb dL_topicsIn_2 rfl (lv_at hl 0 rfl) ?_
  refine lv_iload_n hx hb dL_topicsIn_3 rfl (lv_at hl 1 rfl) ?_
  refine q_callV (As := [.int x1]) (rest := [.int 0, .ref o]) ⟨hx, hb, hml, hown, hts⟩ (c_X0_topicsIn l D cI ad n wN t pa pe f0 f1 f2 f3 f4 x1 h1a h1b hwN) (cwV 1 hts gL_topicsIn_X0_topicsIn rfl rfl rfl kv_X0_topicsIn ⟨Nat.le_of_ble_eq_true rfl, Nat.le_of_ble_eq_true rfl⟩) (va_recv hK hP (ci := 0) (q0 := 0) rfl rfl) (hP.sub [0, 1, 2, 3, 4, 5] rfl) (hK.sub [0] rfl) rfl hl.1 rfl (Nat.le_of_ble_eq_true rfl) dL_topicsIn_4 (Nat.zero_le _) (Nat.zero_le _) hS (fun H locs hsm hS => ?_)
  have hP := hsm.P hP
  refine lv_i2l (v := ((i_bits (x_tm f1 f3 f4 x1 wN))).toInt64) hx hb dL_topicsIn_7 rfl ?_
  refine va_last hx hb hK hP hD hS 6 1 rfl rfl (vp_in_nI (n := 0) (by decide) (by decide)) dL_topicsIn_8 (fun H locs hP hD hS => ?_)
  have hP : va_P D vwCl (lw cI cJ ad o n (nI wN) t pa pe f0 f1 f2 f3 f4 (vp_updL fo 0 (((i_bits (x_tm f1 f3 f4 x1 wN))).toInt64))) H := hP
  refine lv_goto (tgt := 15) hx hb dL_topicsIn_9 (by decide) ?_
  refine lv_iconst (v := 0) hx hb dL_topicsIn_15 (by decide) ?_
  exact m_retI hx hb hr hlocks hS hP rfl dL_topicsIn_16

set_option maxHeartbeats 4000000 in
set_option maxRecDepth 100000 in
theorem t_L_topicsIn_1 (l : Launch) (D : va_G) (sa : Nat → Nat) (hst : l.stackTraces = false) (cI cJ : ClassId) (ad : Nat → Nat) (o : Nat) (n : Int32) (wN : Nat) (t : Int32) (pa pe : Int32) (f0 f1 f2 f3 f4 : Nat → Int32) (x1 : Int32) (hb1 : x1 < 0 ∨ ¬ x1 < t) (hwN : wN ≤ 24) (fo : Nat → Int64) : l_X l yL_topicsIn wsL_topicsIn ({ frames := 8, cells := 1, slots := 6, locals := 134 } : Room) D [(cI, .int), (cJ, .long)] (lw cI cJ ad o n (nI wN) t pa pe f0 f1 f2 f3 f4 fo) [.ref (ad 0), .int x1, .ref o] sa 1 := by
  refine l_startX (cc := cL_topicsIn) (maxL := 4) (hh := [(0, 9, 12, 13)]) (by decide) rfl (Nat.le_of_ble_eq_true rfl) ?_
  intro p e s m below meth c hx hb hml hr hts hown hlocks hTab hK hZ hNN H locs ls hP hS hl
  have hl : lv_has ls 4 [(0, .ref (ad 0)), (1, .int x1), (2, .ref o)] := hl
  refine lv_aload_n hx hb dL_topicsIn_0 rfl (lv_at hl 2 rfl) ?_
  refine lv_iconst (v := 0) hx hb dL_topicsIn_1 (by decide) ?_
  refine lv_aload_n hx hb dL_topicsIn_2 rfl (lv_at hl 0 rfl) ?_
  refine lv_iload_n hx hb dL_topicsIn_3 rfl (lv_at hl 1 rfl) ?_
  refine l_callX (As := [.int x1]) (rest := [.int 0, .ref o]) (E := t_IO) ⟨hx, hb, hml, hown, hts⟩ (t_X0_topicsIn_1 l D sa hst cI ad n wN t pa pe f0 f1 f2 f3 f4 x1 hb1 hwN) (cwV 1 hts gL_topicsIn_X0_topicsIn rfl rfl rfl kv_X0_topicsIn ⟨Nat.le_of_ble_eq_true rfl, Nat.le_of_ble_eq_true rfl⟩) (va_recv hK hP (ci := 0) (q0 := 0) rfl rfl) (hP.sub [0, 1, 2, 3, 4, 5] rfl) (hK.sub [0] rfl) hZ rfl hl.1 rfl (Nat.le_of_ble_eq_true rfl) dL_topicsIn_4 (Nat.le_of_ble_eq_true rfl) (Nat.le_of_ble_eq_true rfl) hS [] ⟨0, 9, 12, 13⟩ [] (by rw [hTab]; rfl) (fun _ h => nomatch h) (by decide) (by decide) (hts (.classLink RL 13 t_IO) (by decide +kernel)) (Or.inl rfl) (fun q9 H locs hS => ?_)
  refine lv_astore_n (lv' := [(3, .ref q9), (0, .ref (ad 0)), (1, .int x1), (2, .ref o)]) hx hb dL_topicsIn_12 rfl hl (by decide) rfl (fun ls hl => ?_)
  refine lv_iconst (v := 1) hx hb dL_topicsIn_13 (by decide) ?_
  exact l_retX hx hb hr hlocks hS rfl dL_topicsIn_14

theorem kq_L_costOfMending : yL_costOfMending.cls ≠ "java/lang/invoke/MethodHandle" ∧ yL_costOfMending.cls ≠ "java/lang/invoke/VarHandle" ∧ (parseMethodDescriptor yL_costOfMending.desc).map (fun d => d.parameters.length) = some 3 := by decide +kernel
set_option maxHeartbeats 4000000 in
set_option maxRecDepth 100000 in
theorem c_L_costOfMending (l : Launch) (D : va_G) (cI cJ : ClassId) (ad : Nat → Nat) (o : Nat) (n : Int32) (w : Int32) (t : Int32) (pa pe : Int32) (f0 f1 f2 f3 f4 : Nat → Int32) (x1 : Int32) (h1a : ¬ x1 < 0) (h1b : x1 < (x_gc w)) (fo : Nat → Int64) : m_I l yL_costOfMending wsL_costOfMending ({ frames := 6, cells := 0, slots := 0, locals := 129 } : Room) D [(cI, .int), (cJ, .long)] (lw cI cJ ad o n w t pa pe f0 f1 f2 f3 f4 fo) [.ref (ad 0), .int x1, .ref o] 0 (lw cI cJ ad o n w t pa pe f0 f1 f2 f3 f4 (vp_updL fo 0 (((x_mc f0 f1 f2 f3 x1)).toInt64))) := by
  refine l_startI (cc := cL_costOfMending) (maxL := 4) (hh := [(0, 9, 12, 13)]) (by decide) rfl (Nat.le_of_ble_eq_true rfl) ?_
  intro p e s m below meth c A hx hb hml hr hts hown hlocks hK hA H locs ls hP hD hS hl
  have hl : lv_has ls 4 [(0, .ref (ad 0)), (1, .int x1), (2, .ref o)] := hl
  refine lv_aload_n hx hb dL_costOfMending_0 rfl (lv_at hl 2 rfl) ?_
  refine lv_iconst (v := 0) hx hb dL_costOfMending_1 (by decide) ?_
  refine lv_aload_n hx hb dL_costOfMending_2 rfl (lv_at hl 0 rfl) ?_
  refine lv_iload_n hx hb dL_costOfMending_3 rfl (lv_at hl 1 rfl) ?_
  refine q_callV (As := [.int x1]) (rest := [.int 0, .ref o]) ⟨hx, hb, hml, hown, hts⟩ (c_X0_costOfMending l D cI ad n w t pa pe f0 f1 f2 f3 f4 x1 h1a h1b) (cwV 1 hts gL_costOfMending_X0_costOfMending rfl rfl rfl kv_X0_costOfMending ⟨Nat.le_of_ble_eq_true rfl, Nat.le_of_ble_eq_true rfl⟩) (va_recv hK hP (ci := 0) (q0 := 0) rfl rfl) (hP.sub [0, 1, 2, 3, 4, 5] rfl) (hK.sub [0] rfl) rfl hl.1 rfl (Nat.le_of_ble_eq_true rfl) dL_costOfMending_4 (Nat.zero_le _) (Nat.zero_le _) hS (fun H locs hsm hS => ?_)
  have hP := hsm.P hP
  refine lv_i2l (v := ((x_mc f0 f1 f2 f3 x1)).toInt64) hx hb dL_costOfMending_7 rfl ?_
  refine va_last hx hb hK hP hD hS 6 1 rfl rfl (vp_in_nI (n := 0) (by decide) (by decide)) dL_costOfMending_8 (fun H locs hP hD hS => ?_)
  have hP : va_P D vwCl (lw cI cJ ad o n w t pa pe f0 f1 f2 f3 f4 (vp_updL fo 0 (((x_mc f0 f1 f2 f3 x1)).toInt64))) H := hP
  refine lv_goto (tgt := 15) hx hb dL_costOfMending_9 (by decide) ?_
  refine lv_iconst (v := 0) hx hb dL_costOfMending_15 (by decide) ?_
  exact m_retI hx hb hr hlocks hS hP rfl dL_costOfMending_16

set_option maxHeartbeats 4000000 in
set_option maxRecDepth 100000 in
theorem t_L_costOfMending_1 (l : Launch) (D : va_G) (sa : Nat → Nat) (hst : l.stackTraces = false) (cI cJ : ClassId) (ad : Nat → Nat) (o : Nat) (n : Int32) (w : Int32) (t : Int32) (pa pe : Int32) (f0 f1 f2 f3 f4 : Nat → Int32) (x1 : Int32) (hb1 : x1 < 0 ∨ ¬ x1 < (x_gc w)) (fo : Nat → Int64) : l_X l yL_costOfMending wsL_costOfMending ({ frames := 8, cells := 1, slots := 6, locals := 132 } : Room) D [(cI, .int), (cJ, .long)] (lw cI cJ ad o n w t pa pe f0 f1 f2 f3 f4 fo) [.ref (ad 0), .int x1, .ref o] sa 1 := by
  refine l_startX (cc := cL_costOfMending) (maxL := 4) (hh := [(0, 9, 12, 13)]) (by decide) rfl (Nat.le_of_ble_eq_true rfl) ?_
  intro p e s m below meth c hx hb hml hr hts hown hlocks hTab hK hZ hNN H locs ls hP hS hl
  have hl : lv_has ls 4 [(0, .ref (ad 0)), (1, .int x1), (2, .ref o)] := hl
  refine lv_aload_n hx hb dL_costOfMending_0 rfl (lv_at hl 2 rfl) ?_
  refine lv_iconst (v := 0) hx hb dL_costOfMending_1 (by decide) ?_
  refine lv_aload_n hx hb dL_costOfMending_2 rfl (lv_at hl 0 rfl) ?_
  refine lv_iload_n hx hb dL_costOfMending_3 rfl (lv_at hl 1 rfl) ?_
  refine l_callX (As := [.int x1]) (rest := [.int 0, .ref o]) (E := t_IO) ⟨hx, hb, hml, hown, hts⟩ (t_X0_costOfMending_1 l D sa hst cI ad n w t pa pe f0 f1 f2 f3 f4 x1 hb1) (cwV 1 hts gL_costOfMending_X0_costOfMending rfl rfl rfl kv_X0_costOfMending ⟨Nat.le_of_ble_eq_true rfl, Nat.le_of_ble_eq_true rfl⟩) (va_recv hK hP (ci := 0) (q0 := 0) rfl rfl) (hP.sub [0, 1, 2, 3, 4, 5] rfl) (hK.sub [0] rfl) hZ rfl hl.1 rfl (Nat.le_of_ble_eq_true rfl) dL_costOfMending_4 (Nat.le_of_ble_eq_true rfl) (Nat.le_of_ble_eq_true rfl) hS [] ⟨0, 9, 12, 13⟩ [] (by rw [hTab]; rfl) (fun _ h => nomatch h) (by decide) (by decide) (hts (.classLink RL 13 t_IO) (by decide +kernel)) (Or.inl rfl) (fun q9 H locs hS => ?_)
  refine lv_astore_n (lv' := [(3, .ref q9), (0, .ref (ad 0)), (1, .int x1), (2, .ref o)]) hx hb dL_costOfMending_12 rfl hl (by decide) rfl (fun ls hl => ?_)
  refine lv_iconst (v := 1) hx hb dL_costOfMending_13 (by decide) ?_
  exact l_retX hx hb hr hlocks hS rfl dL_costOfMending_14

theorem kq_L_brokenAfterSplice : yL_brokenAfterSplice.cls ≠ "java/lang/invoke/MethodHandle" ∧ yL_brokenAfterSplice.cls ≠ "java/lang/invoke/VarHandle" ∧ (parseMethodDescriptor yL_brokenAfterSplice.desc).map (fun d => d.parameters.length) = some 3 := by decide +kernel
set_option maxHeartbeats 4000000 in
set_option maxRecDepth 100000 in
theorem c_L_brokenAfterSplice (l : Launch) (D : va_G) (cI cJ : ClassId) (ad : Nat → Nat) (o : Nat) (n : Int32) (wN : Nat) (t : Int32) (pa pe : Int32) (f0 f1 f2 f3 f4 : Nat → Int32) (x1 : Int32) (h1a : ¬ x1 < 0) (h1b : x1 < (x_gc (nI wN))) (h2a : x_ti f2 f3 x1 = false) (hwN : wN ≤ 24) (fo : Nat → Int64) : m_I l yL_brokenAfterSplice wsL_brokenAfterSplice ({ frames := 6, cells := 0, slots := 0, locals := 133 } : Room) D [(cI, .int), (cJ, .long)] (lw cI cJ ad o n (nI wN) t pa pe f0 f1 f2 f3 f4 fo) [.ref (ad 0), .int x1, .ref o] 0 (lw cI cJ ad o n (nI wN) t pa pe f0 f1 f2 f3 f4 (vp_updL fo 0 (((x_gk f0 f1 f2 f3 2 wN + x_bc f0 f1 f2 f3 x1)).toInt64))) := by
  refine l_startI (cc := cL_brokenAfterSplice) (maxL := 4) (hh := [(0, 9, 12, 13), (0, 9, 15, 17)]) (by decide) rfl (Nat.le_of_ble_eq_true rfl) ?_
  intro p e s m below meth c A hx hb hml hr hts hown hlocks hK hA H locs ls hP hD hS hl
  have hl : lv_has ls 4 [(0, .ref (ad 0)), (1, .int x1), (2, .ref o)] := hl
  refine lv_aload_n hx hb dL_brokenAfterSplice_0 rfl (lv_at hl 2 rfl) ?_
  refine lv_iconst (v := 0) hx hb dL_brokenAfterSplice_1 (by decide) ?_
  refine lv_aload_n hx hb dL_brokenAfterSplice_2 rfl (lv_at hl 0 rfl) ?_
  refine lv_iload_n hx hb dL_brokenAfterSplice_3 rfl (lv_at hl 1 rfl) ?_
  refine q_callV (As := [.int x1]) (rest := [.int 0, .ref o]) ⟨hx, hb, hml, hown, hts⟩ (c_X0_brokenAfterSplice l D cI ad n wN t pa pe f0 f1 f2 f3 f4 x1 h1a h1b h2a hwN) (cwV 1 hts gL_brokenAfterSplice_X0_brokenAfterSplice rfl rfl rfl kv_X0_brokenAfterSplice ⟨Nat.le_of_ble_eq_true rfl, Nat.le_of_ble_eq_true rfl⟩) (va_recv hK hP (ci := 0) (q0 := 0) rfl rfl) (hP.sub [0, 1, 2, 3, 4, 5] rfl) (hK.sub [0] rfl) rfl hl.1 rfl (Nat.le_of_ble_eq_true rfl) dL_brokenAfterSplice_4 (Nat.zero_le _) (Nat.zero_le _) hS (fun H locs hsm hS => ?_)
  have hP := hsm.P hP
  refine lv_i2l (v := ((x_gk f0 f1 f2 f3 2 wN + x_bc f0 f1 f2 f3 x1)).toInt64) hx hb dL_brokenAfterSplice_7 rfl ?_
  refine va_last hx hb hK hP hD hS 6 1 rfl rfl (vp_in_nI (n := 0) (by decide) (by decide)) dL_brokenAfterSplice_8 (fun H locs hP hD hS => ?_)
  have hP : va_P D vwCl (lw cI cJ ad o n (nI wN) t pa pe f0 f1 f2 f3 f4 (vp_updL fo 0 (((x_gk f0 f1 f2 f3 2 wN + x_bc f0 f1 f2 f3 x1)).toInt64))) H := hP
  refine lv_goto (tgt := 18) hx hb dL_brokenAfterSplice_9 (by decide) ?_
  refine lv_iconst (v := 0) hx hb dL_brokenAfterSplice_18 (by decide) ?_
  exact m_retI hx hb hr hlocks hS hP rfl dL_brokenAfterSplice_19

set_option maxHeartbeats 4000000 in
set_option maxRecDepth 100000 in
theorem t_L_brokenAfterSplice_1 (l : Launch) (D : va_G) (sa : Nat → Nat) (hst : l.stackTraces = false) (cI cJ : ClassId) (ad : Nat → Nat) (o : Nat) (n : Int32) (wN : Nat) (t : Int32) (pa pe : Int32) (f0 f1 f2 f3 f4 : Nat → Int32) (x1 : Int32) (hb1 : x1 < 0 ∨ ¬ x1 < (x_gc (nI wN))) (hwN : wN ≤ 24) (fo : Nat → Int64) : l_X l yL_brokenAfterSplice wsL_brokenAfterSplice ({ frames := 8, cells := 1, slots := 6, locals := 132 } : Room) D [(cI, .int), (cJ, .long)] (lw cI cJ ad o n (nI wN) t pa pe f0 f1 f2 f3 f4 fo) [.ref (ad 0), .int x1, .ref o] sa 1 := by
  refine l_startX (cc := cL_brokenAfterSplice) (maxL := 4) (hh := [(0, 9, 12, 13), (0, 9, 15, 17)]) (by decide) rfl (Nat.le_of_ble_eq_true rfl) ?_
  intro p e s m below meth c hx hb hml hr hts hown hlocks hTab hK hZ hNN H locs ls hP hS hl
  have hl : lv_has ls 4 [(0, .ref (ad 0)), (1, .int x1), (2, .ref o)] := hl
  refine lv_aload_n hx hb dL_brokenAfterSplice_0 rfl (lv_at hl 2 rfl) ?_
  refine lv_iconst (v := 0) hx hb dL_brokenAfterSplice_1 (by decide) ?_
  refine lv_aload_n hx hb dL_brokenAfterSplice_2 rfl (lv_at hl 0 rfl) ?_
  refine lv_iload_n hx hb dL_brokenAfterSplice_3 rfl (lv_at hl 1 rfl) ?_
  refine l_callX (As := [.int x1]) (rest := [.int 0, .ref o]) (E := t_IO) ⟨hx, hb, hml, hown, hts⟩ (t_X0_brokenAfterSplice_1 l D sa hst cI ad n wN t pa pe f0 f1 f2 f3 f4 x1 hb1 hwN) (cwV 1 hts gL_brokenAfterSplice_X0_brokenAfterSplice rfl rfl rfl kv_X0_brokenAfterSplice ⟨Nat.le_of_ble_eq_true rfl, Nat.le_of_ble_eq_true rfl⟩) (va_recv hK hP (ci := 0) (q0 := 0) rfl rfl) (hP.sub [0, 1, 2, 3, 4, 5] rfl) (hK.sub [0] rfl) hZ rfl hl.1 rfl (Nat.le_of_ble_eq_true rfl) dL_brokenAfterSplice_4 (Nat.le_of_ble_eq_true rfl) (Nat.le_of_ble_eq_true rfl) hS [] ⟨0, 9, 12, 13⟩ [⟨0, 9, 15, 17⟩] (by rw [hTab]; rfl) (fun _ h => nomatch h) (by decide) (by decide) (hts (.classLink RL 13 t_IO) (by decide +kernel)) (Or.inl rfl) (fun q9 H locs hS => ?_)
  refine lv_astore_n (lv' := [(3, .ref q9), (0, .ref (ad 0)), (1, .int x1), (2, .ref o)]) hx hb dL_brokenAfterSplice_12 rfl hl (by decide) rfl (fun ls hl => ?_)
  refine lv_iconst (v := 1) hx hb dL_brokenAfterSplice_13 (by decide) ?_
  exact l_retX hx hb hr hlocks hS rfl dL_brokenAfterSplice_14

set_option maxHeartbeats 4000000 in
set_option maxRecDepth 100000 in
theorem t_L_brokenAfterSplice_2 (l : Launch) (D : va_G) (sa : Nat → Nat) (hst : l.stackTraces = false) (cI cJ : ClassId) (ad : Nat → Nat) (o : Nat) (n : Int32) (wN : Nat) (t : Int32) (pa pe : Int32) (f0 f1 f2 f3 f4 : Nat → Int32) (x1 : Int32) (h1a : ¬ x1 < 0) (h1b : x1 < (x_gc (nI wN))) (hb2 : x_ti f2 f3 x1 = true) (hwN : wN ≤ 24) (fo : Nat → Int64) : l_X l yL_brokenAfterSplice wsL_brokenAfterSplice ({ frames := 8, cells := 1, slots := 6, locals := 132 } : Room) D [(cI, .int), (cJ, .long)] (lw cI cJ ad o n (nI wN) t pa pe f0 f1 f2 f3 f4 fo) [.ref (ad 0), .int x1, .ref o] sa 2 := by
  refine l_startX (cc := cL_brokenAfterSplice) (maxL := 4) (hh := [(0, 9, 12, 13), (0, 9, 15, 17)]) (by decide) rfl (Nat.le_of_ble_eq_true rfl) ?_
  intro p e s m below meth c hx hb hml hr hts hown hlocks hTab hK hZ hNN H locs ls hP hS hl
  have hl : lv_has ls 4 [(0, .ref (ad 0)), (1, .int x1), (2, .ref o)] := hl
  refine lv_aload_n hx hb dL_brokenAfterSplice_0 rfl (lv_at hl 2 rfl) ?_
  refine lv_iconst (v := 0) hx hb dL_brokenAfterSplice_1 (by decide) ?_
  refine lv_aload_n hx hb dL_brokenAfterSplice_2 rfl (lv_at hl 0 rfl) ?_
  refine lv_iload_n hx hb dL_brokenAfterSplice_3 rfl (lv_at hl 1 rfl) ?_
  refine l_callX (As := [.int x1]) (rest := [.int 0, .ref o]) (E := t_IS) ⟨hx, hb, hml, hown, hts⟩ (t_X0_brokenAfterSplice_2 l D sa hst cI ad n wN t pa pe f0 f1 f2 f3 f4 x1 h1a h1b hb2 hwN) (cwV 1 hts gL_brokenAfterSplice_X0_brokenAfterSplice rfl rfl rfl kv_X0_brokenAfterSplice ⟨Nat.le_of_ble_eq_true rfl, Nat.le_of_ble_eq_true rfl⟩) (va_recv hK hP (ci := 0) (q0 := 0) rfl rfl) (hP.sub [0, 1, 2, 3, 4, 5] rfl) (hK.sub [0] rfl) hZ rfl hl.1 rfl (Nat.le_of_ble_eq_true rfl) dL_brokenAfterSplice_4 (Nat.le_of_ble_eq_true rfl) (Nat.le_of_ble_eq_true rfl) hS [⟨0, 9, 12, 13⟩] ⟨0, 9, 15, 17⟩ [] (by rw [hTab]; rfl) (List.forall_mem_cons.mpr ⟨Or.inr ⟨by decide, t_IO, hts (.classLink RL 13 t_IO) (by decide +kernel), hNN.2.1⟩, (fun _ h => nomatch h)⟩) (by decide) (by decide) (hts (.classLink RL 17 t_IS) (by decide +kernel)) (Or.inr (Or.inr rfl)) (fun q9 H locs hS => ?_)
  refine lv_astore_n (lv' := [(3, .ref q9), (0, .ref (ad 0)), (1, .int x1), (2, .ref o)]) hx hb dL_brokenAfterSplice_15 rfl hl (by decide) rfl (fun ls hl => ?_)
  refine lv_iconst (v := 2) hx hb dL_brokenAfterSplice_16 (by decide) ?_
  exact l_retX hx hb hr hlocks hS rfl dL_brokenAfterSplice_17

theorem kq_L_wouldBreak : yL_wouldBreak.cls ≠ "java/lang/invoke/MethodHandle" ∧ yL_wouldBreak.cls ≠ "java/lang/invoke/VarHandle" ∧ (parseMethodDescriptor yL_wouldBreak.desc).map (fun d => d.parameters.length) = some 4 := by decide +kernel
set_option maxHeartbeats 4000000 in
set_option maxRecDepth 100000 in
theorem c_L_wouldBreak (l : Launch) (D : va_G) (cI cJ : ClassId) (ad : Nat → Nat) (o : Nat) (n : Int32) (w : Int32) (t : Int32) (pa pe : Int32) (f0 f1 f2 f3 f4 : Nat → Int32) (x1 : Int32) (x2 : Int32) (h1a : ¬ x1 < 0) (h1b : x1 < 6) (h2a : ¬ x2 < 0) (h2b : x2 < 10) (fo : Nat → Int64) : m_I l yL_wouldBreak wsL_wouldBreak ({ frames := 3, cells := 0, slots := 0, locals := 68 } : Room) D [(cI, .int), (cJ, .long)] (lw cI cJ ad o n w t pa pe f0 f1 f2 f3 f4 fo) [.ref (ad 0), .int x1, .int x2, .ref o] 0 (lw cI cJ ad o n w t pa pe f0 f1 f2 f3 f4 (vp_updL fo 0 (bL (x_wb f0 f1 f3 n w x1 x2)))) := by
  refine l_startI (cc := cL_wouldBreak) (maxL := 5) (hh := [(0, 17, 20, 13), (0, 17, 24, 15)]) (by decide) rfl (Nat.le_of_ble_eq_true rfl) ?_
  intro p e s m below meth c A hx hb hml hr hts hown hlocks hK hA H locs ls hP hD hS hl
  have hl : lv_has ls 5 [(0, .ref (ad 0)), (1, .int x1), (2, .int x2), (3, .ref o)] := hl
  refine lv_aload_n hx hb dL_wouldBreak_0 rfl (lv_at hl 3 rfl) ?_
  refine lv_iconst (v := 0) hx hb dL_wouldBreak_1 (by decide) ?_
  refine lv_aload_n hx hb dL_wouldBreak_2 rfl (lv_at hl 0 rfl) ?_
  refine lv_iload_n hx hb dL_wouldBreak_3 rfl (lv_at hl 1 rfl) ?_
  refine lv_iload_n hx hb dL_wouldBreak_4 rfl (lv_at hl 2 rfl) ?_
  refine q_callV (As := [.int x1, .int x2]) (rest := [.int 0, .ref o]) ⟨hx, hb, hml, hown, hts⟩ (c_X0_wouldBreak l D cI ad n w t pa pe f0 f1 f2 f3 f4 x1 x2 h1a h1b h2a h2b) (cwV 2 hts gL_wouldBreak_X0_wouldBreak rfl rfl rfl kv_X0_wouldBreak ⟨Nat.le_of_ble_eq_true rfl, Nat.le_of_ble_eq_true rfl⟩) (va_recv hK hP (ci := 0) (q0 := 0) rfl rfl) (hP.sub [0, 1, 2, 3, 4, 5] rfl) (hK.sub [0] rfl) rfl hl.1 rfl (Nat.le_of_ble_eq_true rfl) dL_wouldBreak_5 (Nat.zero_le _) (Nat.zero_le _) hS (fun H locs hsm hS => ?_)
  have hP := hsm.P hP
  suffices K : ∀ v9 : Int64, v9 = bL (x_wb f0 f1 f3 n w x1 x2) → W p l e ({ frames := 3, cells := 0, slots := 0, locals := 68 } : Room) s m [.ref (ad 0), .int x1, .int x2, .ref o].toArray below meth c H locs 0 0 (m_EI D below [.ref (ad 0), .int x1, .int x2, .ref o].toArray s 0 (lw cI cJ ad o n w t pa pe f0 f1 f2 f3 f4 (vp_updL fo 0 (bL (x_wb f0 f1 f3 n w x1 x2)))) A) (F0 m 16 ls [.long v9, .int 0, .ref o]) from by
    refine lv_if_eq (tgt := 15) hx hb dL_wouldBreak_8 (by decide) (fun h9 => ?_) (fun h9 => ?_)
    · refine lv_lconst (v := 0) hx hb dL_wouldBreak_15 (by decide) ?_
      exact K _ (by rw [bI_0.mp h9]; rfl)
    · refine lv_lconst (v := 1) hx hb dL_wouldBreak_11 (by decide) ?_
      refine lv_goto (tgt := 16) hx hb dL_wouldBreak_12 (by decide) ?_
      exact K _ (by rw [bI_n0.mp h9]; rfl)
  intro v9 hv9
  rw [hv9]; clear hv9
  refine va_last hx hb hK hP hD hS 6 1 rfl rfl (vp_in_nI (n := 0) (by decide) (by decide)) dL_wouldBreak_16 (fun H locs hP hD hS => ?_)
  have hP : va_P D vwCl (lw cI cJ ad o n w t pa pe f0 f1 f2 f3 f4 (vp_updL fo 0 (bL (x_wb f0 f1 f3 n w x1 x2)))) H := hP
  refine lv_goto (tgt := 28) hx hb dL_wouldBreak_17 (by decide) ?_
  refine lv_iconst (v := 0) hx hb dL_wouldBreak_28 (by decide) ?_
  exact m_retI hx hb hr hlocks hS hP rfl dL_wouldBreak_29

set_option maxHeartbeats 4000000 in
set_option maxRecDepth 100000 in
theorem t_L_wouldBreak_1 (l : Launch) (D : va_G) (sa : Nat → Nat) (hst : l.stackTraces = false) (cI cJ : ClassId) (ad : Nat → Nat) (o : Nat) (n : Int32) (w : Int32) (t : Int32) (pa pe : Int32) (f0 f1 f2 f3 f4 : Nat → Int32) (x1 : Int32) (x2 : Int32) (hb1 : x1 < 0 ∨ ¬ x1 < 6) (fo : Nat → Int64) : l_X l yL_wouldBreak wsL_wouldBreak ({ frames := 8, cells := 1, slots := 6, locals := 135 } : Room) D [(cI, .int), (cJ, .long)] (lw cI cJ ad o n w t pa pe f0 f1 f2 f3 f4 fo) [.ref (ad 0), .int x1, .int x2, .ref o] sa 1 := by
  refine l_startX (cc := cL_wouldBreak) (maxL := 5) (hh := [(0, 17, 20, 13), (0, 17, 24, 15)]) (by decide) rfl (Nat.le_of_ble_eq_true rfl) ?_
  intro p e s m below meth c hx hb hml hr hts hown hlocks hTab hK hZ hNN H locs ls hP hS hl
  have hl : lv_has ls 5 [(0, .ref (ad 0)), (1, .int x1), (2, .int x2), (3, .ref o)] := hl
  refine lv_aload_n hx hb dL_wouldBreak_0 rfl (lv_at hl 3 rfl) ?_
  refine lv_iconst (v := 0) hx hb dL_wouldBreak_1 (by decide) ?_
  refine lv_aload_n hx hb dL_wouldBreak_2 rfl (lv_at hl 0 rfl) ?_
  refine lv_iload_n hx hb dL_wouldBreak_3 rfl (lv_at hl 1 rfl) ?_
  refine lv_iload_n hx hb dL_wouldBreak_4 rfl (lv_at hl 2 rfl) ?_
  refine l_callX (As := [.int x1, .int x2]) (rest := [.int 0, .ref o]) (E := t_IO) ⟨hx, hb, hml, hown, hts⟩ (t_X0_wouldBreak_1 l D sa hst cI ad n w t pa pe f0 f1 f2 f3 f4 x1 x2 hb1) (cwV 2 hts gL_wouldBreak_X0_wouldBreak rfl rfl rfl kv_X0_wouldBreak ⟨Nat.le_of_ble_eq_true rfl, Nat.le_of_ble_eq_true rfl⟩) (va_recv hK hP (ci := 0) (q0 := 0) rfl rfl) (hP.sub [0, 1, 2, 3, 4, 5] rfl) (hK.sub [0] rfl) hZ rfl hl.1 rfl (Nat.le_of_ble_eq_true rfl) dL_wouldBreak_5 (Nat.le_of_ble_eq_true rfl) (Nat.le_of_ble_eq_true rfl) hS [] ⟨0, 17, 20, 13⟩ [⟨0, 17, 24, 15⟩] (by rw [hTab]; rfl) (fun _ h => nomatch h) (by decide) (by decide) (hts (.classLink RL 13 t_IO) (by decide +kernel)) (Or.inl rfl) (fun q9 H locs hS => ?_)
  refine lv_astore (lv' := [(4, .ref q9), (0, .ref (ad 0)), (1, .int x1), (2, .int x2), (3, .ref o)]) hx hb dL_wouldBreak_20 hl (by decide) rfl (fun ls hl => ?_)
  refine lv_iconst (v := 1) hx hb dL_wouldBreak_22 (by decide) ?_
  exact l_retX hx hb hr hlocks hS rfl dL_wouldBreak_23

set_option maxHeartbeats 4000000 in
set_option maxRecDepth 100000 in
theorem t_L_wouldBreak_2 (l : Launch) (D : va_G) (sa : Nat → Nat) (hst : l.stackTraces = false) (cI cJ : ClassId) (ad : Nat → Nat) (o : Nat) (n : Int32) (w : Int32) (t : Int32) (pa pe : Int32) (f0 f1 f2 f3 f4 : Nat → Int32) (x1 : Int32) (x2 : Int32) (h1a : ¬ x1 < 0) (h1b : x1 < 6) (hb2 : x2 < 0 ∨ ¬ x2 < 10) (fo : Nat → Int64) : l_X l yL_wouldBreak wsL_wouldBreak ({ frames := 8, cells := 1, slots := 6, locals := 135 } : Room) D [(cI, .int), (cJ, .long)] (lw cI cJ ad o n w t pa pe f0 f1 f2 f3 f4 fo) [.ref (ad 0), .int x1, .int x2, .ref o] sa 2 := by
  refine l_startX (cc := cL_wouldBreak) (maxL := 5) (hh := [(0, 17, 20, 13), (0, 17, 24, 15)]) (by decide) rfl (Nat.le_of_ble_eq_true rfl) ?_
  intro p e s m below meth c hx hb hml hr hts hown hlocks hTab hK hZ hNN H locs ls hP hS hl
  have hl : lv_has ls 5 [(0, .ref (ad 0)), (1, .int x1), (2, .int x2), (3, .ref o)] := hl
  refine lv_aload_n hx hb dL_wouldBreak_0 rfl (lv_at hl 3 rfl) ?_
  refine lv_iconst (v := 0) hx hb dL_wouldBreak_1 (by decide) ?_
  refine lv_aload_n hx hb dL_wouldBreak_2 rfl (lv_at hl 0 rfl) ?_
  refine lv_iload_n hx hb dL_wouldBreak_3 rfl (lv_at hl 1 rfl) ?_
  refine lv_iload_n hx hb dL_wouldBreak_4 rfl (lv_at hl 2 rfl) ?_
  refine l_callX (As := [.int x1, .int x2]) (rest := [.int 0, .ref o]) (E := t_IA) ⟨hx, hb, hml, hown, hts⟩ (t_X0_wouldBreak_2 l D sa hst cI ad n w t pa pe f0 f1 f2 f3 f4 x1 x2 h1a h1b hb2) (cwV 2 hts gL_wouldBreak_X0_wouldBreak rfl rfl rfl kv_X0_wouldBreak ⟨Nat.le_of_ble_eq_true rfl, Nat.le_of_ble_eq_true rfl⟩) (va_recv hK hP (ci := 0) (q0 := 0) rfl rfl) (hP.sub [0, 1, 2, 3, 4, 5] rfl) (hK.sub [0] rfl) hZ rfl hl.1 rfl (Nat.le_of_ble_eq_true rfl) dL_wouldBreak_5 (Nat.le_of_ble_eq_true rfl) (Nat.le_of_ble_eq_true rfl) hS [⟨0, 17, 20, 13⟩] ⟨0, 17, 24, 15⟩ [] (by rw [hTab]; rfl) (List.forall_mem_cons.mpr ⟨Or.inr ⟨by decide, t_IO, hts (.classLink RL 13 t_IO) (by decide +kernel), hNN.1⟩, (fun _ h => nomatch h)⟩) (by decide) (by decide) (hts (.classLink RL 15 t_IA) (by decide +kernel)) (Or.inr (Or.inl rfl)) (fun q9 H locs hS => ?_)
  refine lv_astore (lv' := [(4, .ref q9), (0, .ref (ad 0)), (1, .int x1), (2, .int x2), (3, .ref o)]) hx hb dL_wouldBreak_24 hl (by decide) rfl (fun ls hl => ?_)
  refine lv_iconst (v := 2) hx hb dL_wouldBreak_26 (by decide) ?_
  exact l_retX hx hb hr hlocks hS rfl dL_wouldBreak_27
