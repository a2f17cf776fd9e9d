/-! own rows, written by wip/whole/xpub.py: the class's checks and its public methods: the roads without a throw (c_), the throws (t_) -/
def x_wo (f0 f3 : Nat → Int32) (s : Int32) (N : Nat) : Nat := ct (fun k => decide (x_sp f0 f3 (nI k) = s)) N
def x_to (f0 f3 f4 : Nat → Int32) (s : Int32) : Nat → Int32 × Int32 := fo (fun k a => if x_sp f0 f3 (nI k) = s ∧ ¬ rd f4 (nI k) = a.2 then (a.1 + 1, rd f4 (nI k)) else a) (0, -1)
theorem x_to_s (f0 f3 f4 : Nat → Int32) (s : Int32) (k : Nat) : x_to f0 f3 f4 s (k + 1) = if x_sp f0 f3 (nI k) = s ∧ ¬ rd f4 (nI k) = (x_to f0 f3 f4 s k).2 then ((x_to f0 f3 f4 s k).1 + 1, rd f4 (nI k)) else x_to f0 f3 f4 s k := rfl
def x_tm (f1 f3 f4 : Nat → Int32) (t : Int32) : Nat → Int32 := fo (fun k a => if rd f4 (nI k) = t then a ||| ((1 : Int32) <<< (x_tp f1 f3 (nI k) &&& 31)) else a) 0
theorem x_tm_s (f1 f3 f4 : Nat → Int32) (t : Int32) (k : Nat) : x_tm f1 f3 f4 t (k + 1) = if rd f4 (nI k) = t then x_tm f1 f3 f4 t k ||| ((1 : Int32) <<< (x_tp f1 f3 (nI k) &&& 31)) else x_tm f1 f3 f4 t k := rfl
def i_us (x : Int32) (k : Int32) : Int32 := (x.toUInt32 >>> (k.toUInt32 &&& Int32.toUInt32 31)).toInt32
def i_b1 (x : Int32) : Int32 := x - (i_us x 1 &&& 1431655765)
def i_b2 (x : Int32) : Int32 := (x &&& 858993459) + (i_us x 2 &&& 858993459)
def i_b3 (x : Int32) : Int32 := (x + i_us x 4) &&& 252645135
def i_b4 (x : Int32) : Int32 := x + i_us x 8
def i_b5 (x : Int32) : Int32 := x + i_us x 16
def i_bits (x : Int32) : Int32 := i_b5 (i_b4 (i_b3 (i_b2 (i_b1 x)))) &&& 63
theorem kv_X0_requireSpeaker : yX0_requireSpeaker.cls = RX0 ∧ yX0_requireSpeaker.cls ≠ "java/lang/invoke/MethodHandle" ∧ yX0_requireSpeaker.cls ≠ "java/lang/invoke/VarHandle" ∧ (parseMethodDescriptor yX0_requireSpeaker.desc).map (fun d => d.parameters.length) = some 1 := by decide +kernel
theorem ks_X0_requireSpeaker : yX0_requireSpeaker.cls ≠ "java/lang/invoke/MethodHandle" ∧ yX0_requireSpeaker.cls ≠ "java/lang/invoke/VarHandle" ∧ (parseMethodDescriptor yX0_requireSpeaker.desc).map (fun d => d.parameters.length) = some 1 := kv_X0_requireSpeaker.2
set_option maxHeartbeats 4000000 in
set_option maxRecDepth 100000 in
theorem c_X0_requireSpeaker (l : Launch) (D : va_G) (x1 : Int32) (h1 : ¬ x1 < 0) (h2 : x1 < 6) : q_V l yX0_requireSpeaker wsX0_requireSpeaker ({ frames := 0, cells := 0, slots := 0, locals := 0 } : Room) D ([]) ([]) [.int x1] := by
  refine q_startV (cc := cX0_requireSpeaker) (maxL := 1) (by decide) rfl (Nat.le_of_ble_eq_true rfl) ?_
  intro p e s m below meth c hx hb hml hr hts hown hlocks hK H locs ls hP hS hl
  have hl : lv_has ls 1 [(0, .int x1)] := hl
  refine lv_iload_n hx hb dX0_requireSpeaker_0 rfl (lv_at hl 0 rfl) ?_
  refine lv_if_lt (tgt := 10) hx hb dX0_requireSpeaker_1 (by decide) (fun h9 => absurd h9 h1) (fun c_1 => ?_)
  refine lv_iload_n hx hb dX0_requireSpeaker_4 rfl (lv_at hl 0 rfl) ?_
  refine lv_bipush (v := 6) hx hb dX0_requireSpeaker_5 (by decide) ?_
  refine lv_icmp_lt (tgt := 20) hx hb dX0_requireSpeaker_7 (by decide) (fun c_7 => ?_) (fun h9 => absurd h2 h9)
  exact q_retV hx hb hr hlocks hS dX0_requireSpeaker_20

theorem kv_X0_requireTopic : yX0_requireTopic.cls = RX0 ∧ yX0_requireTopic.cls ≠ "java/lang/invoke/MethodHandle" ∧ yX0_requireTopic.cls ≠ "java/lang/invoke/VarHandle" ∧ (parseMethodDescriptor yX0_requireTopic.desc).map (fun d => d.parameters.length) = some 1 := by decide +kernel
theorem ks_X0_requireTopic : yX0_requireTopic.cls ≠ "java/lang/invoke/MethodHandle" ∧ yX0_requireTopic.cls ≠ "java/lang/invoke/VarHandle" ∧ (parseMethodDescriptor yX0_requireTopic.desc).map (fun d => d.parameters.length) = some 1 := kv_X0_requireTopic.2
set_option maxHeartbeats 4000000 in
set_option maxRecDepth 100000 in
theorem c_X0_requireTopic (l : Launch) (D : va_G) (x1 : Int32) (h1 : ¬ x1 < 0) (h2 : x1 < 10) : q_V l yX0_requireTopic wsX0_requireTopic ({ frames := 0, cells := 0, slots := 0, locals := 0 } : Room) D ([]) ([]) [.int x1] := by
  refine q_startV (cc := cX0_requireTopic) (maxL := 1) (by decide) rfl (Nat.le_of_ble_eq_true rfl) ?_
  intro p e s m below meth c hx hb hml hr hts hown hlocks hK H locs ls hP hS hl
  have hl : lv_has ls 1 [(0, .int x1)] := hl
  refine lv_iload_n hx hb dX0_requireTopic_0 rfl (lv_at hl 0 rfl) ?_
  refine lv_if_lt (tgt := 10) hx hb dX0_requireTopic_1 (by decide) (fun h9 => absurd h9 h1) (fun c_1 => ?_)
  refine lv_iload_n hx hb dX0_requireTopic_4 rfl (lv_at hl 0 rfl) ?_
  refine lv_bipush (v := 10) hx hb dX0_requireTopic_5 (by decide) ?_
  refine lv_icmp_lt (tgt := 20) hx hb dX0_requireTopic_7 (by decide) (fun c_7 => ?_) (fun h9 => absurd h2 h9)
  exact q_retV hx hb hr hlocks hS dX0_requireTopic_20

theorem kv_X0_requirePlace : yX0_requirePlace.cls = RX0 ∧ yX0_requirePlace.cls ≠ "java/lang/invoke/MethodHandle" ∧ yX0_requirePlace.cls ≠ "java/lang/invoke/VarHandle" ∧ (parseMethodDescriptor yX0_requirePlace.desc).map (fun d => d.parameters.length) = some 1 := by decide +kernel
theorem ks_X0_requirePlace : yX0_requirePlace.cls ≠ "java/lang/invoke/MethodHandle" ∧ yX0_requirePlace.cls ≠ "java/lang/invoke/VarHandle" ∧ (parseMethodDescriptor yX0_requirePlace.desc).map (fun d => d.parameters.length) = some 1 := kv_X0_requirePlace.2
set_option maxHeartbeats 4000000 in
set_option maxRecDepth 100000 in
theorem c_X0_requirePlace (l : Launch) (D : va_G) (cI : ClassId) (ad : Nat → Nat) (n : Int32) (w : Int32) (t : Int32) (pa pe : Int32) (f0 f1 f2 f3 f4 : Nat → Int32) (x1 : Int32) (h1 : ¬ x1 < 0) (h2 : x1 < n) : q_V l yX0_requirePlace wsX0_requirePlace ({ frames := 0, cells := 0, slots := 0, locals := 0 } : Room) D ([(cI, .int)]) (xw cI ad n w t pa pe f0 f1 f2 f3 f4) [.ref (ad 0), .int x1] := by
  refine q_startV (cc := cX0_requirePlace) (maxL := 2) (by decide) rfl (Nat.le_of_ble_eq_true rfl) ?_
  intro p e s m below meth c hx hb hml hr hts hown hlocks hK H locs ls hP hS hl
  have hin : ∀ w ∈ wsX00, w ∈ wsX0_requirePlace := by decide +kernel
  have hl : lv_has ls 2 [(0, .ref (ad 0)), (1, .int x1)] := hl
  refine lv_iload_n hx hb dX0_requirePlace_0 rfl (lv_at hl 1 rfl) ?_
  refine lv_if_lt (tgt := 12) hx hb dX0_requirePlace_1 (by decide) (fun h9 => absurd h9 h1) (fun c_1 => ?_)
  refine lv_iload_n hx hb dX0_requirePlace_4 rfl (lv_at hl 1 rfl) ?_
  refine lv_aload_n hx hb dX0_requirePlace_5 rfl (lv_at hl 0 rfl) ?_
  refine va_get (D := D) (ci := 0) (v := .int n) (C := RX0) (T := TX0) (N := 10) hx hb hts hin hown hK hP 0 rfl rfl 3 (by decide) (hts (.fieldLink RX0 69 "SplicedTalk" "remarkCount" "I") (by decide +kernel)) (fun _ h9 => h9) rfl dX0_requirePlace_6 ?_
  refine lv_icmp_lt (tgt := 22) hx hb dX0_requirePlace_9 (by decide) (fun c_9 => ?_) (fun h9 => absurd h2 h9)
  exact q_retV hx hb hr hlocks hS dX0_requirePlace_22

theorem kv_X0_requireWord : yX0_requireWord.cls = RX0 ∧ yX0_requireWord.cls ≠ "java/lang/invoke/MethodHandle" ∧ yX0_requireWord.cls ≠ "java/lang/invoke/VarHandle" ∧ (parseMethodDescriptor yX0_requireWord.desc).map (fun d => d.parameters.length) = some 1 := by decide +kernel
theorem ks_X0_requireWord : yX0_requireWord.cls ≠ "java/lang/invoke/MethodHandle" ∧ yX0_requireWord.cls ≠ "java/lang/invoke/VarHandle" ∧ (parseMethodDescriptor yX0_requireWord.desc).map (fun d => d.parameters.length) = some 1 := kv_X0_requireWord.2
set_option maxHeartbeats 4000000 in
set_option maxRecDepth 100000 in
theorem c_X0_requireWord (l : Launch) (D : va_G) (cI : ClassId) (ad : Nat → Nat) (n : Int32) (w : Int32) (t : Int32) (pa pe : Int32) (f0 f1 f2 f3 f4 : Nat → Int32) (x1 : Int32) (h1 : ¬ x1 < 0) (h2 : x1 < w) : q_V l yX0_requireWord wsX0_requireWord ({ frames := 0, cells := 0, slots := 0, locals := 0 } : Room) D ([(cI, .int)]) (xw cI ad n w t pa pe f0 f1 f2 f3 f4) [.ref (ad 0), .int x1] := by
  refine q_startV (cc := cX0_requireWord) (maxL := 2) (by decide) rfl (Nat.le_of_ble_eq_true rfl) ?_
  intro p e s m below meth c hx hb hml hr hts hown hlocks hK H locs ls hP hS hl
  have hin : ∀ w ∈ wsX00, w ∈ wsX0_requireWord := by decide +kernel
  have hl : lv_has ls 2 [(0, .ref (ad 0)), (1, .int x1)] := hl
  refine lv_iload_n hx hb dX0_requireWord_0 rfl (lv_at hl 1 rfl) ?_
  refine lv_if_lt (tgt := 12) hx hb dX0_requireWord_1 (by decide) (fun h9 => absurd h9 h1) (fun c_1 => ?_)
  refine lv_iload_n hx hb dX0_requireWord_4 rfl (lv_at hl 1 rfl) ?_
  refine lv_aload_n hx hb dX0_requireWord_5 rfl (lv_at hl 0 rfl) ?_
  refine va_get (D := D) (ci := 0) (v := .int w) (C := RX0) (T := TX0) (N := 10) hx hb hts hin hown hK hP 0 rfl rfl 6 (by decide) (hts (.fieldLink RX0 116 "SplicedTalk" "wordCount" "I") (by decide +kernel)) (fun _ h9 => h9) rfl dX0_requireWord_6 ?_
  refine lv_icmp_lt (tgt := 22) hx hb dX0_requireWord_9 (by decide) (fun c_9 => ?_) (fun h9 => absurd h2 h9)
  exact q_retV hx hb hr hlocks hS dX0_requireWord_22

theorem kv_X0_requireThread : yX0_requireThread.cls = RX0 ∧ yX0_requireThread.cls ≠ "java/lang/invoke/MethodHandle" ∧ yX0_requireThread.cls ≠ "java/lang/invoke/VarHandle" ∧ (parseMethodDescriptor yX0_requireThread.desc).map (fun d => d.parameters.length) = some 1 := by decide +kernel
theorem ks_X0_requireThread : yX0_requireThread.cls ≠ "java/lang/invoke/MethodHandle" ∧ yX0_requireThread.cls ≠ "java/lang/invoke/VarHandle" ∧ (parseMethodDescriptor yX0_requireThread.desc).map (fun d => d.parameters.length) = some 1 := kv_X0_requireThread.2
set_option maxHeartbeats 4000000 in
set_option maxRecDepth 100000 in
theorem c_X0_requireThread (l : Launch) (D : va_G) (cI : ClassId) (ad : Nat → Nat) (n : Int32) (w : Int32) (t : Int32) (pa pe : Int32) (f0 f1 f2 f3 f4 : Nat → Int32) (x1 : Int32) (h1 : ¬ x1 < 0) (h2 : x1 < t) : q_V l yX0_requireThread wsX0_requireThread ({ frames := 0, cells := 0, slots := 0, locals := 0 } : Room) D ([(cI, .int)]) (xw cI ad n w t pa pe f0 f1 f2 f3 f4) [.ref (ad 0), .int x1] := by
  refine q_startV (cc := cX0_requireThread) (maxL := 2) (by decide) rfl (Nat.le_of_ble_eq_true rfl) ?_
  intro p e s m below meth c hx hb hml hr hts hown hlocks hK H locs ls hP hS hl
  have hin : ∀ w ∈ wsX00, w ∈ wsX0_requireThread := by decide +kernel
  have hl : lv_has ls 2 [(0, .ref (ad 0)), (1, .int x1)] := hl
  refine lv_iload_n hx hb dX0_requireThread_0 rfl (lv_at hl 1 rfl) ?_
  refine lv_if_lt (tgt := 12) hx hb dX0_requireThread_1 (by decide) (fun h9 => absurd h9 h1) (fun c_1 => ?_)
  refine lv_iload_n hx hb dX0_requireThread_4 rfl (lv_at hl 1 rfl) ?_
  refine lv_aload_n hx hb dX0_requireThread_5 rfl (lv_at hl 0 rfl) ?_
  refine va_get (D := D) (ci := 0) (v := .int t) (C := RX0) (T := TX0) (N := 10) hx hb hts hin hown hK hP 0 rfl rfl 7 (by decide) (hts (.fieldLink RX0 86 "SplicedTalk" "threadCount" "I") (by decide +kernel)) (fun _ h9 => h9) rfl dX0_requireThread_6 ?_
  refine lv_icmp_lt (tgt := 22) hx hb dX0_requireThread_9 (by decide) (fun c_9 => ?_) (fun h9 => absurd h2 h9)
  exact q_retV hx hb hr hlocks hS dX0_requireThread_22

theorem kv_X0_requireGap : yX0_requireGap.cls = RX0 ∧ yX0_requireGap.cls ≠ "java/lang/invoke/MethodHandle" ∧ yX0_requireGap.cls ≠ "java/lang/invoke/VarHandle" ∧ (parseMethodDescriptor yX0_requireGap.desc).map (fun d => d.parameters.length) = some 1 := by decide +kernel
theorem ks_X0_requireGap : yX0_requireGap.cls ≠ "java/lang/invoke/MethodHandle" ∧ yX0_requireGap.cls ≠ "java/lang/invoke/VarHandle" ∧ (parseMethodDescriptor yX0_requireGap.desc).map (fun d => d.parameters.length) = some 1 := kv_X0_requireGap.2
set_option maxHeartbeats 4000000 in
set_option maxRecDepth 100000 in
theorem c_X0_requireGap (l : Launch) (D : va_G) (cI : ClassId) (ad : Nat → Nat) (n : Int32) (w : Int32) (t : Int32) (pa pe : Int32) (f0 f1 f2 f3 f4 : Nat → Int32) (x1 : Int32) (h1 : ¬ x1 < 0) (h2 : x1 < (x_gc w)) : q_V l yX0_requireGap wsX0_requireGap ({ frames := 1, cells := 0, slots := 0, locals := 20 } : Room) D ([(cI, .int)]) (xw cI ad n w t pa pe f0 f1 f2 f3 f4) [.ref (ad 0), .int x1] := by
  refine q_startV (cc := cX0_requireGap) (maxL := 2) (by decide) rfl (Nat.le_of_ble_eq_true rfl) ?_
  intro p e s m below meth c hx hb hml hr hts hown hlocks hK H locs ls hP hS hl
  have hin : ∀ w ∈ wsX00, w ∈ wsX0_requireGap := by decide +kernel
  have hl : lv_has ls 2 [(0, .ref (ad 0)), (1, .int x1)] := hl
  refine lv_iload_n hx hb dX0_requireGap_0 rfl (lv_at hl 1 rfl) ?_
  refine lv_if_lt (tgt := 12) hx hb dX0_requireGap_1 (by decide) (fun h9 => absurd h9 h1) (fun c_1 => ?_)
  refine lv_iload_n hx hb dX0_requireGap_4 rfl (lv_at hl 1 rfl) ?_
  refine lv_aload_n hx hb dX0_requireGap_5 rfl (lv_at hl 0 rfl) ?_
  refine q_callV (As := []) (rest := [.int x1]) ⟨hx, hb, hml, hown, hts⟩ (c_X0_gapCount l D cI ad n w t pa pe f0 f1 f2 f3 f4) (cwV 0 hts gX0_requireGap_X0_gapCount rfl rfl rfl kv_X0_gapCount ⟨Nat.le_of_ble_eq_true rfl, Nat.le_of_ble_eq_true rfl⟩) (va_recv hK hP (ci := 0) (q0 := 0) rfl rfl) hP hK rfl hl.1 rfl (Nat.le_of_ble_eq_true rfl) dX0_requireGap_6 (Nat.zero_le _) (Nat.zero_le _) hS (fun H locs hsm hS => ?_)
  have hP := hsm.P hP
  refine lv_icmp_lt (tgt := 22) hx hb dX0_requireGap_9 (by decide) (fun c_9 => ?_) (fun h9 => absurd h2 h9)
  exact q_retV hx hb hr hlocks hS dX0_requireGap_22

theorem kv_X0_requireRoom : yX0_requireRoom.cls = RX0 ∧ yX0_requireRoom.cls ≠ "java/lang/invoke/MethodHandle" ∧ yX0_requireRoom.cls ≠ "java/lang/invoke/VarHandle" ∧ (parseMethodDescriptor yX0_requireRoom.desc).map (fun d => d.parameters.length) = some 0 := by decide +kernel
theorem ks_X0_requireRoom : yX0_requireRoom.cls ≠ "java/lang/invoke/MethodHandle" ∧ yX0_requireRoom.cls ≠ "java/lang/invoke/VarHandle" ∧ (parseMethodDescriptor yX0_requireRoom.desc).map (fun d => d.parameters.length) = some 0 := kv_X0_requireRoom.2
set_option maxHeartbeats 4000000 in
set_option maxRecDepth 100000 in
theorem c_X0_requireRoom (l : Launch) (D : va_G) (cI : ClassId) (ad : Nat → Nat) (n : Int32) (w : Int32) (t : Int32) (pa pe : Int32) (f0 f1 f2 f3 f4 : Nat → Int32) (h1 : n < 24) : q_V l yX0_requireRoom wsX0_requireRoom ({ frames := 0, cells := 0, slots := 0, locals := 0 } : Room) D ([(cI, .int)]) (xw cI ad n w t pa pe f0 f1 f2 f3 f4) [.ref (ad 0)] := by
  refine q_startV (cc := cX0_requireRoom) (maxL := 1) (by decide) rfl (Nat.le_of_ble_eq_true rfl) ?_
  intro p e s m below meth c hx hb hml hr hts hown hlocks hK H locs ls hP hS hl
  have hin : ∀ w ∈ wsX00, w ∈ wsX0_requireRoom := by decide +kernel
  have hl : lv_has ls 1 [(0, .ref (ad 0))] := hl
  refine lv_aload_n hx hb dX0_requireRoom_0 rfl (lv_at hl 0 rfl) ?_
  refine va_get (D := D) (ci := 0) (v := .int n) (C := RX0) (T := TX0) (N := 10) hx hb hts hin hown hK hP 0 rfl rfl 3 (by decide) (hts (.fieldLink RX0 69 "SplicedTalk" "remarkCount" "I") (by decide +kernel)) (fun _ h9 => h9) rfl dX0_requireRoom_1 ?_
  refine lv_bipush (v := 24) hx hb dX0_requireRoom_4 (by decide) ?_
  refine lv_icmp_lt (tgt := 19) hx hb dX0_requireRoom_6 (by decide) (fun c_6 => ?_) (fun h9 => absurd h1 h9)
  exact q_retV hx hb hr hlocks hS dX0_requireRoom_19

theorem kv_X0_requirePatience : yX0_requirePatience.cls = RX0 ∧ yX0_requirePatience.cls ≠ "java/lang/invoke/MethodHandle" ∧ yX0_requirePatience.cls ≠ "java/lang/invoke/VarHandle" ∧ (parseMethodDescriptor yX0_requirePatience.desc).map (fun d => d.parameters.length) = some 1 := by decide +kernel
theorem ks_X0_requirePatience : yX0_requirePatience.cls ≠ "java/lang/invoke/MethodHandle" ∧ yX0_requirePatience.cls ≠ "java/lang/invoke/VarHandle" ∧ (parseMethodDescriptor yX0_requirePatience.desc).map (fun d => d.parameters.length) = some 1 := kv_X0_requirePatience.2
set_option maxHeartbeats 4000000 in
set_option maxRecDepth 100000 in
theorem c_X0_requirePatience (l : Launch) (D : va_G) (cI : ClassId) (ad : Nat → Nat) (n : Int32) (w : Int32) (t : Int32) (pa pe : Int32) (f0 f1 f2 f3 f4 : Nat → Int32) (x1 : Int32) (h1 : x1 ≤ pa) : q_V l yX0_requirePatience wsX0_requirePatience ({ frames := 0, cells := 0, slots := 0, locals := 0 } : Room) D ([(cI, .int)]) (xw cI ad n w t pa pe f0 f1 f2 f3 f4) [.ref (ad 0), .int x1] := by
  refine q_startV (cc := cX0_requirePatience) (maxL := 2) (by decide) rfl (Nat.le_of_ble_eq_true rfl) ?_
  intro p e s m below meth c hx hb hml hr hts hown hlocks hK H locs ls hP hS hl
  have hin : ∀ w ∈ wsX00, w ∈ wsX0_requirePatience := by decide +kernel
  have hl : lv_has ls 2 [(0, .ref (ad 0)), (1, .int x1)] := hl
  refine lv_iload_n hx hb dX0_requirePatience_0 rfl (lv_at hl 1 rfl) ?_
  refine lv_aload_n hx hb dX0_requirePatience_1 rfl (lv_at hl 0 rfl) ?_
  refine va_get (D := D) (ci := 0) (v := .int pa) (C := RX0) (T := TX0) (N := 10) hx hb hts hin hown hK hP 0 rfl rfl 8 (by decide) (hts (.fieldLink RX0 25 "SplicedTalk" "patienceLeft" "I") (by decide +kernel)) (fun _ h9 => h9) rfl dX0_requirePatience_2 ?_
  refine lv_icmp_le (tgt := 18) hx hb dX0_requirePatience_5 (by decide) (fun c_5 => ?_) (fun h9 => absurd h1 h9)
  exact q_retV hx hb hr hlocks hS dX0_requirePatience_18

theorem kv_X0_requireUntied : yX0_requireUntied.cls = RX0 ∧ yX0_requireUntied.cls ≠ "java/lang/invoke/MethodHandle" ∧ yX0_requireUntied.cls ≠ "java/lang/invoke/VarHandle" ∧ (parseMethodDescriptor yX0_requireUntied.desc).map (fun d => d.parameters.length) = some 1 := by decide +kernel
theorem ks_X0_requireUntied : yX0_requireUntied.cls ≠ "java/lang/invoke/MethodHandle" ∧ yX0_requireUntied.cls ≠ "java/lang/invoke/VarHandle" ∧ (parseMethodDescriptor yX0_requireUntied.desc).map (fun d => d.parameters.length) = some 1 := kv_X0_requireUntied.2
set_option maxHeartbeats 4000000 in
set_option maxRecDepth 100000 in
theorem c_X0_requireUntied (l : Launch) (D : va_G) (cI : ClassId) (ad : Nat → Nat) (n : Int32) (w : Int32) (t : Int32) (pa pe : Int32) (f0 f1 f2 f3 f4 : Nat → Int32) (x1 : Int32) (h1 : x_ti f2 f3 x1 = false) : q_V l yX0_requireUntied wsX0_requireUntied ({ frames := 2, cells := 0, slots := 0, locals := 42 } : Room) D ([(cI, .int)]) (xw cI ad n w t pa pe f0 f1 f2 f3 f4) [.ref (ad 0), .int x1] := by
  refine q_startV (cc := cX0_requireUntied) (maxL := 2) (by decide) rfl (Nat.le_of_ble_eq_true rfl) ?_
  intro p e s m below meth c hx hb hml hr hts hown hlocks hK H locs ls hP hS hl
  have hin : ∀ w ∈ wsX00, w ∈ wsX0_requireUntied := by decide +kernel
  have hl : lv_has ls 2 [(0, .ref (ad 0)), (1, .int x1)] := hl
  refine lv_aload_n hx hb dX0_requireUntied_0 rfl (lv_at hl 0 rfl) ?_
  refine lv_iload_n hx hb dX0_requireUntied_1 rfl (lv_at hl 1 rfl) ?_
  refine q_callV (As := [.int x1]) (rest := []) ⟨hx, hb, hml, hown, hts⟩ (c_X0_gapTied l D cI ad n w t pa pe f0 f1 f2 f3 f4 x1) (cwV 1 hts gX0_requireUntied_X0_gapTied rfl rfl rfl kv_X0_gapTied ⟨Nat.le_of_ble_eq_true rfl, Nat.le_of_ble_eq_true rfl⟩) (va_recv hK hP (ci := 0) (q0 := 0) rfl rfl) hP hK rfl hl.1 rfl (Nat.le_of_ble_eq_true rfl) dX0_requireUntied_2 (Nat.zero_le _) (Nat.zero_le _) hS (fun H locs hsm hS => ?_)
  have hP := hsm.P hP
  refine lv_if_eq (tgt := 18) hx hb dX0_requireUntied_5 (by decide) (fun c_5 => ?_) (fun h9 => absurd (bI_0.mpr h1) h9)
  exact q_retV hx hb hr hlocks hS dX0_requireUntied_18

theorem kv_J6_bitCount_0f7a4 : yJ6_bitCount_0f7a4.cls = RJ6 ∧ yJ6_bitCount_0f7a4.cls ≠ "java/lang/invoke/MethodHandle" ∧ yJ6_bitCount_0f7a4.cls ≠ "java/lang/invoke/VarHandle" ∧ (parseMethodDescriptor yJ6_bitCount_0f7a4.desc).map (fun d => d.parameters.length) = some 1 := by decide +kernel
theorem ks_J6_bitCount_0f7a4 : yJ6_bitCount_0f7a4.cls ≠ "java/lang/invoke/MethodHandle" ∧ yJ6_bitCount_0f7a4.cls ≠ "java/lang/invoke/VarHandle" ∧ (parseMethodDescriptor yJ6_bitCount_0f7a4.desc).map (fun d => d.parameters.length) = some 1 := kv_J6_bitCount_0f7a4.2
set_option maxHeartbeats 4000000 in
set_option maxRecDepth 100000 in
theorem c_J6_bitCount_0f7a4 (l : Launch) (D : va_G) (x1 : Int32) : q_I l yJ6_bitCount_0f7a4 wsJ6_bitCount_0f7a4 ({ frames := 0, cells := 0, slots := 0, locals := 0 } : Room) D ([]) ([]) [.int x1] (i_bits x1) := by
  refine q_startJ (cc := cJ6_bitCount_0f7a4) (maxL := 1) (rt := .int) (by decide +kernel) rfl (Nat.le_of_ble_eq_true rfl) ?_
  intro p e s m below meth c hx hb hml hr hts hown hlocks hK H locs ls hP hS hl
  have hl : lv_has ls 1 [(0, .int x1)] := hl
  refine lv_iload_n hx hb dJ6_bitCount_0f7a4_0 rfl (lv_at hl 0 rfl) ?_
  refine lv_iload_n hx hb dJ6_bitCount_0f7a4_1 rfl (lv_at hl 0 rfl) ?_
  refine lv_iconst (v := 1) hx hb dJ6_bitCount_0f7a4_2 (by decide) ?_
  refine lv_iushr (v := (x1.toUInt32 >>> ((1 : Int32).toUInt32 &&& Int32.toUInt32 31)).toInt32) hx hb dJ6_bitCount_0f7a4_3 rfl ?_
  refine lv_ldcw hx hb hown (by first | exact hts (.constant RJ6 265 (1431655765)) (by decide +kernel)) dJ6_bitCount_0f7a4_4 ?_
  refine lv_iand hx hb dJ6_bitCount_0f7a4_7 ?_
  refine lv_isub hx hb dJ6_bitCount_0f7a4_8 ?_
  refine lv_istore_n (lv' := [(0, .int (x1 - (((x1.toUInt32 >>> ((1 : Int32).toUInt32 &&& Int32.toUInt32 31)).toInt32) &&& 1431655765)))]) hx hb dJ6_bitCount_0f7a4_9 rfl hl (by decide) rfl (fun ls hl => ?_)
  have hl : lv_has ls 1 [(0, .int (i_b1 x1))] := hl
  refine lv_iload_n hx hb dJ6_bitCount_0f7a4_10 rfl (lv_at hl 0 rfl) ?_
  refine lv_ldcw hx hb hown (by first | exact hts (.constant RJ6 266 (858993459)) (by decide +kernel)) dJ6_bitCount_0f7a4_11 ?_
  refine lv_iand hx hb dJ6_bitCount_0f7a4_14 ?_
  refine lv_iload_n hx hb dJ6_bitCount_0f7a4_15 rfl (lv_at hl 0 rfl) ?_
  refine lv_iconst (v := 2) hx hb dJ6_bitCount_0f7a4_16 (by decide) ?_
  refine lv_iushr (v := ((i_b1 x1).toUInt32 >>> ((2 : Int32).toUInt32 &&& Int32.toUInt32 31)).toInt32) hx hb dJ6_bitCount_0f7a4_17 rfl ?_
  refine lv_ldcw hx hb hown (by first | exact hts (.constant RJ6 266 (858993459)) (by decide +kernel)) dJ6_bitCount_0f7a4_18 ?_
  refine lv_iand hx hb dJ6_bitCount_0f7a4_21 ?_
  refine lv_iadd hx hb dJ6_bitCount_0f7a4_22 ?_
  refine lv_istore_n (lv' := [(0, .int (((i_b1 x1) &&& 858993459) + ((((i_b1 x1).toUInt32 >>> ((2 : Int32).toUInt32 &&& Int32.toUInt32 31)).toInt32) &&& 858993459)))]) hx hb dJ6_bitCount_0f7a4_23 rfl hl (by decide) rfl (fun ls hl => ?_)
  have hl : lv_has ls 1 [(0, .int (i_b2 (i_b1 x1)))] := hl
  refine lv_iload_n hx hb dJ6_bitCount_0f7a4_24 rfl (lv_at hl 0 rfl) ?_
  refine lv_iload_n hx hb dJ6_bitCount_0f7a4_25 rfl (lv_at hl 0 rfl) ?_
  refine lv_iconst (v := 4) hx hb dJ6_bitCount_0f7a4_26 (by decide) ?_
  refine lv_iushr (v := ((i_b2 (i_b1 x1)).toUInt32 >>> ((4 : Int32).toUInt32 &&& Int32.toUInt32 31)).toInt32) hx hb dJ6_bitCount_0f7a4_27 rfl ?_
  refine lv_iadd hx hb dJ6_bitCount_0f7a4_28 ?_
  refine lv_ldcw hx hb hown (by first | exact hts (.constant RJ6 267 (252645135)) (by decide +kernel)) dJ6_bitCount_0f7a4_29 ?_
  refine lv_iand hx hb dJ6_bitCount_0f7a4_32 ?_
  refine lv_istore_n (lv' := [(0, .int (((i_b2 (i_b1 x1)) + (((i_b2 (i_b1 x1)).toUInt32 >>> ((4 : Int32).toUInt32 &&& Int32.toUInt32 31)).toInt32)) &&& 252645135))]) hx hb dJ6_bitCount_0f7a4_33 rfl hl (by decide) rfl (fun ls hl => ?_)
  have hl : lv_has ls 1 [(0, .int (i_b3 (i_b2 (i_b1 x1))))] := hl
  refine lv_iload_n hx hb dJ6_bitCount_0f7a4_34 rfl (lv_at hl 0 rfl) ?_
  refine lv_iload_n hx hb dJ6_bitCount_0f7a4_35 rfl (lv_at hl 0 rfl) ?_
  refine lv_bipush (v := 8) hx hb dJ6_bitCount_0f7a4_36 (by decide) ?_
  refine lv_iushr (v := ((i_b3 (i_b2 (i_b1 x1))).toUInt32 >>> ((8 : Int32).toUInt32 &&& Int32.toUInt32 31)).toInt32) hx hb dJ6_bitCount_0f7a4_38 rfl ?_
  refine lv_iadd hx hb dJ6_bitCount_0f7a4_39 ?_
  refine lv_istore_n (lv' := [(0, .int ((i_b3 (i_b2 (i_b1 x1))) + (((i_b3 (i_b2 (i_b1 x1))).toUInt32 >>> ((8 : Int32).toUInt32 &&& Int32.toUInt32 31)).toInt32)))]) hx hb dJ6_bitCount_0f7a4_40 rfl hl (by decide) rfl (fun ls hl => ?_)
  have hl : lv_has ls 1 [(0, .int (i_b4 (i_b3 (i_b2 (i_b1 x1)))))] := hl
  refine lv_iload_n hx hb dJ6_bitCount_0f7a4_41 rfl (lv_at hl 0 rfl) ?_
  refine lv_iload_n hx hb dJ6_bitCount_0f7a4_42 rfl (lv_at hl 0 rfl) ?_
  refine lv_bipush (v := 16) hx hb dJ6_bitCount_0f7a4_43 (by decide) ?_
  refine lv_iushr (v := ((i_b4 (i_b3 (i_b2 (i_b1 x1)))).toUInt32 >>> ((16 : Int32).toUInt32 &&& Int32.toUInt32 31)).toInt32) hx hb dJ6_bitCount_0f7a4_45 rfl ?_
  refine lv_iadd hx hb dJ6_bitCount_0f7a4_46 ?_
  refine lv_istore_n (lv' := [(0, .int ((i_b4 (i_b3 (i_b2 (i_b1 x1)))) + (((i_b4 (i_b3 (i_b2 (i_b1 x1)))).toUInt32 >>> ((16 : Int32).toUInt32 &&& Int32.toUInt32 31)).toInt32)))]) hx hb dJ6_bitCount_0f7a4_47 rfl hl (by decide) rfl (fun ls hl => ?_)
  have hl : lv_has ls 1 [(0, .int (i_b5 (i_b4 (i_b3 (i_b2 (i_b1 x1))))))] := hl
  refine lv_iload_n hx hb dJ6_bitCount_0f7a4_48 rfl (lv_at hl 0 rfl) ?_
  refine lv_bipush (v := 63) hx hb dJ6_bitCount_0f7a4_49 (by decide) ?_
  refine lv_iand hx hb dJ6_bitCount_0f7a4_51 ?_
  exact q_retI hx hb hr hlocks hS rfl dJ6_bitCount_0f7a4_52

theorem kv_X0_isCough : yX0_isCough.cls = RX0 ∧ yX0_isCough.cls ≠ "java/lang/invoke/MethodHandle" ∧ yX0_isCough.cls ≠ "java/lang/invoke/VarHandle" ∧ (parseMethodDescriptor yX0_isCough.desc).map (fun d => d.parameters.length) = some 1 := by decide +kernel
theorem ks_X0_isCough : yX0_isCough.cls ≠ "java/lang/invoke/MethodHandle" ∧ yX0_isCough.cls ≠ "java/lang/invoke/VarHandle" ∧ (parseMethodDescriptor yX0_isCough.desc).map (fun d => d.parameters.length) = some 1 := kv_X0_isCough.2
set_option maxHeartbeats 4000000 in
set_option maxRecDepth 100000 in
theorem c_X0_isCough (l : Launch) (D : va_G) (cI : ClassId) (ad : Nat → Nat) (n : Int32) (w : Int32) (t : Int32) (pa pe : Int32) (f0 f1 f2 f3 f4 : Nat → Int32) (x1 : Int32) (h1a : ¬ x1 < 0) (h1b : x1 < n) : q_I l yX0_isCough wsX0_isCough ({ frames := 2, cells := 0, slots := 0, locals := 42 } : Room) D ([(cI, .int)]) (xw cI ad n w t pa pe f0 f1 f2 f3 f4) [.ref (ad 0), .int x1] (bI (x_cs f1 x1)) := by
  refine q_startI (cc := cX0_isCough) (maxL := 2) (rt := .boolean) (by decide) rfl (Nat.le_of_ble_eq_true rfl) ?_
  intro p e s m below meth c hx hb hml hr hts hown hlocks hK H locs ls hP hS hl
  have hin : ∀ w ∈ wsX00, w ∈ wsX0_isCough := by decide +kernel
  have hl : lv_has ls 2 [(0, .ref (ad 0)), (1, .int x1)] := hl
  refine lv_aload_n hx hb dX0_isCough_0 rfl (lv_at hl 0 rfl) ?_
  refine lv_iload_n hx hb dX0_isCough_1 rfl (lv_at hl 1 rfl) ?_
  refine q_callVV (As := [.int x1]) (rest := []) ⟨hx, hb, hml, hown, hts⟩ (c_X0_requirePlace l D cI ad n w t pa pe f0 f1 f2 f3 f4 x1 h1a h1b) (cwV 1 hts gX0_isCough_X0_requirePlace rfl rfl rfl kv_X0_requirePlace ⟨Nat.le_of_ble_eq_true rfl, Nat.le_of_ble_eq_true rfl⟩) (va_recv hK hP (ci := 0) (q0 := 0) rfl rfl) hP hK rfl hl.1 rfl (Nat.le_of_ble_eq_true rfl) dX0_isCough_2 (Nat.zero_le _) (Nat.zero_le _) hS (fun H locs hsm hS => ?_)
  have hP := hsm.P hP
  refine lv_aload_n hx hb dX0_isCough_5 rfl (lv_at hl 0 rfl) ?_
  refine lv_iload_n hx hb dX0_isCough_6 rfl (lv_at hl 1 rfl) ?_
  refine q_callV (As := [.int x1]) (rest := []) ⟨hx, hb, hml, hown, hts⟩ (c_X0_coughStandsAt l D cI ad n w t pa pe f0 f1 f2 f3 f4 x1) (cwV 1 hts gX0_isCough_X0_coughStandsAt rfl rfl rfl kv_X0_coughStandsAt ⟨Nat.le_of_ble_eq_true rfl, Nat.le_of_ble_eq_true rfl⟩) (va_recv hK hP (ci := 0) (q0 := 0) rfl rfl) hP hK rfl hl.1 rfl (Nat.le_of_ble_eq_true rfl) dX0_isCough_7 (Nat.zero_le _) (Nat.zero_le _) hS (fun H locs hsm hS => ?_)
  have hP := hsm.P hP
  exact q_retZ hx hb hr hlocks hS rfl (bI_01 _) dX0_isCough_10

theorem kv_X0_speakerAt : yX0_speakerAt.cls = RX0 ∧ yX0_speakerAt.cls ≠ "java/lang/invoke/MethodHandle" ∧ yX0_speakerAt.cls ≠ "java/lang/invoke/VarHandle" ∧ (parseMethodDescriptor yX0_speakerAt.desc).map (fun d => d.parameters.length) = some 1 := by decide +kernel
theorem ks_X0_speakerAt : yX0_speakerAt.cls ≠ "java/lang/invoke/MethodHandle" ∧ yX0_speakerAt.cls ≠ "java/lang/invoke/VarHandle" ∧ (parseMethodDescriptor yX0_speakerAt.desc).map (fun d => d.parameters.length) = some 1 := kv_X0_speakerAt.2
set_option maxHeartbeats 4000000 in
set_option maxRecDepth 100000 in
theorem c_X0_speakerAt (l : Launch) (D : va_G) (cI : ClassId) (ad : Nat → Nat) (n : Int32) (w : Int32) (t : Int32) (pa pe : Int32) (f0 f1 f2 f3 f4 : Nat → Int32) (x1 : Int32) (h1a : ¬ x1 < 0) (h1b : x1 < n) : q_I l yX0_speakerAt wsX0_speakerAt ({ frames := 1, cells := 0, slots := 0, locals := 21 } : Room) D ([(cI, .int)]) (xw cI ad n w t pa pe f0 f1 f2 f3 f4) [.ref (ad 0), .int x1] (rd f0 x1) := by
  refine q_startI (cc := cX0_speakerAt) (maxL := 2) (rt := .int) (by decide) rfl (Nat.le_of_ble_eq_true rfl) ?_
  intro p e s m below meth c hx hb hml hr hts hown hlocks hK H locs ls hP hS hl
  have hin : ∀ w ∈ wsX00, w ∈ wsX0_speakerAt := by decide +kernel
  have hl : lv_has ls 2 [(0, .ref (ad 0)), (1, .int x1)] := hl
  refine lv_aload_n hx hb dX0_speakerAt_0 rfl (lv_at hl 0 rfl) ?_
  refine lv_iload_n hx hb dX0_speakerAt_1 rfl (lv_at hl 1 rfl) ?_
  refine q_callVV (As := [.int x1]) (rest := []) ⟨hx, hb, hml, hown, hts⟩ (c_X0_requirePlace l D cI ad n w t pa pe f0 f1 f2 f3 f4 x1 h1a h1b) (cwV 1 hts gX0_speakerAt_X0_requirePlace rfl rfl rfl kv_X0_requirePlace ⟨Nat.le_of_ble_eq_true rfl, Nat.le_of_ble_eq_true rfl⟩) (va_recv hK hP (ci := 0) (q0 := 0) rfl rfl) hP hK rfl hl.1 rfl (Nat.le_of_ble_eq_true rfl) dX0_speakerAt_2 (Nat.zero_le _) (Nat.zero_le _) hS (fun H locs hsm hS => ?_)
  have hP := hsm.P hP
  refine lv_aload_n hx hb dX0_speakerAt_5 rfl (lv_at hl 0 rfl) ?_
  refine va_get (D := D) (ci := 0) (v := .ref (ad 1)) (C := RX0) (T := TX0) (N := 10) hx hb hts hin hown hK hP 0 rfl rfl 0 (by decide) (hts (.fieldLink RX0 9 "SplicedTalk" "speakers" "[I") (by decide +kernel)) (fun _ h9 => h9) rfl dX0_speakerAt_6 ?_
  refine lv_iload_n hx hb dX0_speakerAt_9 rfl (lv_at hl 1 rfl) ?_
  refine q_callS (As := [.ref (ad 1), .int x1]) (rest := []) ⟨hx, hb, hml, hown, hts⟩ (c_X0_read l D cI (ad 1) f0 x1) (va_cwS 2 hts gX0_speakerAt_X0_read rfl rfl rfl ks_X0_read ⟨Nat.le_of_ble_eq_true rfl, Nat.le_of_ble_eq_true rfl⟩) (hP.sub [1] rfl) hK rfl hl.1 rfl (Nat.le_of_ble_eq_true rfl) dX0_speakerAt_10 (Nat.zero_le _) (Nat.zero_le _) hS (fun H locs hsm hS => ?_)
  have hP := hsm.P hP
  exact q_retI hx hb hr hlocks hS rfl dX0_speakerAt_13

theorem kv_X0_placeOf : yX0_placeOf.cls = RX0 ∧ yX0_placeOf.cls ≠ "java/lang/invoke/MethodHandle" ∧ yX0_placeOf.cls ≠ "java/lang/invoke/VarHandle" ∧ (parseMethodDescriptor yX0_placeOf.desc).map (fun d => d.parameters.length) = some 1 := by decide +kernel
theorem ks_X0_placeOf : yX0_placeOf.cls ≠ "java/lang/invoke/MethodHandle" ∧ yX0_placeOf.cls ≠ "java/lang/invoke/VarHandle" ∧ (parseMethodDescriptor yX0_placeOf.desc).map (fun d => d.parameters.length) = some 1 := kv_X0_placeOf.2
set_option maxHeartbeats 4000000 in
set_option maxRecDepth 100000 in
theorem c_X0_placeOf (l : Launch) (D : va_G) (cI : ClassId) (ad : Nat → Nat) (n : Int32) (w : Int32) (t : Int32) (pa pe : Int32) (f0 f1 f2 f3 f4 : Nat → Int32) (x1 : Int32) (h1a : ¬ x1 < 0) (h1b : x1 < w) : q_I l yX0_placeOf wsX0_placeOf ({ frames := 1, cells := 0, slots := 0, locals := 21 } : Room) D ([(cI, .int)]) (xw cI ad n w t pa pe f0 f1 f2 f3 f4) [.ref (ad 0), .int x1] (rd f3 x1) := by
  refine q_startI (cc := cX0_placeOf) (maxL := 2) (rt := .int) (by decide) rfl (Nat.le_of_ble_eq_true rfl) ?_
  intro p e s m below meth c hx hb hml hr hts hown hlocks hK H locs ls hP hS hl
  have hin : ∀ w ∈ wsX00, w ∈ wsX0_placeOf := by decide +kernel
  have hl : lv_has ls 2 [(0, .ref (ad 0)), (1, .int x1)] := hl
  refine lv_aload_n hx hb dX0_placeOf_0 rfl (lv_at hl 0 rfl) ?_
  refine lv_iload_n hx hb dX0_placeOf_1 rfl (lv_at hl 1 rfl) ?_
  refine q_callVV (As := [.int x1]) (rest := []) ⟨hx, hb, hml, hown, hts⟩ (c_X0_requireWord l D cI ad n w t pa pe f0 f1 f2 f3 f4 x1 h1a h1b) (cwV 1 hts gX0_placeOf_X0_requireWord rfl rfl rfl kv_X0_requireWord ⟨Nat.le_of_ble_eq_true rfl, Nat.le_of_ble_eq_true rfl⟩) (va_recv hK hP (ci := 0) (q0 := 0) rfl rfl) hP hK rfl hl.1 rfl (Nat.le_of_ble_eq_true rfl) dX0_placeOf_2 (Nat.zero_le _) (Nat.zero_le _) hS (fun H locs hsm hS => ?_)
  have hP := hsm.P hP
  refine lv_aload_n hx hb dX0_placeOf_5 rfl (lv_at hl 0 rfl) ?_
  refine va_get (D := D) (ci := 0) (v := .ref (ad 4)) (C := RX0) (T := TX0) (N := 10) hx hb hts hin hown hK hP 0 rfl rfl 4 (by decide) (hts (.fieldLink RX0 19 "SplicedTalk" "wordPlaces" "[I") (by decide +kernel)) (fun _ h9 => h9) rfl dX0_placeOf_6 ?_
  refine lv_iload_n hx hb dX0_placeOf_9 rfl (lv_at hl 1 rfl) ?_
  refine q_callS (As := [.ref (ad 4), .int x1]) (rest := []) ⟨hx, hb, hml, hown, hts⟩ (c_X0_read l D cI (ad 4) f3 x1) (va_cwS 2 hts gX0_placeOf_X0_read rfl rfl rfl ks_X0_read ⟨Nat.le_of_ble_eq_true rfl, Nat.le_of_ble_eq_true rfl⟩) (hP.sub [4] rfl) hK rfl hl.1 rfl (Nat.le_of_ble_eq_true rfl) dX0_placeOf_10 (Nat.zero_le _) (Nat.zero_le _) hS (fun H locs hsm hS => ?_)
  have hP := hsm.P hP
  exact q_retI hx hb hr hlocks hS rfl dX0_placeOf_13

theorem kv_X0_topicOf : yX0_topicOf.cls = RX0 ∧ yX0_topicOf.cls ≠ "java/lang/invoke/MethodHandle" ∧ yX0_topicOf.cls ≠ "java/lang/invoke/VarHandle" ∧ (parseMethodDescriptor yX0_topicOf.desc).map (fun d => d.parameters.length) = some 1 := by decide +kernel
theorem ks_X0_topicOf : yX0_topicOf.cls ≠ "java/lang/invoke/MethodHandle" ∧ yX0_topicOf.cls ≠ "java/lang/invoke/VarHandle" ∧ (parseMethodDescriptor yX0_topicOf.desc).map (fun d => d.parameters.length) = some 1 := kv_X0_topicOf.2
set_option maxHeartbeats 4000000 in
set_option maxRecDepth 100000 in
theorem c_X0_topicOf (l : Launch) (D : va_G) (cI : ClassId) (ad : Nat → Nat) (n : Int32) (w : Int32) (t : Int32) (pa pe : Int32) (f0 f1 f2 f3 f4 : Nat → Int32) (x1 : Int32) (h1a : ¬ x1 < 0) (h1b : x1 < w) : q_I l yX0_topicOf wsX0_topicOf ({ frames := 2, cells := 0, slots := 0, locals := 42 } : Room) D ([(cI, .int)]) (xw cI ad n w t pa pe f0 f1 f2 f3 f4) [.ref (ad 0), .int x1] (x_tp f1 f3 x1) := by
  refine q_startI (cc := cX0_topicOf) (maxL := 2) (rt := .int) (by decide) rfl (Nat.le_of_ble_eq_true rfl) ?_
  intro p e s m below meth c hx hb hml hr hts hown hlocks hK H locs ls hP hS hl
  have hin : ∀ w ∈ wsX00, w ∈ wsX0_topicOf := by decide +kernel
  have hl : lv_has ls 2 [(0, .ref (ad 0)), (1, .int x1)] := hl
  refine lv_aload_n hx hb dX0_topicOf_0 rfl (lv_at hl 0 rfl) ?_
  refine lv_iload_n hx hb dX0_topicOf_1 rfl (lv_at hl 1 rfl) ?_
  refine q_callVV (As := [.int x1]) (rest := []) ⟨hx, hb, hml, hown, hts⟩ (c_X0_requireWord l D cI ad n w t pa pe f0 f1 f2 f3 f4 x1 h1a h1b) (cwV 1 hts gX0_topicOf_X0_requireWord rfl rfl rfl kv_X0_requireWord ⟨Nat.le_of_ble_eq_true rfl, Nat.le_of_ble_eq_true rfl⟩) (va_recv hK hP (ci := 0) (q0 := 0) rfl rfl) hP hK rfl hl.1 rfl (Nat.le_of_ble_eq_true rfl) dX0_topicOf_2 (Nat.zero_le _) (Nat.zero_le _) hS (fun H locs hsm hS => ?_)
  have hP := hsm.P hP
  refine lv_aload_n hx hb dX0_topicOf_5 rfl (lv_at hl 0 rfl) ?_
  refine lv_iload_n hx hb dX0_topicOf_6 rfl (lv_at hl 1 rfl) ?_
  refine q_callV (As := [.int x1]) (rest := []) ⟨hx, hb, hml, hown, hts⟩ (c_X0_topicOfWord l D cI ad n w t pa pe f0 f1 f2 f3 f4 x1) (cwV 1 hts gX0_topicOf_X0_topicOfWord rfl rfl rfl kv_X0_topicOfWord ⟨Nat.le_of_ble_eq_true rfl, Nat.le_of_ble_eq_true rfl⟩) (va_recv hK hP (ci := 0) (q0 := 0) rfl rfl) hP hK rfl hl.1 rfl (Nat.le_of_ble_eq_true rfl) dX0_topicOf_7 (Nat.zero_le _) (Nat.zero_le _) hS (fun H locs hsm hS => ?_)
  have hP := hsm.P hP
  exact q_retI hx hb hr hlocks hS rfl dX0_topicOf_10

theorem kv_X0_wordsOf : yX0_wordsOf.cls = RX0 ∧ yX0_wordsOf.cls ≠ "java/lang/invoke/MethodHandle" ∧ yX0_wordsOf.cls ≠ "java/lang/invoke/VarHandle" ∧ (parseMethodDescriptor yX0_wordsOf.desc).map (fun d => d.parameters.length) = some 1 := by decide +kernel
theorem ks_X0_wordsOf : yX0_wordsOf.cls ≠ "java/lang/invoke/MethodHandle" ∧ yX0_wordsOf.cls ≠ "java/lang/invoke/VarHandle" ∧ (parseMethodDescriptor yX0_wordsOf.desc).map (fun d => d.parameters.length) = some 1 := kv_X0_wordsOf.2
set_option maxHeartbeats 4000000 in
set_option maxRecDepth 100000 in
theorem c_X0_wordsOf (l : Launch) (D : va_G) (cI : ClassId) (ad : Nat → Nat) (n : Int32) (wN : Nat) (t : Int32) (pa pe : Int32) (f0 f1 f2 f3 f4 : Nat → Int32) (x1 : Int32) (h1a : ¬ x1 < 0) (h1b : x1 < 6) (hwN : wN ≤ 24) : q_I l yX0_wordsOf wsX0_wordsOf ({ frames := 2, cells := 0, slots := 0, locals := 42 } : Room) D ([(cI, .int)]) (xw cI ad n (nI wN) t pa pe f0 f1 f2 f3 f4) [.ref (ad 0), .int x1] (nI (x_wo f0 f3 x1 wN)) := by
  refine q_startI (cc := cX0_wordsOf) (maxL := 4) (rt := .int) (by decide) rfl (Nat.le_of_ble_eq_true rfl) ?_
  intro p e s m below meth c hx hb hml hr hts hown hlocks hK H locs ls hP hS hl
  have hin : ∀ w ∈ wsX00, w ∈ wsX0_wordsOf := by decide +kernel
  have hl : lv_has ls 4 [(0, .ref (ad 0)), (1, .int x1)] := hl
  refine lv_iload_n hx hb dX0_wordsOf_0 rfl (lv_at hl 1 rfl) ?_
  refine q_callSV (As := [.int x1]) (rest := []) ⟨hx, hb, hml, hown, hts⟩ (c_X0_requireSpeaker l D x1 h1a h1b) (va_cwS 1 hts gX0_wordsOf_X0_requireSpeaker rfl rfl rfl ks_X0_requireSpeaker ⟨Nat.le_of_ble_eq_true rfl, Nat.le_of_ble_eq_true rfl⟩) (hP.sub [] rfl) (hK.sub [] rfl) rfl hl.1 rfl (Nat.le_of_ble_eq_true rfl) dX0_wordsOf_1 (Nat.zero_le _) (Nat.zero_le _) hS (fun H locs hsm hS => ?_)
  have hP := hsm.P hP
  refine lv_iconst (v := 0) hx hb dX0_wordsOf_4 (by decide) ?_
  refine lv_istore_n (lv' := [(2, .int 0), (0, .ref (ad 0)), (1, .int x1)]) hx hb dX0_wordsOf_5 rfl hl (by decide) rfl (fun ls hl => ?_)
  refine lv_iconst (v := 0) hx hb dX0_wordsOf_6 (by decide) ?_
  refine lv_istore_n (lv' := [(3, .int 0), (2, .int 0), (0, .ref (ad 0)), (1, .int x1)]) hx hb dX0_wordsOf_7 rfl hl (by decide) rfl (fun ls hl => ?_)
  have lo_8 : ∀ (fu i : Nat), wN - i < fu → i ≤ wN → ∀ (H : Heap) (locs : List Loc) (ls : Array Slot), va_P D vwCl (xw cI ad n (nI wN) t pa pe f0 f1 f2 f3 f4) H → va_S q_no s.heap H locs → lv_has ls 4 [(2, .int (nI (ct (fun k => decide (x_sp f0 f3 (nI k) = x1)) i))), (3, .int (nI i)), (0, .ref (ad 0)), (1, .int x1)] → W p l e ({ frames := 2, cells := 0, slots := 0, locals := 42 } : Room) s m [.ref (ad 0), .int x1].toArray below meth c H locs 0 0 (q_EI below [.ref (ad 0), .int x1].toArray s (nI (x_wo f0 f3 x1 wN))) (F0 m 8 ls []) := by
    intro fu
    induction fu with
    | zero => intro i hi; exact absurd hi (Nat.not_lt_zero _)
    | succ fu ih =>
      intro i hi hiN H locs ls hP hS hl
      refine lv_iload_n hx hb dX0_wordsOf_8 rfl (lv_at hl 1 rfl) ?_
      refine lv_aload_n hx hb dX0_wordsOf_9 rfl (lv_at hl 2 rfl) ?_
      refine va_get (D := D) (ci := 0) (v := .int (nI wN)) (C := RX0) (T := TX0) (N := 10) hx hb hts hin hown hK hP 0 rfl rfl 6 (by decide) (hts (.fieldLink RX0 116 "SplicedTalk" "wordCount" "I") (by decide +kernel)) (fun _ h9 => h9) rfl dX0_wordsOf_10 ?_
      refine lv_icmp_ge (tgt := 34) hx hb dX0_wordsOf_13 (by decide) (fun c_13 => ?_) (fun c_13 => ?_)
      · have hi9 := nI_ge' hiN (by omega) c_13
        refine lv_iload_n hx hb dX0_wordsOf_34 rfl (lv_at hl 0 rfl) ?_
        exact q_retI hx hb hr hlocks hS (by rw [hi9]; rfl) dX0_wordsOf_35
      · have hi9 := nI_lt' hiN (by omega) c_13
        refine lv_aload_n hx hb dX0_wordsOf_16 rfl (lv_at hl 2 rfl) ?_
        refine lv_iload_n hx hb dX0_wordsOf_17 rfl (lv_at hl 1 rfl) ?_
        refine q_callV (As := [.int (nI i)]) (rest := []) ⟨hx, hb, hml, hown, hts⟩ (c_X0_speakerOfWord l D cI ad n (nI wN) t pa pe f0 f1 f2 f3 f4 (nI i)) (cwV 1 hts gX0_wordsOf_X0_speakerOfWord rfl rfl rfl kv_X0_speakerOfWord ⟨Nat.le_of_ble_eq_true rfl, Nat.le_of_ble_eq_true rfl⟩) (va_recv hK hP (ci := 0) (q0 := 0) rfl rfl) hP hK rfl hl.1 rfl (Nat.le_of_ble_eq_true rfl) dX0_wordsOf_18 (Nat.zero_le _) (Nat.zero_le _) hS (fun H locs hsm hS => ?_)
        have hP := hsm.P hP
        refine lv_iload_n hx hb dX0_wordsOf_21 rfl (lv_at hl 3 rfl) ?_
        refine lv_icmp_ne (tgt := 28) hx hb dX0_wordsOf_22 (by decide) (fun c_22 => ?_) (fun c_22 => ?_)
        · refine lv_iinc (v := ((nI i) + 1)) (lv' := [(3, .int ((nI i) + 1)), (2, .int (nI (ct (fun k => decide (x_sp f0 f3 (nI k) = x1)) i))), (0, .ref (ad 0)), (1, .int x1)]) hx hb dX0_wordsOf_28 hl (k := 1) rfl (by rfl) (by decide) rfl (fun ls hl => ?_)
          refine lv_goto (tgt := 8) hx hb dX0_wordsOf_31 (by decide) ?_
          have e_2 : ((nI (ct (fun k => decide (x_sp f0 f3 (nI k) = x1)) i)) : Int32) = (nI (ct (fun k => decide (x_sp f0 f3 (nI k) = x1)) (i + 1))) := (by rw [ct_f (fun h => c_22 (of_decide_eq_true h))])
          have e_3 : (((nI i) + 1) : Int32) = (nI (i + 1)) := nI_1 i
          exact ih (i + 1) (by omega) (by omega) H locs ls hP hS (lv_eq (lv_sub (l' := [(2, .int (nI (ct (fun k => decide (x_sp f0 f3 (nI k) = x1)) i))), (3, .int ((nI i) + 1)), (0, .ref (ad 0)), (1, .int x1)]) hl [1, 0, 2, 3] rfl) (by rw [e_2, e_3]))
        · refine lv_iinc (v := ((nI (ct (fun k => decide (x_sp f0 f3 (nI k) = x1)) i)) + 1)) (lv' := [(2, .int ((nI (ct (fun k => decide (x_sp f0 f3 (nI k) = x1)) i)) + 1)), (3, .int (nI i)), (0, .ref (ad 0)), (1, .int x1)]) hx hb dX0_wordsOf_25 hl (k := 0) rfl (by rfl) (by decide) rfl (fun ls hl => ?_)
          refine lv_iinc (v := ((nI i) + 1)) (lv' := [(3, .int ((nI i) + 1)), (2, .int ((nI (ct (fun k => decide (x_sp f0 f3 (nI k) = x1)) i)) + 1)), (0, .ref (ad 0)), (1, .int x1)]) hx hb dX0_wordsOf_28 hl (k := 1) rfl (by rfl) (by decide) rfl (fun ls hl => ?_)
          refine lv_goto (tgt := 8) hx hb dX0_wordsOf_31 (by decide) ?_
          have e_2 : (((nI (ct (fun k => decide (x_sp f0 f3 (nI k) = x1)) i)) + 1) : Int32) = (nI (ct (fun k => decide (x_sp f0 f3 (nI k) = x1)) (i + 1))) := (by rw [ct_t (decide_eq_true c_22), nI_1])
          have e_3 : (((nI i) + 1) : Int32) = (nI (i + 1)) := nI_1 i
          exact ih (i + 1) (by omega) (by omega) H locs ls hP hS (lv_eq (lv_sub (l' := [(2, .int ((nI (ct (fun k => decide (x_sp f0 f3 (nI k) = x1)) i)) + 1)), (3, .int ((nI i) + 1)), (0, .ref (ad 0)), (1, .int x1)]) hl [1, 0, 2, 3] rfl) (by rw [e_2, e_3]))
  exact lo_8 (wN + 1) 0 (by omega) (by omega) H locs ls hP hS (lv_sub hl [1, 0, 2, 3] rfl)

theorem kv_X0_coughsIn : yX0_coughsIn.cls = RX0 ∧ yX0_coughsIn.cls ≠ "java/lang/invoke/MethodHandle" ∧ yX0_coughsIn.cls ≠ "java/lang/invoke/VarHandle" ∧ (parseMethodDescriptor yX0_coughsIn.desc).map (fun d => d.parameters.length) = some 1 := by decide +kernel
theorem ks_X0_coughsIn : yX0_coughsIn.cls ≠ "java/lang/invoke/MethodHandle" ∧ yX0_coughsIn.cls ≠ "java/lang/invoke/VarHandle" ∧ (parseMethodDescriptor yX0_coughsIn.desc).map (fun d => d.parameters.length) = some 1 := kv_X0_coughsIn.2
set_option maxHeartbeats 4000000 in
set_option maxRecDepth 100000 in
theorem c_X0_coughsIn (l : Launch) (D : va_G) (cI : ClassId) (ad : Nat → Nat) (n : Int32) (w : Int32) (t : Int32) (pa pe : Int32) (f0 f1 f2 f3 f4 : Nat → Int32) (x1 : Int32) (h1a : ¬ x1 < 0) (h1b : x1 < (x_gc w)) : q_I l yX0_coughsIn wsX0_coughsIn ({ frames := 2, cells := 0, slots := 0, locals := 42 } : Room) D ([(cI, .int)]) (xw cI ad n w t pa pe f0 f1 f2 f3 f4) [.ref (ad 0), .int x1] (x_cg f3 x1) := by
  refine q_startI (cc := cX0_coughsIn) (maxL := 2) (rt := .int) (by decide) rfl (Nat.le_of_ble_eq_true rfl) ?_
  intro p e s m below meth c hx hb hml hr hts hown hlocks hK H locs ls hP hS hl
  have hin : ∀ w ∈ wsX00, w ∈ wsX0_coughsIn := by decide +kernel
  have hl : lv_has ls 2 [(0, .ref (ad 0)), (1, .int x1)] := hl
  refine lv_aload_n hx hb dX0_coughsIn_0 rfl (lv_at hl 0 rfl) ?_
  refine lv_iload_n hx hb dX0_coughsIn_1 rfl (lv_at hl 1 rfl) ?_
  refine q_callVV (As := [.int x1]) (rest := []) ⟨hx, hb, hml, hown, hts⟩ (c_X0_requireGap l D cI ad n w t pa pe f0 f1 f2 f3 f4 x1 h1a h1b) (cwV 1 hts gX0_coughsIn_X0_requireGap rfl rfl rfl kv_X0_requireGap ⟨Nat.le_of_ble_eq_true rfl, Nat.le_of_ble_eq_true rfl⟩) (va_recv hK hP (ci := 0) (q0 := 0) rfl rfl) hP hK rfl hl.1 rfl (Nat.le_of_ble_eq_true rfl) dX0_coughsIn_2 (Nat.zero_le _) (Nat.zero_le _) hS (fun H locs hsm hS => ?_)
  have hP := hsm.P hP
  refine lv_aload_n hx hb dX0_coughsIn_5 rfl (lv_at hl 0 rfl) ?_
  refine lv_iload_n hx hb dX0_coughsIn_6 rfl (lv_at hl 1 rfl) ?_
  refine q_callV (As := [.int x1]) (rest := []) ⟨hx, hb, hml, hown, hts⟩ (c_X0_coughsOfGap l D cI ad n w t pa pe f0 f1 f2 f3 f4 x1) (cwV 1 hts gX0_coughsIn_X0_coughsOfGap rfl rfl rfl kv_X0_coughsOfGap ⟨Nat.le_of_ble_eq_true rfl, Nat.le_of_ble_eq_true rfl⟩) (va_recv hK hP (ci := 0) (q0 := 0) rfl rfl) hP hK rfl hl.1 rfl (Nat.le_of_ble_eq_true rfl) dX0_coughsIn_7 (Nat.zero_le _) (Nat.zero_le _) hS (fun H locs hsm hS => ?_)
  have hP := hsm.P hP
  exact q_retI hx hb hr hlocks hS rfl dX0_coughsIn_10

theorem kv_X0_strainOf : yX0_strainOf.cls = RX0 ∧ yX0_strainOf.cls ≠ "java/lang/invoke/MethodHandle" ∧ yX0_strainOf.cls ≠ "java/lang/invoke/VarHandle" ∧ (parseMethodDescriptor yX0_strainOf.desc).map (fun d => d.parameters.length) = some 1 := by decide +kernel
theorem ks_X0_strainOf : yX0_strainOf.cls ≠ "java/lang/invoke/MethodHandle" ∧ yX0_strainOf.cls ≠ "java/lang/invoke/VarHandle" ∧ (parseMethodDescriptor yX0_strainOf.desc).map (fun d => d.parameters.length) = some 1 := kv_X0_strainOf.2
set_option maxHeartbeats 4000000 in
set_option maxRecDepth 100000 in
theorem c_X0_strainOf (l : Launch) (D : va_G) (cI : ClassId) (ad : Nat → Nat) (n : Int32) (w : Int32) (t : Int32) (pa pe : Int32) (f0 f1 f2 f3 f4 : Nat → Int32) (x1 : Int32) (h1a : ¬ x1 < 0) (h1b : x1 < (x_gc w)) : q_I l yX0_strainOf wsX0_strainOf ({ frames := 3, cells := 0, slots := 0, locals := 64 } : Room) D ([(cI, .int)]) (xw cI ad n w t pa pe f0 f1 f2 f3 f4) [.ref (ad 0), .int x1] (x_st f1 f3 x1) := by
  refine q_startI (cc := cX0_strainOf) (maxL := 2) (rt := .int) (by decide) rfl (Nat.le_of_ble_eq_true rfl) ?_
  intro p e s m below meth c hx hb hml hr hts hown hlocks hK H locs ls hP hS hl
  have hin : ∀ w ∈ wsX00, w ∈ wsX0_strainOf := by decide +kernel
  have hl : lv_has ls 2 [(0, .ref (ad 0)), (1, .int x1)] := hl
  refine lv_aload_n hx hb dX0_strainOf_0 rfl (lv_at hl 0 rfl) ?_
  refine lv_iload_n hx hb dX0_strainOf_1 rfl (lv_at hl 1 rfl) ?_
  refine q_callVV (As := [.int x1]) (rest := []) ⟨hx, hb, hml, hown, hts⟩ (c_X0_requireGap l D cI ad n w t pa pe f0 f1 f2 f3 f4 x1 h1a h1b) (cwV 1 hts gX0_strainOf_X0_requireGap rfl rfl rfl kv_X0_requireGap ⟨Nat.le_of_ble_eq_true rfl, Nat.le_of_ble_eq_true rfl⟩) (va_recv hK hP (ci := 0) (q0 := 0) rfl rfl) hP hK rfl hl.1 rfl (Nat.le_of_ble_eq_true rfl) dX0_strainOf_2 (Nat.zero_le _) (Nat.zero_le _) hS (fun H locs hsm hS => ?_)
  have hP := hsm.P hP
  refine lv_aload_n hx hb dX0_strainOf_5 rfl (lv_at hl 0 rfl) ?_
  refine lv_iload_n hx hb dX0_strainOf_6 rfl (lv_at hl 1 rfl) ?_
  refine q_callV (As := [.int x1]) (rest := []) ⟨hx, hb, hml, hown, hts⟩ (c_X0_strainOfGap l D cI ad n w t pa pe f0 f1 f2 f3 f4 x1) (cwV 1 hts gX0_strainOf_X0_strainOfGap rfl rfl rfl kv_X0_strainOfGap ⟨Nat.le_of_ble_eq_true rfl, Nat.le_of_ble_eq_true rfl⟩) (va_recv hK hP (ci := 0) (q0 := 0) rfl rfl) hP hK rfl hl.1 rfl (Nat.le_of_ble_eq_true rfl) dX0_strainOf_7 (Nat.zero_le _) (Nat.zero_le _) hS (fun H locs hsm hS => ?_)
  have hP := hsm.P hP
  exact q_retI hx hb hr hlocks hS rfl dX0_strainOf_10

theorem kv_X0_isTied : yX0_isTied.cls = RX0 ∧ yX0_isTied.cls ≠ "java/lang/invoke/MethodHandle" ∧ yX0_isTied.cls ≠ "java/lang/invoke/VarHandle" ∧ (parseMethodDescriptor yX0_isTied.desc).map (fun d => d.parameters.length) = some 1 := by decide +kernel
theorem ks_X0_isTied : yX0_isTied.cls ≠ "java/lang/invoke/MethodHandle" ∧ yX0_isTied.cls ≠ "java/lang/invoke/VarHandle" ∧ (parseMethodDescriptor yX0_isTied.desc).map (fun d => d.parameters.length) = some 1 := kv_X0_isTied.2
set_option maxHeartbeats 4000000 in
set_option maxRecDepth 100000 in
theorem c_X0_isTied (l : Launch) (D : va_G) (cI : ClassId) (ad : Nat → Nat) (n : Int32) (w : Int32) (t : Int32) (pa pe : Int32) (f0 f1 f2 f3 f4 : Nat → Int32) (x1 : Int32) (h1a : ¬ x1 < 0) (h1b : x1 < (x_gc w)) : q_I l yX0_isTied wsX0_isTied ({ frames := 2, cells := 0, slots := 0, locals := 42 } : Room) D ([(cI, .int)]) (xw cI ad n w t pa pe f0 f1 f2 f3 f4) [.ref (ad 0), .int x1] (bI (x_ti f2 f3 x1)) := by
  refine q_startI (cc := cX0_isTied) (maxL := 2) (rt := .boolean) (by decide) rfl (Nat.le_of_ble_eq_true rfl) ?_
  intro p e s m below meth c hx hb hml hr hts hown hlocks hK H locs ls hP hS hl
  have hin : ∀ w ∈ wsX00, w ∈ wsX0_isTied := by decide +kernel
  have hl : lv_has ls 2 [(0, .ref (ad 0)), (1, .int x1)] := hl
  refine lv_aload_n hx hb dX0_isTied_0 rfl (lv_at hl 0 rfl) ?_
  refine lv_iload_n hx hb dX0_isTied_1 rfl (lv_at hl 1 rfl) ?_
  refine q_callVV (As := [.int x1]) (rest := []) ⟨hx, hb, hml, hown, hts⟩ (c_X0_requireGap l D cI ad n w t pa pe f0 f1 f2 f3 f4 x1 h1a h1b) (cwV 1 hts gX0_isTied_X0_requireGap rfl rfl rfl kv_X0_requireGap ⟨Nat.le_of_ble_eq_true rfl, Nat.le_of_ble_eq_true rfl⟩) (va_recv hK hP (ci := 0) (q0 := 0) rfl rfl) hP hK rfl hl.1 rfl (Nat.le_of_ble_eq_true rfl) dX0_isTied_2 (Nat.zero_le _) (Nat.zero_le _) hS (fun H locs hsm hS => ?_)
  have hP := hsm.P hP
  refine lv_aload_n hx hb dX0_isTied_5 rfl (lv_at hl 0 rfl) ?_
  refine lv_iload_n hx hb dX0_isTied_6 rfl (lv_at hl 1 rfl) ?_
  refine q_callV (As := [.int x1]) (rest := []) ⟨hx, hb, hml, hown, hts⟩ (c_X0_gapTied l D cI ad n w t pa pe f0 f1 f2 f3 f4 x1) (cwV 1 hts gX0_isTied_X0_gapTied rfl rfl rfl kv_X0_gapTied ⟨Nat.le_of_ble_eq_true rfl, Nat.le_of_ble_eq_true rfl⟩) (va_recv hK hP (ci := 0) (q0 := 0) rfl rfl) hP hK rfl hl.1 rfl (Nat.le_of_ble_eq_true rfl) dX0_isTied_7 (Nat.zero_le _) (Nat.zero_le _) hS (fun H locs hsm hS => ?_)
  have hP := hsm.P hP
  exact q_retZ hx hb hr hlocks hS rfl (bI_01 _) dX0_isTied_10

theorem kv_X0_isSmooth : yX0_isSmooth.cls = RX0 ∧ yX0_isSmooth.cls ≠ "java/lang/invoke/MethodHandle" ∧ yX0_isSmooth.cls ≠ "java/lang/invoke/VarHandle" ∧ (parseMethodDescriptor yX0_isSmooth.desc).map (fun d => d.parameters.length) = some 1 := by decide +kernel
theorem ks_X0_isSmooth : yX0_isSmooth.cls ≠ "java/lang/invoke/MethodHandle" ∧ yX0_isSmooth.cls ≠ "java/lang/invoke/VarHandle" ∧ (parseMethodDescriptor yX0_isSmooth.desc).map (fun d => d.parameters.length) = some 1 := kv_X0_isSmooth.2
set_option maxHeartbeats 4000000 in
set_option maxRecDepth 100000 in
theorem c_X0_isSmooth (l : Launch) (D : va_G) (cI : ClassId) (ad : Nat → Nat) (n : Int32) (w : Int32) (t : Int32) (pa pe : Int32) (f0 f1 f2 f3 f4 : Nat → Int32) (x1 : Int32) (h1a : ¬ x1 < 0) (h1b : x1 < (x_gc w)) : q_I l yX0_isSmooth wsX0_isSmooth ({ frames := 4, cells := 0, slots := 0, locals := 85 } : Room) D ([(cI, .int)]) (xw cI ad n w t pa pe f0 f1 f2 f3 f4) [.ref (ad 0), .int x1] (bI (decide (x_kg f0 f1 f2 f3 x1 = 0))) := by
  refine q_startI (cc := cX0_isSmooth) (maxL := 2) (rt := .boolean) (by decide) rfl (Nat.le_of_ble_eq_true rfl) ?_
  intro p e s m below meth c hx hb hml hr hts hown hlocks hK H locs ls hP hS hl
  have hin : ∀ w ∈ wsX00, w ∈ wsX0_isSmooth := by decide +kernel
  have hl : lv_has ls 2 [(0, .ref (ad 0)), (1, .int x1)] := hl
  refine lv_aload_n hx hb dX0_isSmooth_0 rfl (lv_at hl 0 rfl) ?_
  refine lv_iload_n hx hb dX0_isSmooth_1 rfl (lv_at hl 1 rfl) ?_
  refine q_callVV (As := [.int x1]) (rest := []) ⟨hx, hb, hml, hown, hts⟩ (c_X0_requireGap l D cI ad n w t pa pe f0 f1 f2 f3 f4 x1 h1a h1b) (cwV 1 hts gX0_isSmooth_X0_requireGap rfl rfl rfl kv_X0_requireGap ⟨Nat.le_of_ble_eq_true rfl, Nat.le_of_ble_eq_true rfl⟩) (va_recv hK hP (ci := 0) (q0 := 0) rfl rfl) hP hK rfl hl.1 rfl (Nat.le_of_ble_eq_true rfl) dX0_isSmooth_2 (Nat.zero_le _) (Nat.zero_le _) hS (fun H locs hsm hS => ?_)
  have hP := hsm.P hP
  refine lv_aload_n hx hb dX0_isSmooth_5 rfl (lv_at hl 0 rfl) ?_
  refine lv_iload_n hx hb dX0_isSmooth_6 rfl (lv_at hl 1 rfl) ?_
  refine q_callV (As := [.int x1]) (rest := []) ⟨hx, hb, hml, hown, hts⟩ (c_X0_kindOfGap l D cI ad n w t pa pe f0 f1 f2 f3 f4 x1) (cwV 1 hts gX0_isSmooth_X0_kindOfGap rfl rfl rfl kv_X0_kindOfGap ⟨Nat.le_of_ble_eq_true rfl, Nat.le_of_ble_eq_true rfl⟩) (va_recv hK hP (ci := 0) (q0 := 0) rfl rfl) hP hK rfl hl.1 rfl (Nat.le_of_ble_eq_true rfl) dX0_isSmooth_7 (Nat.zero_le _) (Nat.zero_le _) hS (fun H locs hsm hS => ?_)
  have hP := hsm.P hP
  suffices K_10 : ∀ v9 : Int32, v9 = (bI (decide ((x_kg f0 f1 f2 f3 x1) = 0))) → W p l e ({ frames := 4, cells := 0, slots := 0, locals := 85 } : Room) s m [.ref (ad 0), .int x1].toArray below meth c H locs 0 0 (q_EI below [.ref (ad 0), .int x1].toArray s (bI (decide (x_kg f0 f1 f2 f3 x1 = 0)))) (F0 m 18 ls [.int v9]) from by
    refine lv_if_ne (tgt := 17) hx hb dX0_isSmooth_10 (by decide) (fun c_10 => ?_) (fun c_10 => ?_)
    · refine lv_iconst (v := 0) hx hb dX0_isSmooth_17 (by decide) ?_
      exact K_10 _ (bI_df c_10)
    · refine lv_iconst (v := 1) hx hb dX0_isSmooth_13 (by decide) ?_
      refine lv_goto (tgt := 18) hx hb dX0_isSmooth_14 (by decide) ?_
      exact K_10 _ (bI_dt c_10)
  intro v9 hv9
  rw [hv9]; clear hv9
  exact q_retZ hx hb hr hlocks hS rfl (bI_01 _) dX0_isSmooth_18

theorem kv_X0_isPolite : yX0_isPolite.cls = RX0 ∧ yX0_isPolite.cls ≠ "java/lang/invoke/MethodHandle" ∧ yX0_isPolite.cls ≠ "java/lang/invoke/VarHandle" ∧ (parseMethodDescriptor yX0_isPolite.desc).map (fun d => d.parameters.length) = some 1 := by decide +kernel
theorem ks_X0_isPolite : yX0_isPolite.cls ≠ "java/lang/invoke/MethodHandle" ∧ yX0_isPolite.cls ≠ "java/lang/invoke/VarHandle" ∧ (parseMethodDescriptor yX0_isPolite.desc).map (fun d => d.parameters.length) = some 1 := kv_X0_isPolite.2
set_option maxHeartbeats 4000000 in
set_option maxRecDepth 100000 in
theorem c_X0_isPolite (l : Launch) (D : va_G) (cI : ClassId) (ad : Nat → Nat) (n : Int32) (w : Int32) (t : Int32) (pa pe : Int32) (f0 f1 f2 f3 f4 : Nat → Int32) (x1 : Int32) (h1a : ¬ x1 < 0) (h1b : x1 < (x_gc w)) : q_I l yX0_isPolite wsX0_isPolite ({ frames := 4, cells := 0, slots := 0, locals := 85 } : Room) D ([(cI, .int)]) (xw cI ad n w t pa pe f0 f1 f2 f3 f4) [.ref (ad 0), .int x1] (bI (decide (x_kg f0 f1 f2 f3 x1 = 1))) := by
  refine q_startI (cc := cX0_isPolite) (maxL := 2) (rt := .boolean) (by decide) rfl (Nat.le_of_ble_eq_true rfl) ?_
  intro p e s m below meth c hx hb hml hr hts hown hlocks hK H locs ls hP hS hl
  have hin : ∀ w ∈ wsX00, w ∈ wsX0_isPolite := by decide +kernel
  have hl : lv_has ls 2 [(0, .ref (ad 0)), (1, .int x1)] := hl
  refine lv_aload_n hx hb dX0_isPolite_0 rfl (lv_at hl 0 rfl) ?_
  refine lv_iload_n hx hb dX0_isPolite_1 rfl (lv_at hl 1 rfl) ?_
  refine q_callVV (As := [.int x1]) (rest := []) ⟨hx, hb, hml, hown, hts⟩ (c_X0_requireGap l D cI ad n w t pa pe f0 f1 f2 f3 f4 x1 h1a h1b) (cwV 1 hts gX0_isPolite_X0_requireGap rfl rfl rfl kv_X0_requireGap ⟨Nat.le_of_ble_eq_true rfl, Nat.le_of_ble_eq_true rfl⟩) (va_recv hK hP (ci := 0) (q0 := 0) rfl rfl) hP hK rfl hl.1 rfl (Nat.le_of_ble_eq_true rfl) dX0_isPolite_2 (Nat.zero_le _) (Nat.zero_le _) hS (fun H locs hsm hS => ?_)
  have hP := hsm.P hP
  refine lv_aload_n hx hb dX0_isPolite_5 rfl (lv_at hl 0 rfl) ?_
  refine lv_iload_n hx hb dX0_isPolite_6 rfl (lv_at hl 1 rfl) ?_
  refine q_callV (As := [.int x1]) (rest := []) ⟨hx, hb, hml, hown, hts⟩ (c_X0_kindOfGap l D cI ad n w t pa pe f0 f1 f2 f3 f4 x1) (cwV 1 hts gX0_isPolite_X0_kindOfGap rfl rfl rfl kv_X0_kindOfGap ⟨Nat.le_of_ble_eq_true rfl, Nat.le_of_ble_eq_true rfl⟩) (va_recv hK hP (ci := 0) (q0 := 0) rfl rfl) hP hK rfl hl.1 rfl (Nat.le_of_ble_eq_true rfl) dX0_isPolite_7 (Nat.zero_le _) (Nat.zero_le _) hS (fun H locs hsm hS => ?_)
  have hP := hsm.P hP
  refine lv_iconst (v := 1) hx hb dX0_isPolite_10 (by decide) ?_
  suffices K_11 : ∀ v9 : Int32, v9 = (bI (decide ((x_kg f0 f1 f2 f3 x1) = 1))) → W p l e ({ frames := 4, cells := 0, slots := 0, locals := 85 } : Room) s m [.ref (ad 0), .int x1].toArray below meth c H locs 0 0 (q_EI below [.ref (ad 0), .int x1].toArray s (bI (decide (x_kg f0 f1 f2 f3 x1 = 1)))) (F0 m 19 ls [.int v9]) from by
    refine lv_icmp_ne (tgt := 18) hx hb dX0_isPolite_11 (by decide) (fun c_11 => ?_) (fun c_11 => ?_)
    · refine lv_iconst (v := 0) hx hb dX0_isPolite_18 (by decide) ?_
      exact K_11 _ (bI_df c_11)
    · refine lv_iconst (v := 1) hx hb dX0_isPolite_14 (by decide) ?_
      refine lv_goto (tgt := 19) hx hb dX0_isPolite_15 (by decide) ?_
      exact K_11 _ (bI_dt c_11)
  intro v9 hv9
  rw [hv9]; clear hv9
  exact q_retZ hx hb hr hlocks hS rfl (bI_01 _) dX0_isPolite_19

theorem kv_X0_isBroken : yX0_isBroken.cls = RX0 ∧ yX0_isBroken.cls ≠ "java/lang/invoke/MethodHandle" ∧ yX0_isBroken.cls ≠ "java/lang/invoke/VarHandle" ∧ (parseMethodDescriptor yX0_isBroken.desc).map (fun d => d.parameters.length) = some 1 := by decide +kernel
theorem ks_X0_isBroken : yX0_isBroken.cls ≠ "java/lang/invoke/MethodHandle" ∧ yX0_isBroken.cls ≠ "java/lang/invoke/VarHandle" ∧ (parseMethodDescriptor yX0_isBroken.desc).map (fun d => d.parameters.length) = some 1 := kv_X0_isBroken.2
set_option maxHeartbeats 4000000 in
set_option maxRecDepth 100000 in
theorem c_X0_isBroken (l : Launch) (D : va_G) (cI : ClassId) (ad : Nat → Nat) (n : Int32) (w : Int32) (t : Int32) (pa pe : Int32) (f0 f1 f2 f3 f4 : Nat → Int32) (x1 : Int32) (h1a : ¬ x1 < 0) (h1b : x1 < (x_gc w)) : q_I l yX0_isBroken wsX0_isBroken ({ frames := 4, cells := 0, slots := 0, locals := 85 } : Room) D ([(cI, .int)]) (xw cI ad n w t pa pe f0 f1 f2 f3 f4) [.ref (ad 0), .int x1] (bI (decide (x_kg f0 f1 f2 f3 x1 = 2))) := by
  refine q_startI (cc := cX0_isBroken) (maxL := 2) (rt := .boolean) (by decide) rfl (Nat.le_of_ble_eq_true rfl) ?_
  intro p e s m below meth c hx hb hml hr hts hown hlocks hK H locs ls hP hS hl
  have hin : ∀ w ∈ wsX00, w ∈ wsX0_isBroken := by decide +kernel
  have hl : lv_has ls 2 [(0, .ref (ad 0)), (1, .int x1)] := hl
  refine lv_aload_n hx hb dX0_isBroken_0 rfl (lv_at hl 0 rfl) ?_
  refine lv_iload_n hx hb dX0_isBroken_1 rfl (lv_at hl 1 rfl) ?_
  refine q_callVV (As := [.int x1]) (rest := []) ⟨hx, hb, hml, hown, hts⟩ (c_X0_requireGap l D cI ad n w t pa pe f0 f1 f2 f3 f4 x1 h1a h1b) (cwV 1 hts gX0_isBroken_X0_requireGap rfl rfl rfl kv_X0_requireGap ⟨Nat.le_of_ble_eq_true rfl, Nat.le_of_ble_eq_true rfl⟩) (va_recv hK hP (ci := 0) (q0 := 0) rfl rfl) hP hK rfl hl.1 rfl (Nat.le_of_ble_eq_true rfl) dX0_isBroken_2 (Nat.zero_le _) (Nat.zero_le _) hS (fun H locs hsm hS => ?_)
  have hP := hsm.P hP
  refine lv_aload_n hx hb dX0_isBroken_5 rfl (lv_at hl 0 rfl) ?_
  refine lv_iload_n hx hb dX0_isBroken_6 rfl (lv_at hl 1 rfl) ?_
  refine q_callV (As := [.int x1]) (rest := []) ⟨hx, hb, hml, hown, hts⟩ (c_X0_kindOfGap l D cI ad n w t pa pe f0 f1 f2 f3 f4 x1) (cwV 1 hts gX0_isBroken_X0_kindOfGap rfl rfl rfl kv_X0_kindOfGap ⟨Nat.le_of_ble_eq_true rfl, Nat.le_of_ble_eq_true rfl⟩) (va_recv hK hP (ci := 0) (q0 := 0) rfl rfl) hP hK rfl hl.1 rfl (Nat.le_of_ble_eq_true rfl) dX0_isBroken_7 (Nat.zero_le _) (Nat.zero_le _) hS (fun H locs hsm hS => ?_)
  have hP := hsm.P hP
  refine lv_iconst (v := 2) hx hb dX0_isBroken_10 (by decide) ?_
  suffices K_11 : ∀ v9 : Int32, v9 = (bI (decide ((x_kg f0 f1 f2 f3 x1) = 2))) → W p l e ({ frames := 4, cells := 0, slots := 0, locals := 85 } : Room) s m [.ref (ad 0), .int x1].toArray below meth c H locs 0 0 (q_EI below [.ref (ad 0), .int x1].toArray s (bI (decide (x_kg f0 f1 f2 f3 x1 = 2)))) (F0 m 19 ls [.int v9]) from by
    refine lv_icmp_ne (tgt := 18) hx hb dX0_isBroken_11 (by decide) (fun c_11 => ?_) (fun c_11 => ?_)
    · refine lv_iconst (v := 0) hx hb dX0_isBroken_18 (by decide) ?_
      exact K_11 _ (bI_df c_11)
    · refine lv_iconst (v := 1) hx hb dX0_isBroken_14 (by decide) ?_
      refine lv_goto (tgt := 19) hx hb dX0_isBroken_15 (by decide) ?_
      exact K_11 _ (bI_dt c_11)
  intro v9 hv9
  rw [hv9]; clear hv9
  exact q_retZ hx hb hr hlocks hS rfl (bI_01 _) dX0_isBroken_19

theorem kv_X0_threadOf : yX0_threadOf.cls = RX0 ∧ yX0_threadOf.cls ≠ "java/lang/invoke/MethodHandle" ∧ yX0_threadOf.cls ≠ "java/lang/invoke/VarHandle" ∧ (parseMethodDescriptor yX0_threadOf.desc).map (fun d => d.parameters.length) = some 1 := by decide +kernel
theorem ks_X0_threadOf : yX0_threadOf.cls ≠ "java/lang/invoke/MethodHandle" ∧ yX0_threadOf.cls ≠ "java/lang/invoke/VarHandle" ∧ (parseMethodDescriptor yX0_threadOf.desc).map (fun d => d.parameters.length) = some 1 := kv_X0_threadOf.2
set_option maxHeartbeats 4000000 in
set_option maxRecDepth 100000 in
theorem c_X0_threadOf (l : Launch) (D : va_G) (cI : ClassId) (ad : Nat → Nat) (n : Int32) (w : Int32) (t : Int32) (pa pe : Int32) (f0 f1 f2 f3 f4 : Nat → Int32) (x1 : Int32) (h1a : ¬ x1 < 0) (h1b : x1 < w) : q_I l yX0_threadOf wsX0_threadOf ({ frames := 2, cells := 0, slots := 0, locals := 42 } : Room) D ([(cI, .int)]) (xw cI ad n w t pa pe f0 f1 f2 f3 f4) [.ref (ad 0), .int x1] (rd f4 x1) := by
  refine q_startI (cc := cX0_threadOf) (maxL := 2) (rt := .int) (by decide) rfl (Nat.le_of_ble_eq_true rfl) ?_
  intro p e s m below meth c hx hb hml hr hts hown hlocks hK H locs ls hP hS hl
  have hin : ∀ w ∈ wsX00, w ∈ wsX0_threadOf := by decide +kernel
  have hl : lv_has ls 2 [(0, .ref (ad 0)), (1, .int x1)] := hl
  refine lv_aload_n hx hb dX0_threadOf_0 rfl (lv_at hl 0 rfl) ?_
  refine lv_iload_n hx hb dX0_threadOf_1 rfl (lv_at hl 1 rfl) ?_
  refine q_callVV (As := [.int x1]) (rest := []) ⟨hx, hb, hml, hown, hts⟩ (c_X0_requireWord l D cI ad n w t pa pe f0 f1 f2 f3 f4 x1 h1a h1b) (cwV 1 hts gX0_threadOf_X0_requireWord rfl rfl rfl kv_X0_requireWord ⟨Nat.le_of_ble_eq_true rfl, Nat.le_of_ble_eq_true rfl⟩) (va_recv hK hP (ci := 0) (q0 := 0) rfl rfl) hP hK rfl hl.1 rfl (Nat.le_of_ble_eq_true rfl) dX0_threadOf_2 (Nat.zero_le _) (Nat.zero_le _) hS (fun H locs hsm hS => ?_)
  have hP := hsm.P hP
  refine lv_aload_n hx hb dX0_threadOf_5 rfl (lv_at hl 0 rfl) ?_
  refine lv_iload_n hx hb dX0_threadOf_6 rfl (lv_at hl 1 rfl) ?_
  refine q_callV (As := [.int x1]) (rest := []) ⟨hx, hb, hml, hown, hts⟩ (c_X0_threadOfWord l D cI ad n w t pa pe f0 f1 f2 f3 f4 x1) (cwV 1 hts gX0_threadOf_X0_threadOfWord rfl rfl rfl kv_X0_threadOfWord ⟨Nat.le_of_ble_eq_true rfl, Nat.le_of_ble_eq_true rfl⟩) (va_recv hK hP (ci := 0) (q0 := 0) rfl rfl) hP hK rfl hl.1 rfl (Nat.le_of_ble_eq_true rfl) dX0_threadOf_7 (Nat.zero_le _) (Nat.zero_le _) hS (fun H locs hsm hS => ?_)
  have hP := hsm.P hP
  exact q_retI hx hb hr hlocks hS rfl dX0_threadOf_10

theorem kv_X0_lengthOf : yX0_lengthOf.cls = RX0 ∧ yX0_lengthOf.cls ≠ "java/lang/invoke/MethodHandle" ∧ yX0_lengthOf.cls ≠ "java/lang/invoke/VarHandle" ∧ (parseMethodDescriptor yX0_lengthOf.desc).map (fun d => d.parameters.length) = some 1 := by decide +kernel
theorem ks_X0_lengthOf : yX0_lengthOf.cls ≠ "java/lang/invoke/MethodHandle" ∧ yX0_lengthOf.cls ≠ "java/lang/invoke/VarHandle" ∧ (parseMethodDescriptor yX0_lengthOf.desc).map (fun d => d.parameters.length) = some 1 := kv_X0_lengthOf.2
set_option maxHeartbeats 4000000 in
set_option maxRecDepth 100000 in
theorem c_X0_lengthOf (l : Launch) (D : va_G) (cI : ClassId) (ad : Nat → Nat) (n : Int32) (wN : Nat) (t : Int32) (pa pe : Int32) (f0 f1 f2 f3 f4 : Nat → Int32) (x1 : Int32) (h1a : ¬ x1 < 0) (h1b : x1 < t) (hwN : wN ≤ 24) : q_I l yX0_lengthOf wsX0_lengthOf ({ frames := 3, cells := 0, slots := 0, locals := 65 } : Room) D ([(cI, .int)]) (xw cI ad n (nI wN) t pa pe f0 f1 f2 f3 f4) [.ref (ad 0), .int x1] (x_wt f4 x1 wN) := by
  refine q_startI (cc := cX0_lengthOf) (maxL := 2) (rt := .int) (by decide) rfl (Nat.le_of_ble_eq_true rfl) ?_
  intro p e s m below meth c hx hb hml hr hts hown hlocks hK H locs ls hP hS hl
  have hin : ∀ w ∈ wsX00, w ∈ wsX0_lengthOf := by decide +kernel
  have hl : lv_has ls 2 [(0, .ref (ad 0)), (1, .int x1)] := hl
  refine lv_aload_n hx hb dX0_lengthOf_0 rfl (lv_at hl 0 rfl) ?_
  refine lv_iload_n hx hb dX0_lengthOf_1 rfl (lv_at hl 1 rfl) ?_
  refine q_callVV (As := [.int x1]) (rest := []) ⟨hx, hb, hml, hown, hts⟩ (c_X0_requireThread l D cI ad n (nI wN) t pa pe f0 f1 f2 f3 f4 x1 h1a h1b) (cwV 1 hts gX0_lengthOf_X0_requireThread rfl rfl rfl kv_X0_requireThread ⟨Nat.le_of_ble_eq_true rfl, Nat.le_of_ble_eq_true rfl⟩) (va_recv hK hP (ci := 0) (q0 := 0) rfl rfl) hP hK rfl hl.1 rfl (Nat.le_of_ble_eq_true rfl) dX0_lengthOf_2 (Nat.zero_le _) (Nat.zero_le _) hS (fun H locs hsm hS => ?_)
  have hP := hsm.P hP
  refine lv_aload_n hx hb dX0_lengthOf_5 rfl (lv_at hl 0 rfl) ?_
  refine lv_iload_n hx hb dX0_lengthOf_6 rfl (lv_at hl 1 rfl) ?_
  refine q_callV (As := [.int x1]) (rest := []) ⟨hx, hb, hml, hown, hts⟩ (c_X0_wordsInThread l D cI ad n wN t pa pe f0 f1 f2 f3 f4 x1 hwN) (cwV 1 hts gX0_lengthOf_X0_wordsInThread rfl rfl rfl kv_X0_wordsInThread ⟨Nat.le_of_ble_eq_true rfl, Nat.le_of_ble_eq_true rfl⟩) (va_recv hK hP (ci := 0) (q0 := 0) rfl rfl) hP hK rfl hl.1 rfl (Nat.le_of_ble_eq_true rfl) dX0_lengthOf_7 (Nat.zero_le _) (Nat.zero_le _) hS (fun H locs hsm hS => ?_)
  have hP := hsm.P hP
  exact q_retI hx hb hr hlocks hS rfl dX0_lengthOf_10

theorem kv_X0_threadsOf : yX0_threadsOf.cls = RX0 ∧ yX0_threadsOf.cls ≠ "java/lang/invoke/MethodHandle" ∧ yX0_threadsOf.cls ≠ "java/lang/invoke/VarHandle" ∧ (parseMethodDescriptor yX0_threadsOf.desc).map (fun d => d.parameters.length) = some 1 := by decide +kernel
theorem ks_X0_threadsOf : yX0_threadsOf.cls ≠ "java/lang/invoke/MethodHandle" ∧ yX0_threadsOf.cls ≠ "java/lang/invoke/VarHandle" ∧ (parseMethodDescriptor yX0_threadsOf.desc).map (fun d => d.parameters.length) = some 1 := kv_X0_threadsOf.2
set_option maxHeartbeats 4000000 in
set_option maxRecDepth 100000 in
theorem c_X0_threadsOf (l : Launch) (D : va_G) (cI : ClassId) (ad : Nat → Nat) (n : Int32) (wN : Nat) (t : Int32) (pa pe : Int32) (f0 f1 f2 f3 f4 : Nat → Int32) (x1 : Int32) (h1a : ¬ x1 < 0) (h1b : x1 < 6) (hwN : wN ≤ 24) : q_I l yX0_threadsOf wsX0_threadsOf ({ frames := 2, cells := 0, slots := 0, locals := 42 } : Room) D ([(cI, .int)]) (xw cI ad n (nI wN) t pa pe f0 f1 f2 f3 f4) [.ref (ad 0), .int x1] ((x_to f0 f3 f4 x1 wN).1) := by
  refine q_startI (cc := cX0_threadsOf) (maxL := 6) (rt := .int) (by decide) rfl (Nat.le_of_ble_eq_true rfl) ?_
  intro p e s m below meth c hx hb hml hr hts hown hlocks hK H locs ls hP hS hl
  have hin : ∀ w ∈ wsX00, w ∈ wsX0_threadsOf := by decide +kernel
  have hl : lv_has ls 6 [(0, .ref (ad 0)), (1, .int x1)] := hl
  refine lv_iload_n hx hb dX0_threadsOf_0 rfl (lv_at hl 1 rfl) ?_
  refine q_callSV (As := [.int x1]) (rest := []) ⟨hx, hb, hml, hown, hts⟩ (c_X0_requireSpeaker l D x1 h1a h1b) (va_cwS 1 hts gX0_threadsOf_X0_requireSpeaker rfl rfl rfl ks_X0_requireSpeaker ⟨Nat.le_of_ble_eq_true rfl, Nat.le_of_ble_eq_true rfl⟩) (hP.sub [] rfl) (hK.sub [] rfl) rfl hl.1 rfl (Nat.le_of_ble_eq_true rfl) dX0_threadsOf_1 (Nat.zero_le _) (Nat.zero_le _) hS (fun H locs hsm hS => ?_)
  have hP := hsm.P hP
  refine lv_iconst (v := 0) hx hb dX0_threadsOf_4 (by decide) ?_
  refine lv_istore_n (lv' := [(2, .int 0), (0, .ref (ad 0)), (1, .int x1)]) hx hb dX0_threadsOf_5 rfl hl (by decide) rfl (fun ls hl => ?_)
  refine lv_iconst (v := -1) hx hb dX0_threadsOf_6 (by decide) ?_
  refine lv_istore_n (lv' := [(3, .int (-1)), (2, .int 0), (0, .ref (ad 0)), (1, .int x1)]) hx hb dX0_threadsOf_7 rfl hl (by decide) rfl (fun ls hl => ?_)
  refine lv_iconst (v := 0) hx hb dX0_threadsOf_8 (by decide) ?_
  refine lv_istore (lv' := [(4, .int 0), (3, .int (-1)), (2, .int 0), (0, .ref (ad 0)), (1, .int x1)]) hx hb dX0_threadsOf_9 hl (by decide) rfl (fun ls hl => ?_)
  have lo_11 : ∀ (fu i : Nat), wN - i < fu → i ≤ wN → ∀ (H : Heap) (locs : List Loc) (ls : Array Slot), va_P D vwCl (xw cI ad n (nI wN) t pa pe f0 f1 f2 f3 f4) H → va_S q_no s.heap H locs → lv_has ls 6 [(2, .int ((x_to f0 f3 f4 x1 i).1)), (3, .int ((x_to f0 f3 f4 x1 i).2)), (4, .int (nI i)), (0, .ref (ad 0)), (1, .int x1)] → W p l e ({ frames := 2, cells := 0, slots := 0, locals := 42 } : Room) s m [.ref (ad 0), .int x1].toArray below meth c H locs 0 0 (q_EI below [.ref (ad 0), .int x1].toArray s ((x_to f0 f3 f4 x1 wN).1)) (F0 m 11 ls []) := by
    intro fu
    induction fu with
    | zero => intro i hi; exact absurd hi (Nat.not_lt_zero _)
    | succ fu ih =>
      intro i hi hiN H locs ls hP hS hl
      refine lv_iload hx hb dX0_threadsOf_11 (lv_at hl 2 rfl) ?_
      refine lv_aload_n hx hb dX0_threadsOf_13 rfl (lv_at hl 3 rfl) ?_
      refine va_get (D := D) (ci := 0) (v := .int (nI wN)) (C := RX0) (T := TX0) (N := 10) hx hb hts hin hown hK hP 0 rfl rfl 6 (by decide) (hts (.fieldLink RX0 116 "SplicedTalk" "wordCount" "I") (by decide +kernel)) (fun _ h9 => h9) rfl dX0_threadsOf_14 ?_
      refine lv_icmp_ge (tgt := 56) hx hb dX0_threadsOf_17 (by decide) (fun c_17 => ?_) (fun c_17 => ?_)
      · have hi9 := nI_ge' hiN (by omega) c_17
        refine lv_iload_n hx hb dX0_threadsOf_56 rfl (lv_at hl 0 rfl) ?_
        exact q_retI hx hb hr hlocks hS (by rw [hi9]) dX0_threadsOf_57
      · have hi9 := nI_lt' hiN (by omega) c_17
        refine lv_aload_n hx hb dX0_threadsOf_20 rfl (lv_at hl 3 rfl) ?_
        refine lv_iload hx hb dX0_threadsOf_21 (lv_at hl 2 rfl) ?_
        refine q_callV (As := [.int (nI i)]) (rest := []) ⟨hx, hb, hml, hown, hts⟩ (c_X0_threadOfWord l D cI ad n (nI wN) t pa pe f0 f1 f2 f3 f4 (nI i)) (cwV 1 hts gX0_threadsOf_X0_threadOfWord rfl rfl rfl kv_X0_threadOfWord ⟨Nat.le_of_ble_eq_true rfl, Nat.le_of_ble_eq_true rfl⟩) (va_recv hK hP (ci := 0) (q0 := 0) rfl rfl) hP hK rfl hl.1 rfl (Nat.le_of_ble_eq_true rfl) dX0_threadsOf_23 (Nat.zero_le _) (Nat.zero_le _) hS (fun H locs hsm hS => ?_)
        have hP := hsm.P hP
        refine lv_istore (lv' := [(5, .int (rd f4 (nI i))), (2, .int ((x_to f0 f3 f4 x1 i).1)), (3, .int ((x_to f0 f3 f4 x1 i).2)), (4, .int (nI i)), (0, .ref (ad 0)), (1, .int x1)]) hx hb dX0_threadsOf_26 hl (by decide) rfl (fun ls hl => ?_)
        refine lv_aload_n hx hb dX0_threadsOf_28 rfl (lv_at hl 4 rfl) ?_
        refine lv_iload hx hb dX0_threadsOf_29 (lv_at hl 3 rfl) ?_
        refine q_callV (As := [.int (nI i)]) (rest := []) ⟨hx, hb, hml, hown, hts⟩ (c_X0_speakerOfWord l D cI ad n (nI wN) t pa pe f0 f1 f2 f3 f4 (nI i)) (cwV 1 hts gX0_threadsOf_X0_speakerOfWord rfl rfl rfl kv_X0_speakerOfWord ⟨Nat.le_of_ble_eq_true rfl, Nat.le_of_ble_eq_true rfl⟩) (va_recv hK hP (ci := 0) (q0 := 0) rfl rfl) hP hK rfl hl.1 rfl (Nat.le_of_ble_eq_true rfl) dX0_threadsOf_31 (Nat.zero_le _) (Nat.zero_le _) hS (fun H locs hsm hS => ?_)
        have hP := hsm.P hP
        refine lv_iload_n hx hb dX0_threadsOf_34 rfl (lv_at hl 5 rfl) ?_
        refine lv_icmp_ne (tgt := 50) hx hb dX0_threadsOf_35 (by decide) (fun c_35 => ?_) (fun c_35 => ?_)
        · refine lv_iinc (v := ((nI i) + 1)) (lv' := [(4, .int ((nI i) + 1)), (5, .int (rd f4 (nI i))), (2, .int ((x_to f0 f3 f4 x1 i).1)), (3, .int ((x_to f0 f3 f4 x1 i).2)), (0, .ref (ad 0)), (1, .int x1)]) hx hb dX0_threadsOf_50 hl (k := 3) rfl (by rfl) (by decide) rfl (fun ls hl => ?_)
          refine lv_goto (tgt := 11) hx hb dX0_threadsOf_53 (by decide) ?_
          have e_2 : ((x_to f0 f3 f4 x1 i).1 : Int32) = (x_to f0 f3 f4 x1 (i + 1)).1 := (by rw [x_to_s, if_neg (fun h => c_35 h.1)])
          have e_3 : ((x_to f0 f3 f4 x1 i).2 : Int32) = (x_to f0 f3 f4 x1 (i + 1)).2 := (by rw [x_to_s, if_neg (fun h => c_35 h.1)])
          have e_4 : (((nI i) + 1) : Int32) = (nI (i + 1)) := nI_1 i
          exact ih (i + 1) (by omega) (by omega) H locs ls hP hS (lv_eq (lv_sub (l' := [(2, .int ((x_to f0 f3 f4 x1 i).1)), (3, .int ((x_to f0 f3 f4 x1 i).2)), (4, .int ((nI i) + 1)), (0, .ref (ad 0)), (1, .int x1)]) hl [2, 3, 0, 4, 5] rfl) (by rw [e_2, e_3, e_4]))
        · refine lv_iload hx hb dX0_threadsOf_38 (lv_at hl 0 rfl) ?_
          refine lv_iload_n hx hb dX0_threadsOf_40 rfl (lv_at hl 2 rfl) ?_
          refine lv_icmp_eq (tgt := 50) hx hb dX0_threadsOf_41 (by decide) (fun c_41 => ?_) (fun c_41 => ?_)
          · refine lv_iinc (v := ((nI i) + 1)) (lv' := [(4, .int ((nI i) + 1)), (5, .int (rd f4 (nI i))), (2, .int ((x_to f0 f3 f4 x1 i).1)), (3, .int ((x_to f0 f3 f4 x1 i).2)), (0, .ref (ad 0)), (1, .int x1)]) hx hb dX0_threadsOf_50 hl (k := 3) rfl (by rfl) (by decide) rfl (fun ls hl => ?_)
            refine lv_goto (tgt := 11) hx hb dX0_threadsOf_53 (by decide) ?_
            have e_2 : ((x_to f0 f3 f4 x1 i).1 : Int32) = (x_to f0 f3 f4 x1 (i + 1)).1 := (by rw [x_to_s, if_neg (fun h => h.2 c_41)])
            have e_3 : ((x_to f0 f3 f4 x1 i).2 : Int32) = (x_to f0 f3 f4 x1 (i + 1)).2 := (by rw [x_to_s, if_neg (fun h => h.2 c_41)])
            have e_4 : (((nI i) + 1) : Int32) = (nI (i + 1)) := nI_1 i
            exact ih (i + 1) (by omega) (by omega) H locs ls hP hS (lv_eq (lv_sub (l' := [(2, .int ((x_to f0 f3 f4 x1 i).1)), (3, .int ((x_to f0 f3 f4 x1 i).2)), (4, .int ((nI i) + 1)), (0, .ref (ad 0)), (1, .int x1)]) hl [2, 3, 0, 4, 5] rfl) (by rw [e_2, e_3, e_4]))
          · refine lv_iload hx hb dX0_threadsOf_44 (lv_at hl 0 rfl) ?_
            refine lv_istore_n (lv' := [(3, .int (rd f4 (nI i))), (5, .int (rd f4 (nI i))), (2, .int ((x_to f0 f3 f4 x1 i).1)), (4, .int (nI i)), (0, .ref (ad 0)), (1, .int x1)]) hx hb dX0_threadsOf_46 rfl hl (by decide) rfl (fun ls hl => ?_)
            refine lv_iinc (v := ((x_to f0 f3 f4 x1 i).1 + 1)) (lv' := [(2, .int ((x_to f0 f3 f4 x1 i).1 + 1)), (3, .int (rd f4 (nI i))), (5, .int (rd f4 (nI i))), (4, .int (nI i)), (0, .ref (ad 0)), (1, .int x1)]) hx hb dX0_threadsOf_47 hl (k := 2) rfl (by rfl) (by decide) rfl (fun ls hl => ?_)
            refine lv_iinc (v := ((nI i) + 1)) (lv' := [(4, .int ((nI i) + 1)), (2, .int ((x_to f0 f3 f4 x1 i).1 + 1)), (3, .int (rd f4 (nI i))), (5, .int (rd f4 (nI i))), (0, .ref (ad 0)), (1, .int x1)]) hx hb dX0_threadsOf_50 hl (k := 3) rfl (by rfl) (by decide) rfl (fun ls hl => ?_)
            refine lv_goto (tgt := 11) hx hb dX0_threadsOf_53 (by decide) ?_
            have e_2 : (((x_to f0 f3 f4 x1 i).1 + 1) : Int32) = (x_to f0 f3 f4 x1 (i + 1)).1 := (by rw [x_to_s, if_pos ⟨c_35, c_41⟩])
            have e_3 : ((rd f4 (nI i)) : Int32) = (x_to f0 f3 f4 x1 (i + 1)).2 := (by rw [x_to_s, if_pos ⟨c_35, c_41⟩])
            have e_4 : (((nI i) + 1) : Int32) = (nI (i + 1)) := nI_1 i
            exact ih (i + 1) (by omega) (by omega) H locs ls hP hS (lv_eq (lv_sub (l' := [(2, .int ((x_to f0 f3 f4 x1 i).1 + 1)), (3, .int (rd f4 (nI i))), (4, .int ((nI i) + 1)), (0, .ref (ad 0)), (1, .int x1)]) hl [1, 2, 0, 4, 5] rfl) (by rw [e_2, e_3, e_4]))
  exact lo_11 (wN + 1) 0 (by omega) (by omega) H locs ls hP hS (lv_sub hl [2, 1, 0, 3, 4] rfl)

theorem kv_X0_topicsIn : yX0_topicsIn.cls = RX0 ∧ yX0_topicsIn.cls ≠ "java/lang/invoke/MethodHandle" ∧ yX0_topicsIn.cls ≠ "java/lang/invoke/VarHandle" ∧ (parseMethodDescriptor yX0_topicsIn.desc).map (fun d => d.parameters.length) = some 1 := by decide +kernel
theorem ks_X0_topicsIn : yX0_topicsIn.cls ≠ "java/lang/invoke/MethodHandle" ∧ yX0_topicsIn.cls ≠ "java/lang/invoke/VarHandle" ∧ (parseMethodDescriptor yX0_topicsIn.desc).map (fun d => d.parameters.length) = some 1 := kv_X0_topicsIn.2
set_option maxHeartbeats 4000000 in
set_option maxRecDepth 100000 in
theorem c_X0_topicsIn (l : Launch) (D : va_G) (cI : ClassId) (ad : Nat → Nat) (n : Int32) (wN : Nat) (t : Int32) (pa pe : Int32) (f0 f1 f2 f3 f4 : Nat → Int32) (x1 : Int32) (h1a : ¬ x1 < 0) (h1b : x1 < t) (hwN : wN ≤ 24) : q_I l yX0_topicsIn wsX0_topicsIn ({ frames := 2, cells := 0, slots := 0, locals := 42 } : Room) D ([(cI, .int)]) (xw cI ad n (nI wN) t pa pe f0 f1 f2 f3 f4) [.ref (ad 0), .int x1] (i_bits (x_tm f1 f3 f4 x1 wN)) := by
  refine q_startI (cc := cX0_topicsIn) (maxL := 4) (rt := .int) (by decide) rfl (Nat.le_of_ble_eq_true rfl) ?_
  intro p e s m below meth c hx hb hml hr hts hown hlocks hK H locs ls hP hS hl
  have hin : ∀ w ∈ wsX00, w ∈ wsX0_topicsIn := by decide +kernel
  have hl : lv_has ls 4 [(0, .ref (ad 0)), (1, .int x1)] := hl
  refine lv_aload_n hx hb dX0_topicsIn_0 rfl (lv_at hl 0 rfl) ?_
  refine lv_iload_n hx hb dX0_topicsIn_1 rfl (lv_at hl 1 rfl) ?_
  refine q_callVV (As := [.int x1]) (rest := []) ⟨hx, hb, hml, hown, hts⟩ (c_X0_requireThread l D cI ad n (nI wN) t pa pe f0 f1 f2 f3 f4 x1 h1a h1b) (cwV 1 hts gX0_topicsIn_X0_requireThread rfl rfl rfl kv_X0_requireThread ⟨Nat.le_of_ble_eq_true rfl, Nat.le_of_ble_eq_true rfl⟩) (va_recv hK hP (ci := 0) (q0 := 0) rfl rfl) hP hK rfl hl.1 rfl (Nat.le_of_ble_eq_true rfl) dX0_topicsIn_2 (Nat.zero_le _) (Nat.zero_le _) hS (fun H locs hsm hS => ?_)
  have hP := hsm.P hP
  refine lv_iconst (v := 0) hx hb dX0_topicsIn_5 (by decide) ?_
  refine lv_istore_n (lv' := [(2, .int 0), (0, .ref (ad 0)), (1, .int x1)]) hx hb dX0_topicsIn_6 rfl hl (by decide) rfl (fun ls hl => ?_)
  refine lv_iconst (v := 0) hx hb dX0_topicsIn_7 (by decide) ?_
  refine lv_istore_n (lv' := [(3, .int 0), (2, .int 0), (0, .ref (ad 0)), (1, .int x1)]) hx hb dX0_topicsIn_8 rfl hl (by decide) rfl (fun ls hl => ?_)
  have lo_9 : ∀ (fu i : Nat), wN - i < fu → i ≤ wN → ∀ (H : Heap) (locs : List Loc) (ls : Array Slot), va_P D vwCl (xw cI ad n (nI wN) t pa pe f0 f1 f2 f3 f4) H → va_S q_no s.heap H locs → lv_has ls 4 [(2, .int (x_tm f1 f3 f4 x1 i)), (3, .int (nI i)), (0, .ref (ad 0)), (1, .int x1)] → W p l e ({ frames := 2, cells := 0, slots := 0, locals := 42 } : Room) s m [.ref (ad 0), .int x1].toArray below meth c H locs 0 0 (q_EI below [.ref (ad 0), .int x1].toArray s (i_bits (x_tm f1 f3 f4 x1 wN))) (F0 m 9 ls []) := by
    intro fu
    induction fu with
    | zero => intro i hi; exact absurd hi (Nat.not_lt_zero _)
    | succ fu ih =>
      intro i hi hiN H locs ls hP hS hl
      refine lv_iload_n hx hb dX0_topicsIn_9 rfl (lv_at hl 1 rfl) ?_
      refine lv_aload_n hx hb dX0_topicsIn_10 rfl (lv_at hl 2 rfl) ?_
      refine va_get (D := D) (ci := 0) (v := .int (nI wN)) (C := RX0) (T := TX0) (N := 10) hx hb hts hin hown hK hP 0 rfl rfl 6 (by decide) (hts (.fieldLink RX0 116 "SplicedTalk" "wordCount" "I") (by decide +kernel)) (fun _ h9 => h9) rfl dX0_topicsIn_11 ?_
      refine lv_icmp_ge (tgt := 42) hx hb dX0_topicsIn_14 (by decide) (fun c_14 => ?_) (fun c_14 => ?_)
      · have hi9 := nI_ge' hiN (by omega) c_14
        refine lv_iload_n hx hb dX0_topicsIn_42 rfl (lv_at hl 0 rfl) ?_
        refine q_callS (As := [.int (x_tm f1 f3 f4 x1 i)]) (rest := []) ⟨hx, hb, hml, hown, hts⟩ (c_J6_bitCount_0f7a4 l D (x_tm f1 f3 f4 x1 i)) (va_cwS 1 hts gX0_topicsIn_J6_bitCount_0f7a4 rfl rfl rfl ks_J6_bitCount_0f7a4 ⟨Nat.le_of_ble_eq_true rfl, Nat.le_of_ble_eq_true rfl⟩) (hP.sub [] rfl) (hK.sub [] rfl) rfl hl.1 rfl (Nat.le_of_ble_eq_true rfl) dX0_topicsIn_43 (Nat.zero_le _) (Nat.zero_le _) hS (fun H locs hsm hS => ?_)
        have hP := hsm.P hP
        exact q_retI hx hb hr hlocks hS (by rw [hi9]) dX0_topicsIn_46
      · have hi9 := nI_lt' hiN (by omega) c_14
        refine lv_aload_n hx hb dX0_topicsIn_17 rfl (lv_at hl 2 rfl) ?_
        refine lv_iload_n hx hb dX0_topicsIn_18 rfl (lv_at hl 1 rfl) ?_
        refine q_callV (As := [.int (nI i)]) (rest := []) ⟨hx, hb, hml, hown, hts⟩ (c_X0_threadOfWord l D cI ad n (nI wN) t pa pe f0 f1 f2 f3 f4 (nI i)) (cwV 1 hts gX0_topicsIn_X0_threadOfWord rfl rfl rfl kv_X0_threadOfWord ⟨Nat.le_of_ble_eq_true rfl, Nat.le_of_ble_eq_true rfl⟩) (va_recv hK hP (ci := 0) (q0 := 0) rfl rfl) hP hK rfl hl.1 rfl (Nat.le_of_ble_eq_true rfl) dX0_topicsIn_19 (Nat.zero_le _) (Nat.zero_le _) hS (fun H locs hsm hS => ?_)
        have hP := hsm.P hP
        refine lv_iload_n hx hb dX0_topicsIn_22 rfl (lv_at hl 3 rfl) ?_
        refine lv_icmp_ne (tgt := 36) hx hb dX0_topicsIn_23 (by decide) (fun c_23 => ?_) (fun c_23 => ?_)
        · refine lv_iinc (v := ((nI i) + 1)) (lv' := [(3, .int ((nI i) + 1)), (2, .int (x_tm f1 f3 f4 x1 i)), (0, .ref (ad 0)), (1, .int x1)]) hx hb dX0_topicsIn_36 hl (k := 1) rfl (by rfl) (by decide) rfl (fun ls hl => ?_)
          refine lv_goto (tgt := 9) hx hb dX0_topicsIn_39 (by decide) ?_
          have e_2 : ((x_tm f1 f3 f4 x1 i) : Int32) = (x_tm f1 f3 f4 x1 (i + 1)) := (by rw [x_tm_s, if_neg c_23])
          have e_3 : (((nI i) + 1) : Int32) = (nI (i + 1)) := nI_1 i
          exact ih (i + 1) (by omega) (by omega) H locs ls hP hS (lv_eq (lv_sub (l' := [(2, .int (x_tm f1 f3 f4 x1 i)), (3, .int ((nI i) + 1)), (0, .ref (ad 0)), (1, .int x1)]) hl [1, 0, 2, 3] rfl) (by rw [e_2, e_3]))
        · refine lv_iload_n hx hb dX0_topicsIn_26 rfl (lv_at hl 0 rfl) ?_
          refine lv_iconst (v := 1) hx hb dX0_topicsIn_27 (by decide) ?_
          refine lv_aload_n hx hb dX0_topicsIn_28 rfl (lv_at hl 2 rfl) ?_
          refine lv_iload_n hx hb dX0_topicsIn_29 rfl (lv_at hl 1 rfl) ?_
          refine q_callV (As := [.int (nI i)]) (rest := [.int 1, .int (x_tm f1 f3 f4 x1 i)]) ⟨hx, hb, hml, hown, hts⟩ (c_X0_topicOfWord l D cI ad n (nI wN) t pa pe f0 f1 f2 f3 f4 (nI i)) (cwV 1 hts gX0_topicsIn_X0_topicOfWord rfl rfl rfl kv_X0_topicOfWord ⟨Nat.le_of_ble_eq_true rfl, Nat.le_of_ble_eq_true rfl⟩) (va_recv hK hP (ci := 0) (q0 := 0) rfl rfl) hP hK rfl hl.1 rfl (Nat.le_of_ble_eq_true rfl) dX0_topicsIn_30 (Nat.zero_le _) (Nat.zero_le _) hS (fun H locs hsm hS => ?_)
          have hP := hsm.P hP
          refine lv_ishl hx hb dX0_topicsIn_33 ?_
          refine lv_ior hx hb dX0_topicsIn_34 ?_
          refine lv_istore_n (lv' := [(2, .int ((x_tm f1 f3 f4 x1 i) ||| (1 <<< ((x_tp f1 f3 (nI i)) &&& 31)))), (3, .int (nI i)), (0, .ref (ad 0)), (1, .int x1)]) hx hb dX0_topicsIn_35 rfl hl (by decide) rfl (fun ls hl => ?_)
          refine lv_iinc (v := ((nI i) + 1)) (lv' := [(3, .int ((nI i) + 1)), (2, .int ((x_tm f1 f3 f4 x1 i) ||| (1 <<< ((x_tp f1 f3 (nI i)) &&& 31)))), (0, .ref (ad 0)), (1, .int x1)]) hx hb dX0_topicsIn_36 hl (k := 1) rfl (by rfl) (by decide) rfl (fun ls hl => ?_)
          refine lv_goto (tgt := 9) hx hb dX0_topicsIn_39 (by decide) ?_
          have e_2 : (((x_tm f1 f3 f4 x1 i) ||| (1 <<< ((x_tp f1 f3 (nI i)) &&& 31))) : Int32) = (x_tm f1 f3 f4 x1 (i + 1)) := (by rw [x_tm_s, if_pos c_23])
          have e_3 : (((nI i) + 1) : Int32) = (nI (i + 1)) := nI_1 i
          exact ih (i + 1) (by omega) (by omega) H locs ls hP hS (lv_eq (lv_sub (l' := [(2, .int ((x_tm f1 f3 f4 x1 i) ||| (1 <<< ((x_tp f1 f3 (nI i)) &&& 31)))), (3, .int ((nI i) + 1)), (0, .ref (ad 0)), (1, .int x1)]) hl [1, 0, 2, 3] rfl) (by rw [e_2, e_3]))
  exact lo_9 (wN + 1) 0 (by omega) (by omega) H locs ls hP hS (lv_sub hl [1, 0, 2, 3] rfl)

theorem kv_X0_costOfMending : yX0_costOfMending.cls = RX0 ∧ yX0_costOfMending.cls ≠ "java/lang/invoke/MethodHandle" ∧ yX0_costOfMending.cls ≠ "java/lang/invoke/VarHandle" ∧ (parseMethodDescriptor yX0_costOfMending.desc).map (fun d => d.parameters.length) = some 1 := by decide +kernel
theorem ks_X0_costOfMending : yX0_costOfMending.cls ≠ "java/lang/invoke/MethodHandle" ∧ yX0_costOfMending.cls ≠ "java/lang/invoke/VarHandle" ∧ (parseMethodDescriptor yX0_costOfMending.desc).map (fun d => d.parameters.length) = some 1 := kv_X0_costOfMending.2
set_option maxHeartbeats 4000000 in
set_option maxRecDepth 100000 in
theorem c_X0_costOfMending (l : Launch) (D : va_G) (cI : ClassId) (ad : Nat → Nat) (n : Int32) (w : Int32) (t : Int32) (pa pe : Int32) (f0 f1 f2 f3 f4 : Nat → Int32) (x1 : Int32) (h1a : ¬ x1 < 0) (h1b : x1 < (x_gc w)) : q_I l yX0_costOfMending wsX0_costOfMending ({ frames := 5, cells := 0, slots := 0, locals := 108 } : Room) D ([(cI, .int)]) (xw cI ad n w t pa pe f0 f1 f2 f3 f4) [.ref (ad 0), .int x1] (x_mc f0 f1 f2 f3 x1) := by
  refine q_startI (cc := cX0_costOfMending) (maxL := 2) (rt := .int) (by decide) rfl (Nat.le_of_ble_eq_true rfl) ?_
  intro p e s m below meth c hx hb hml hr hts hown hlocks hK H locs ls hP hS hl
  have hin : ∀ w ∈ wsX00, w ∈ wsX0_costOfMending := by decide +kernel
  have hl : lv_has ls 2 [(0, .ref (ad 0)), (1, .int x1)] := hl
  refine lv_aload_n hx hb dX0_costOfMending_0 rfl (lv_at hl 0 rfl) ?_
  refine lv_iload_n hx hb dX0_costOfMending_1 rfl (lv_at hl 1 rfl) ?_
  refine q_callVV (As := [.int x1]) (rest := []) ⟨hx, hb, hml, hown, hts⟩ (c_X0_requireGap l D cI ad n w t pa pe f0 f1 f2 f3 f4 x1 h1a h1b) (cwV 1 hts gX0_costOfMending_X0_requireGap rfl rfl rfl kv_X0_requireGap ⟨Nat.le_of_ble_eq_true rfl, Nat.le_of_ble_eq_true rfl⟩) (va_recv hK hP (ci := 0) (q0 := 0) rfl rfl) hP hK rfl hl.1 rfl (Nat.le_of_ble_eq_true rfl) dX0_costOfMending_2 (Nat.zero_le _) (Nat.zero_le _) hS (fun H locs hsm hS => ?_)
  have hP := hsm.P hP
  refine lv_aload_n hx hb dX0_costOfMending_5 rfl (lv_at hl 0 rfl) ?_
  refine lv_iload_n hx hb dX0_costOfMending_6 rfl (lv_at hl 1 rfl) ?_
  refine q_callV (As := [.int x1]) (rest := []) ⟨hx, hb, hml, hown, hts⟩ (c_X0_mendingCost l D cI ad n w t pa pe f0 f1 f2 f3 f4 x1) (cwV 1 hts gX0_costOfMending_X0_mendingCost rfl rfl rfl kv_X0_mendingCost ⟨Nat.le_of_ble_eq_true rfl, Nat.le_of_ble_eq_true rfl⟩) (va_recv hK hP (ci := 0) (q0 := 0) rfl rfl) hP hK rfl hl.1 rfl (Nat.le_of_ble_eq_true rfl) dX0_costOfMending_7 (Nat.zero_le _) (Nat.zero_le _) hS (fun H locs hsm hS => ?_)
  have hP := hsm.P hP
  exact q_retI hx hb hr hlocks hS rfl dX0_costOfMending_10

theorem kv_X0_say : yX0_say.cls = RX0 ∧ yX0_say.cls ≠ "java/lang/invoke/MethodHandle" ∧ yX0_say.cls ≠ "java/lang/invoke/VarHandle" ∧ (parseMethodDescriptor yX0_say.desc).map (fun d => d.parameters.length) = some 2 := by decide +kernel
theorem ks_X0_say : yX0_say.cls ≠ "java/lang/invoke/MethodHandle" ∧ yX0_say.cls ≠ "java/lang/invoke/VarHandle" ∧ (parseMethodDescriptor yX0_say.desc).map (fun d => d.parameters.length) = some 2 := kv_X0_say.2
set_option maxHeartbeats 4000000 in
set_option maxRecDepth 100000 in
theorem c_X0_say (l : Launch) (D : va_G) (cI : ClassId) (ad : Nat → Nat) (N : Nat) (w : Int32) (t : Int32) (pa pe : Int32) (f0 f1 f2 f3 f4 : Nat → Int32) (x1 : Int32) (x2 : Int32) (h1a : ¬ x1 < 0) (h1b : x1 < 6) (h2a : ¬ x2 < 0) (h2b : x2 < 10) (h3a : (nI N) < 24) (hN : N < 24) : m_I l yX0_say wsX0_say ({ frames := 6, cells := 0, slots := 0, locals := 129 } : Room) D ([(cI, .int)]) (xw cI ad (nI N) w t pa pe f0 f1 f2 f3 f4) [.ref (ad 0), .int x1, .int x2] (nI N) (xw cI ad (nI (N + 1)) (nI (x_wn (wr f1 (nI N) x2) (N + 1))) (nI (x_tcn (wr f0 (nI N) x1) (wr f1 (nI N) x2) (wr f2 (nI N) 0) (x_wp (wr f1 (nI N) x2) f3 (N + 1)) (x_wn (wr f1 (nI N) x2) (N + 1)))) pa pe (wr f0 (nI N) x1) (wr f1 (nI N) x2) (wr f2 (nI N) 0) (x_wp (wr f1 (nI N) x2) f3 (N + 1)) (x_wh (wr f0 (nI N) x1) (wr f1 (nI N) x2) (wr f2 (nI N) 0) (x_wp (wr f1 (nI N) x2) f3 (N + 1)) f4 (x_wn (wr f1 (nI N) x2) (N + 1)))) := by
  refine m_startI (cc := cX0_say) (maxL := 3) (rt := .int) (by decide) rfl (Nat.le_of_ble_eq_true rfl) ?_
  intro p e s m below meth c A hx hb hml hr hts hown hlocks hK hA H locs ls hP hD hS hl
  have hin : ∀ w ∈ wsX00, w ∈ wsX0_say := by decide +kernel
  have hl : lv_has ls 3 [(0, .ref (ad 0)), (1, .int x1), (2, .int x2)] := hl
  refine lv_iload_n hx hb dX0_say_0 rfl (lv_at hl 1 rfl) ?_
  refine q_callSV (As := [.int x1]) (rest := []) ⟨hx, hb, hml, hown, hts⟩ (c_X0_requireSpeaker l D x1 h1a h1b) (va_cwS 1 hts gX0_say_X0_requireSpeaker rfl rfl rfl ks_X0_requireSpeaker ⟨Nat.le_of_ble_eq_true rfl, Nat.le_of_ble_eq_true rfl⟩) (hP.sub [] rfl) (hK.sub [] rfl) rfl hl.1 rfl (Nat.le_of_ble_eq_true rfl) dX0_say_1 (Nat.zero_le _) (Nat.zero_le _) hS (fun H locs hsm hS => ?_)
  have hP := hsm.P hP
  refine lv_iload_n hx hb dX0_say_4 rfl (lv_at hl 2 rfl) ?_
  refine q_callSV (As := [.int x2]) (rest := []) ⟨hx, hb, hml, hown, hts⟩ (c_X0_requireTopic l D x2 h2a h2b) (va_cwS 1 hts gX0_say_X0_requireTopic rfl rfl rfl ks_X0_requireTopic ⟨Nat.le_of_ble_eq_true rfl, Nat.le_of_ble_eq_true rfl⟩) (hP.sub [] rfl) (hK.sub [] rfl) rfl hl.1 rfl (Nat.le_of_ble_eq_true rfl) dX0_say_5 (Nat.zero_le _) (Nat.zero_le _) hS (fun H locs hsm hS => ?_)
  have hP := hsm.P hP
  refine lv_aload_n hx hb dX0_say_8 rfl (lv_at hl 0 rfl) ?_
  refine q_callVV (As := []) (rest := []) ⟨hx, hb, hml, hown, hts⟩ (c_X0_requireRoom l D cI ad (nI N) w t pa pe f0 f1 f2 f3 f4 h3a) (cwV 0 hts gX0_say_X0_requireRoom rfl rfl rfl kv_X0_requireRoom ⟨Nat.le_of_ble_eq_true rfl, Nat.le_of_ble_eq_true rfl⟩) (va_recv hK hP (ci := 0) (q0 := 0) rfl rfl) hP hK rfl hl.1 rfl (Nat.le_of_ble_eq_true rfl) dX0_say_9 (Nat.zero_le _) (Nat.zero_le _) hS (fun H locs hsm hS => ?_)
  have hP := hsm.P hP
  refine lv_aload_n hx hb dX0_say_12 rfl (lv_at hl 0 rfl) ?_
  refine lv_iload_n hx hb dX0_say_13 rfl (lv_at hl 1 rfl) ?_
  refine lv_iload_n hx hb dX0_say_14 rfl (lv_at hl 2 rfl) ?_
  refine m_callVI (As := [.int x1, .int x2]) (rest := []) (Wr := []) (W2 := (xw cI ad ((nI (N + 1))) ((nI (x_wn (wr f1 (nI N) x2) (N + 1)))) ((nI (x_tcn (wr f0 (nI N) x1) (wr f1 (nI N) x2) (wr f2 (nI N) 0) (x_wp (wr f1 (nI N) x2) f3 (N + 1)) (x_wn (wr f1 (nI N) x2) (N + 1))))) pa pe ((wr f0 (nI N) x1)) ((wr f1 (nI N) x2)) ((wr f2 (nI N) 0)) ((x_wp (wr f1 (nI N) x2) f3 (N + 1))) ((x_wh (wr f0 (nI N) x1) (wr f1 (nI N) x2) (wr f2 (nI N) 0) (x_wp (wr f1 (nI N) x2) f3 (N + 1)) f4 (x_wn (wr f1 (nI N) x2) (N + 1)))))) ⟨hx, hb, hml, hown, hts⟩ (c_X0_append l D cI ad N w t pa pe f0 f1 f2 f3 f4 x1 x2 hN) (cwV 2 hts gX0_say_X0_append rfl rfl rfl kv_X0_append ⟨Nat.le_of_ble_eq_true rfl, Nat.le_of_ble_eq_true rfl⟩) (va_recv hK hP (ci := 0) (q0 := 0) rfl rfl) hP hD hK hA [0, 1, 2, 3, 4, 5] [] [0, 1, 2, 3, 4, 5] rfl rfl rfl rfl rfl (by decide) rfl rfl rfl hl.1 rfl (Nat.le_of_ble_eq_true rfl) dX0_say_15 (Nat.zero_le _) (Nat.zero_le _) hS (fun H locs hP hS => ?_)
  have hD : va_D A (xw cI ad ((nI (N + 1))) ((nI (x_wn (wr f1 (nI N) x2) (N + 1)))) ((nI (x_tcn (wr f0 (nI N) x1) (wr f1 (nI N) x2) (wr f2 (nI N) 0) (x_wp (wr f1 (nI N) x2) f3 (N + 1)) (x_wn (wr f1 (nI N) x2) (N + 1))))) pa pe ((wr f0 (nI N) x1)) ((wr f1 (nI N) x2)) ((wr f2 (nI N) 0)) ((x_wp (wr f1 (nI N) x2) f3 (N + 1))) ((x_wh (wr f0 (nI N) x1) (wr f1 (nI N) x2) (wr f2 (nI N) 0) (x_wp (wr f1 (nI N) x2) f3 (N + 1)) f4 (x_wn (wr f1 (nI N) x2) (N + 1))))) := q_Dcong hD rfl
  exact m_retI hx hb hr hlocks hS hP rfl dX0_say_18

theorem kv_X0_cough : yX0_cough.cls = RX0 ∧ yX0_cough.cls ≠ "java/lang/invoke/MethodHandle" ∧ yX0_cough.cls ≠ "java/lang/invoke/VarHandle" ∧ (parseMethodDescriptor yX0_cough.desc).map (fun d => d.parameters.length) = some 1 := by decide +kernel
theorem ks_X0_cough : yX0_cough.cls ≠ "java/lang/invoke/MethodHandle" ∧ yX0_cough.cls ≠ "java/lang/invoke/VarHandle" ∧ (parseMethodDescriptor yX0_cough.desc).map (fun d => d.parameters.length) = some 1 := kv_X0_cough.2
set_option maxHeartbeats 4000000 in
set_option maxRecDepth 100000 in
theorem c_X0_cough (l : Launch) (D : va_G) (cI : ClassId) (ad : Nat → Nat) (N : Nat) (w : Int32) (t : Int32) (pa pe : Int32) (f0 f1 f2 f3 f4 : Nat → Int32) (x1 : Int32) (h1a : ¬ x1 < 0) (h1b : x1 < 6) (h2a : (nI N) < 24) (hN : N < 24) : m_I l yX0_cough wsX0_cough ({ frames := 6, cells := 0, slots := 0, locals := 129 } : Room) D ([(cI, .int)]) (xw cI ad (nI N) w t pa pe f0 f1 f2 f3 f4) [.ref (ad 0), .int x1] (nI N) (xw cI ad (nI (N + 1)) (nI (x_wn (wr f1 (nI N) (-1)) (N + 1))) (nI (x_tcn (wr f0 (nI N) x1) (wr f1 (nI N) (-1)) (wr f2 (nI N) 0) (x_wp (wr f1 (nI N) (-1)) f3 (N + 1)) (x_wn (wr f1 (nI N) (-1)) (N + 1)))) pa pe (wr f0 (nI N) x1) (wr f1 (nI N) (-1)) (wr f2 (nI N) 0) (x_wp (wr f1 (nI N) (-1)) f3 (N + 1)) (x_wh (wr f0 (nI N) x1) (wr f1 (nI N) (-1)) (wr f2 (nI N) 0) (x_wp (wr f1 (nI N) (-1)) f3 (N + 1)) f4 (x_wn (wr f1 (nI N) (-1)) (N + 1)))) := by
  refine m_startI (cc := cX0_cough) (maxL := 2) (rt := .int) (by decide) rfl (Nat.le_of_ble_eq_true rfl) ?_
  intro p e s m below meth c A hx hb hml hr hts hown hlocks hK hA H locs ls hP hD hS hl
  have hin : ∀ w ∈ wsX00, w ∈ wsX0_cough := by decide +kernel
  have hl : lv_has ls 2 [(0, .ref (ad 0)), (1, .int x1)] := hl
  refine lv_iload_n hx hb dX0_cough_0 rfl (lv_at hl 1 rfl) ?_
  refine q_callSV (As := [.int x1]) (rest := []) ⟨hx, hb, hml, hown, hts⟩ (c_X0_requireSpeaker l D x1 h1a h1b) (va_cwS 1 hts gX0_cough_X0_requireSpeaker rfl rfl rfl ks_X0_requireSpeaker ⟨Nat.le_of_ble_eq_true rfl, Nat.le_of_ble_eq_true rfl⟩) (hP.sub [] rfl) (hK.sub [] rfl) rfl hl.1 rfl (Nat.le_of_ble_eq_true rfl) dX0_cough_1 (Nat.zero_le _) (Nat.zero_le _) hS (fun H locs hsm hS => ?_)
  have hP := hsm.P hP
  refine lv_aload_n hx hb dX0_cough_4 rfl (lv_at hl 0 rfl) ?_
  refine q_callVV (As := []) (rest := []) ⟨hx, hb, hml, hown, hts⟩ (c_X0_requireRoom l D cI ad (nI N) w t pa pe f0 f1 f2 f3 f4 h2a) (cwV 0 hts gX0_cough_X0_requireRoom rfl rfl rfl kv_X0_requireRoom ⟨Nat.le_of_ble_eq_true rfl, Nat.le_of_ble_eq_true rfl⟩) (va_recv hK hP (ci := 0) (q0 := 0) rfl rfl) hP hK rfl hl.1 rfl (Nat.le_of_ble_eq_true rfl) dX0_cough_5 (Nat.zero_le _) (Nat.zero_le _) hS (fun H locs hsm hS => ?_)
  have hP := hsm.P hP
  refine lv_aload_n hx hb dX0_cough_8 rfl (lv_at hl 0 rfl) ?_
  refine lv_iload_n hx hb dX0_cough_9 rfl (lv_at hl 1 rfl) ?_
  refine lv_iconst (v := -1) hx hb dX0_cough_10 (by decide) ?_
  refine m_callVI (As := [.int x1, .int (-1)]) (rest := []) (Wr := []) (W2 := (xw cI ad ((nI (N + 1))) ((nI (x_wn (wr f1 (nI N) (-1)) (N + 1)))) ((nI (x_tcn (wr f0 (nI N) x1) (wr f1 (nI N) (-1)) (wr f2 (nI N) 0) (x_wp (wr f1 (nI N) (-1)) f3 (N + 1)) (x_wn (wr f1 (nI N) (-1)) (N + 1))))) pa pe ((wr f0 (nI N) x1)) ((wr f1 (nI N) (-1))) ((wr f2 (nI N) 0)) ((x_wp (wr f1 (nI N) (-1)) f3 (N + 1))) ((x_wh (wr f0 (nI N) x1) (wr f1 (nI N) (-1)) (wr f2 (nI N) 0) (x_wp (wr f1 (nI N) (-1)) f3 (N + 1)) f4 (x_wn (wr f1 (nI N) (-1)) (N + 1)))))) ⟨hx, hb, hml, hown, hts⟩ (c_X0_append l D cI ad N w t pa pe f0 f1 f2 f3 f4 x1 (-1) hN) (cwV 2 hts gX0_cough_X0_append rfl rfl rfl kv_X0_append ⟨Nat.le_of_ble_eq_true rfl, Nat.le_of_ble_eq_true rfl⟩) (va_recv hK hP (ci := 0) (q0 := 0) rfl rfl) hP hD hK hA [0, 1, 2, 3, 4, 5] [] [0, 1, 2, 3, 4, 5] rfl rfl rfl rfl rfl (by decide) rfl rfl rfl hl.1 rfl (Nat.le_of_ble_eq_true rfl) dX0_cough_11 (Nat.zero_le _) (Nat.zero_le _) hS (fun H locs hP hS => ?_)
  have hD : va_D A (xw cI ad ((nI (N + 1))) ((nI (x_wn (wr f1 (nI N) (-1)) (N + 1)))) ((nI (x_tcn (wr f0 (nI N) x1) (wr f1 (nI N) (-1)) (wr f2 (nI N) 0) (x_wp (wr f1 (nI N) (-1)) f3 (N + 1)) (x_wn (wr f1 (nI N) (-1)) (N + 1))))) pa pe ((wr f0 (nI N) x1)) ((wr f1 (nI N) (-1))) ((wr f2 (nI N) 0)) ((x_wp (wr f1 (nI N) (-1)) f3 (N + 1))) ((x_wh (wr f0 (nI N) x1) (wr f1 (nI N) (-1)) (wr f2 (nI N) 0) (x_wp (wr f1 (nI N) (-1)) f3 (N + 1)) f4 (x_wn (wr f1 (nI N) (-1)) (N + 1))))) := q_Dcong hD rfl
  exact m_retI hx hb hr hlocks hS hP rfl dX0_cough_14
