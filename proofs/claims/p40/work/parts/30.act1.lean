/-! own rows: a turn of the law, done to the conversation and to its simulation -/
theorem st_any {D : va_G} {cI cA : ClassId} {ad : Nat → Nat} {S u N q0 pa : Nat} {r : Nat → Nat} {pe : Int32} {F0 F1 F2 f3 f4 h0 h1 h2 : Nat → Int32} {H : Heap} (hR : Ra N F0 F1 F2 h0 h1 h2) (hg : ∀ k, k < N → ∃ v, v < 6 ∧ h1 k = nI v) (hpa : pa ≤ 99)
    (hT : va_P D vwCl (xw cI ad (nI N) (nI (x_wn F1 N)) (nI (x_tcn F0 F1 F2 (x_wp F1 f3 N) (x_wn F1 N))) (nI pa) pe F0 F1 F2 (x_wp F1 f3 N) (x_wh F0 F1 F2 (x_wp F1 f3 N) f4 (x_wn F1 N))) H)
    (hs : sG D cI cA S u N r h0 h1 h2 (nI pa) pe H) (hX : sX N S u r q0) : zST D cI cA ad S q0 H :=
  ⟨N, _, _, pa, pe, _, _, _, _, _, h0, h1, h2, u, r, hR, hR.recount rfl, hg, hpa, hT, hs, hX⟩
theorem up_e (g : Nat → Int32) (z : Int32) {N : Nat} : ∀ k, k < N + 1 → upd g N z k = if k < N then g k else if k = N then z else g (k - 1) := fun k hk => by
  by_cases c : k = N
  · rw [c, upd_e, if_neg (Nat.lt_irrefl N), if_pos rfl]
  · rw [upd_n c, if_pos (by omega)]
theorem up_g {g : Nat → Int32} {z : Int32} {N : Nat} (h : ∀ k, k < N → ∃ v, v < 6 ∧ g k = nI v) (hz : ∃ v, v < 6 ∧ z = nI v) : ∀ k, k < N + 1 → ∃ v, v < 6 ∧ upd g N z k = nI v := fun k hk => by
  by_cases c : k = N
  · rw [c, upd_e]; exact hz
  · rw [upd_n c]; exact h k (by omega)
theorem sp_e (g : Nat → Int32) (z : Int32) {N P : Nat} (hP : P ≤ N) : ∀ k, k < N + 1 → upd (va_cpy g g P (P + 1) (N - P)) P z k = if k < P then g k else if k = P then z else g (k - 1) := fun k hk => by
  by_cases c : k = P
  · rw [c, upd_e, if_neg (Nat.lt_irrefl P), if_pos rfl]
  · rw [upd_n c, cpy_v]
    by_cases c2 : k < P
    · rw [if_pos c2, if_neg (by omega)]
    · rw [if_neg c2, if_neg c, if_pos (by omega), show P + (k - (P + 1)) = k - 1 by omega]
theorem rm_e (g : Nat → Int32) {N P : Nat} (hP : P < N) : ∀ k, k < N - 1 → va_cpy g g (P + 1) P (N - (P + 1)) k = if P ≤ k then g (k + 1) else g k := fun k hk => by
  rw [cpy_v]
  by_cases c : P ≤ k
  · rw [if_pos (by omega), if_pos c, show P + 1 + (k - P) = k + 1 by omega]
  · rw [if_neg (fun x => c x.1), if_neg c]
theorem sG_set {D : va_G} {cI cA : ClassId} {S O N q0 : Nat} {r : Nat → Nat} {g0 g1 g2 : Nat → Int32} {pa pe pa' pe' : Int32} {H H1 : Heap} (h : sG D cI cA S O N r g0 g1 g2 pa pe H) (hX : sX N S O r q0) (hC : va_at D vwCl (S, .inr (1, [.int pa', .int pe', .ref O])) H1) (o : ∀ q : Nat, q ≠ S → H1[q]? = H[q]?) : sG D cI cA S O N r g0 g1 g2 pa' pe' H1 :=
  ⟨hC, (o O (fun e => hX.2.2.1 e.symm)).trans h.2.1, fun i hi => by
    obtain ⟨f, h1, h2⟩ := h.2.2 i hi
    exact ⟨f, (o _ (hX.2.2.2.1 i hi).2.1).trans h1, h2⟩⟩
theorem sG_tie {D : va_G} {cI cA : ClassId} {S O N q0 P : Nat} {r : Nat → Nat} {g0 g1 g2 : Nat → Int32} {pa pe : Int32} {H H1 : Heap} {f : Nat → Int32} (h : sG D cI cA S O N r g0 g1 g2 pa pe H) (hX : sX N S O r q0) (hP : P < N) (hf : aI cI 3 (upd f 2 1) (r P) H1) (ef : ∀ j, j < 3 → f j = s_row g0 g1 g2 P j) (o : ∀ q : Nat, q ≠ r P → H1[q]? = H[q]?) : sG D cI cA S O N r g0 g1 (upd g2 P 1) pa pe H1 := by
  refine ⟨h.1.kept (o S (fun e => (hX.2.2.2.1 P hP).2.1 e.symm)), (o O (fun e => (hX.2.2.2.1 P hP).2.2 e.symm)).trans h.2.1, fun i hi => ?_⟩
  by_cases c : i = P
  · subst c
    refine ⟨_, hf, fun j hj => ?_⟩
    rcases (show j = 0 ∨ j = 1 ∨ j = 2 by omega) with rfl | rfl | rfl
    · exact ef 0 (by decide)
    · exact ef 1 (by decide)
    · show upd f 2 1 2 = upd g2 i 1 i
      rw [upd_e, upd_e]
  · obtain ⟨f9, h1, h2⟩ := h.2.2 i hi
    refine ⟨f9, (o _ (fun e => c (hX.2.2.2.2 i P hi hP e))).trans h1, fun j hj => ?_⟩
    rw [h2 j hj]
    rcases (show j = 0 ∨ j = 1 ∨ j = 2 by omega) with rfl | rfl | rfl
    · rfl
    · rfl
    · show g2 i = upd g2 P 1 i
      rw [upd_n c]
theorem mn_99 {K : Nat} (h : K < 1000) : (if nI K < 99 then nI K else (99 : Int32)) = nI (min 99 K) := by
  show (if nI K < nI 99 then nI K else nI 99) = nI (min 99 K)
  by_cases c : K < 99
  · rw [if_pos (nI_lt (b := 99) c (by decide)), Nat.min_eq_right (by omega)]
  · rw [if_neg (nI_nlt (a := K) (b := 99) (by omega) (by omega)), Nat.min_eq_left (by omega)]
theorem g_1 {x : Int32} {k : Nat} (h : x = nI k) (hk : 0 < k) (hk2 : k ≤ 60) : ¬ x < 1 ∧ x ≤ 60 := by
  subst h
  exact ⟨nI_nlt (b := 1) hk (by omega), nI_le (b := 60) hk2 (by decide)⟩
theorem m_tn1 {g0 g1 g2 : Nat → Int32} {N : Nat} (h : 0 < m_n g0 N) : nI (m_tn g0 g1 g2 N) = nI (m_ab g0 g1 g2 N) + 1 := by
  unfold m_tn
  rw [if_neg (by omega), nI_1]
def aC (p : Program) (s : State) (m : MethodId) (meth : Method) (c : Code) (args : Array Value) (D : va_G) (cI cA : ClassId) (ad : Nat → Nat) (q0 : Nat) : Prop :=
  p.tables.exec = Jvm.exec ∧ c.code = cL_act ∧ c.maxLocals = 12 ∧ meth.sig.returnType = some .boolean ∧ (∀ w ∈ wsL_act, w.before args s = true) ∧ s.vm.findClass RL = some m.cls ∧ meth.locks = false ∧ va_K D vwCl (zt cI cA) s ∧ n_O s ∧ tX ad q0 ∧ q0 ≤ s.heap.size
def aS (D : va_G) (cI cA : ClassId) (ad : Nat → Nat) (S q0 N : Nat) (w t : Int32) (pa : Nat) (pe : Int32) (f0 f1 f2 f3 f4 g0 g1 g2 : Nat → Int32) (O : Nat) (r : Nat → Nat) (H : Heap) : Prop :=
  Ra N f0 f1 f2 g0 g1 g2 ∧ Rw N f3 f4 g0 g1 g2 w t ∧ (∀ k, k < N → ∃ v, v < 6 ∧ g1 k = nI v) ∧ pa ≤ 99 ∧ va_P D vwCl (xw cI ad (nI N) w t (nI pa) pe f0 f1 f2 f3 f4) H ∧ sG D cI cA S O N r g0 g1 g2 (nI pa) pe H ∧ sX N S O r q0
theorem aS.st {D : va_G} {cI cA : ClassId} {ad : Nat → Nat} {S q0 N : Nat} {w t : Int32} {pa : Nat} {pe : Int32} {f0 f1 f2 f3 f4 g0 g1 g2 : Nat → Int32} {O : Nat} {r : Nat → Nat} {H : Heap} (h : aS D cI cA ad S q0 N w t pa pe f0 f1 f2 f3 f4 g0 g1 g2 O r H) : zST D cI cA ad S q0 H :=
  ⟨N, w, t, pa, pe, f0, f1, f2, f3, f4, g0, g1, g2, O, r, h⟩
abbrev aRm : Room := ({ frames := 7, cells := 60, slots := 400, locals := 160 } : Room)
def aQ (D : va_G) (cI cA : ClassId) (ad : Nat → Nat) (S q0 : Nat) (below : List Frame) (args : Array Value) (s : State) : State → Prop := e_EI below args s 1 (aF ad q0) 60 400 (fun _ (_ : Unit) h => zST D cI cA ad S q0 h)

set_option maxHeartbeats 4000000 in
set_option maxRecDepth 100000 in
theorem act_cough {p : Program} {l : Launch} {e : Env} {s : State} {m : MethodId} {args : Array Value} {below : List Frame} {meth : Method} {c : Code} {H : Heap} {locs : List Loc} {ls : Array Slot} {D : va_G} {cI cA : ClassId} {ad : Nat → Nat} {S q0 N : Nat} {w t : Int32} {pa : Nat} {pe : Int32} {f0 f1 f2 f3 f4 g0 g1 g2 : Nat → Int32} {O : Nat} {r : Nat → Nat} {x : Int32} {rw : Nat → Nat} {O2 : Nat} {so : Int32} {g : Nat} (hC : aC p s m meth c args D cI cA ad q0) (hA : aS D cI cA ad S q0 N w t pa pe f0 f1 f2 f3 f4 g0 g1 g2 O r H) (HG : gG cI cA (m_n g0 N) 5 rw (w_row g0 g1 g2 N N) O2 H)  (hS : va_S (e_F (aF ad q0) s.heap.size) s.heap H locs) (hl : lv_has ls 12 [(7, .int (nI g)), (6, .int so), (5, .int (nI (m_n g0 N) - 1)), (4, .ref O2), (3, .int (nI N)), (0, .ref (ad 0)), (1, .ref S), (2, .int x)]) : W p l e aRm s m args below meth c H locs 25 144 (aQ D cI cA ad S q0 below args s) (F0 m 120 ls []) := by
  obtain ⟨hx, hb, hml, hr, hts, hown, hlocks, hK, hO, htX, hq0⟩ := hC
  obtain ⟨hR, hW, hg1, hpa, HT, HP, hX⟩ := id hA
  have hin : ∀ w ∈ wsX10, w ∈ wsL_act := by decide +kernel
  have hA9 : ∀ q : Nat, s.heap.size ≤ q → e_F (aF ad q0) s.heap.size q := fun q h => Or.inr h
  have hN24 := hR.n
  have hm9 := m_n_le g0 N
  have hww := hW.ww
  have hqH : q0 ≤ H.size := Nat.le_trans hq0 hS.1
  refine lv_iload_n hx hb dL_act_120 rfl (lv_at hl 4 rfl) ?_
  refine lv_bipush (v := 24) hx hb dL_act_121 (by decide) ?_
  refine lv_icmp_ne (tgt := 128) hx hb dL_act_123 (by decide) (fun c_123 => ?_) (fun c_123 => ?_)
  · have hN : N < 24 := by
      rcases Nat.lt_or_ge N 24 with q | q
      · exact q
      · exact absurd (show nI N = 24 from congrArg nI (show N = 24 by omega)) c_123
    refine lv_aload_n hx hb dL_act_128 rfl (lv_at hl 6 rfl) ?_
    refine lv_iload_n hx hb dL_act_129 rfl (lv_at hl 4 rfl) ?_
    refine lv_iconst (v := 3) hx hb dL_act_130 (by decide) ?_
    have hsz9 := hS.1
    refine z_newi hx hb (hts (.arrayClass .int) (by decide +kernel)) hK 0 rfl hS (n := 3) rfl (by first | decide | omega) (by show 25 + 1 ≤ 60; omega) (by show 144 + 3 ≤ 400; omega) dL_act_131 (fun y H hyE hy hqr hS => ?_)
    have HT0 := HT
    have HP0 := HP
    have hyA : e_F (aF ad q0) s.heap.size y := Or.inr (by rw [hyE]; exact hsz9)
    have HT := hqr.P HT0
    have HP := HP0.kept hqr
    have hX2 : ∀ {u : Nat}, y < u → sX (N + 1) S u (r_ins r N y) q0 := fun h => sX_ins hX HP0.1.lt HP0.rlt (Nat.le_trans hq0 hsz9) (by rw [hyE] at h; exact Nat.le_of_lt h) (Nat.le_of_eq hyE.symm) (Nat.ne_of_gt h) (Nat.le_refl N)
    refine lv_dup hx hb dL_act_133 rfl ?_
    refine lv_iconst (v := 0) hx hb dL_act_134 (by decide) ?_
    refine lv_iload_n hx hb dL_act_135 rfl (lv_at hl 7 rfl) ?_
    refine lv_iconst (v := 1) hx hb dL_act_136 (by decide) ?_
    refine lv_ishr hx hb dL_act_137 ?_
    refine lv_bipush (v := 6) hx hb dL_act_138 (by decide) ?_
    refine p_callS (As := [.int (x >>> (1 &&& 31)), .int 6]) (rest := [.int 0, .ref y, .ref y, .int (nI N), .ref S]) ⟨hx, hb, hml, hown, hts⟩ (c_L_below l D (x >>> (1 &&& 31)) 6 (by decide) (by decide)) (va_cwS 2 hts gL_act_L_below rfl rfl rfl ks_L_below ⟨Nat.le_of_ble_eq_true rfl, Nat.le_of_ble_eq_true rfl⟩) pH.mv (p_at (Z := zTr) trivial) (hK.sub [] rfl) rfl hl.1 rfl (Nat.le_of_ble_eq_true rfl) dL_act_140 (by show 25 + 1 ≤ 60; omega) (by show 144 + 3 ≤ 400; omega) hS (fun H locs hsm hS => ?_)
    have hqr := hqr.tr hsm
    have HT := hqr.P HT0
    have HP := HP0.kept hqr
    have hy := z_kp hy hsm
    refine z_iast hx hb hK 0 rfl hy hS hyA 0 rfl (by decide) (by decide) dL_act_143 (fun H locs hy z9 o9 hS => ?_)
    have hqr := hqr.st (Nat.le_of_eq hyE.symm) z9 o9
    have HT := hqr.P HT0
    have HP := HP0.kept hqr
    refine lv_dup hx hb dL_act_144 rfl ?_
    refine lv_iconst (v := 1) hx hb dL_act_145 (by decide) ?_
    refine lv_iconst (v := -1) hx hb dL_act_146 (by decide) ?_
    refine z_iast hx hb hK 0 rfl hy hS hyA 1 rfl (by decide) (by decide) dL_act_147 (fun H locs hy z9 o9 hS => ?_)
    have hqr := hqr.st (Nat.le_of_eq hyE.symm) z9 o9
    have HT := hqr.P HT0
    have HP := HP0.kept hqr
    refine lv_dup hx hb dL_act_148 rfl ?_
    refine lv_iconst (v := 2) hx hb dL_act_149 (by decide) ?_
    refine lv_iconst (v := 0) hx hb dL_act_150 (by decide) ?_
    refine z_iast hx hb hK 0 rfl hy hS hyA 2 rfl (by decide) (by decide) dL_act_151 (fun H locs hy z9 o9 hS => ?_)
    have hqr := hqr.st (Nat.le_of_eq hyE.symm) z9 o9
    have HT := hqr.P HT0
    have HP := HP0.kept hqr
    refine e_callVV (As := [.int (nI N), .ref y]) (rest := []) ⟨hx, hb, hml, hown, hts⟩ (c_X1_insert l D cI cA S O N r g0 g1 g2 (nI pa) pe hN N y (Nat.le_refl N) (upd (upd (upd (fun _ => 0) 0 (nI (z_lo (x >>> (1 &&& 31)) % 6))) 1 (-1)) 2 0)) (cwV 2 hts gL_act_X1_insert rfl rfl rfl kv_X1_insert ⟨Nat.le_of_ble_eq_true rfl, Nat.le_of_ble_eq_true rfl⟩) pH.mv (va_recv hK (z_one HP.cell) (ci := 1) (q0 := 0) rfl rfl) (p_at (Z := fun h => sG D cI cA S O N r g0 g1 g2 (nI pa) pe h ∧ aI cI 3 (upd (upd (upd (fun _ => 0) 0 (nI (z_lo (x >>> (1 &&& 31)) % 6))) 1 (-1)) 2 0) y h) ⟨HP, hy⟩) hK hO (fun q h => Or.inl (Or.inr (by rw [h]; exact hX.1))) hA9 rfl hl.1 rfl (Nat.le_of_ble_eq_true rfl) dL_act_152 (by show 25 + 1 + 1 ≤ 60; omega) (by show 144 + 3 + 24 ≤ 400; omega) hS (fun u H locs hu hz hk hS => ?_)
    obtain ⟨hu1, hu2, hu3⟩ := hu
    have hyl := z_lt hy
    have HT := xw_kp HT (fun k hk9 => hk _ (xw_lt HT k hk9) (fun e => by have := htX.1 k hk9; have := hX.1; omega))
    have hy9 : aI cI 3 (upd (upd (upd (fun _ => 0) 0 (nI (z_lo (x >>> (1 &&& 31)) % 6))) 1 (-1)) 2 0) y H := (hk y hyl (fun e => by have := HP0.1.lt; omega)).trans hy
    have HP2 : sG D cI cA S u (N + 1) (r_ins r N y) (upd g0 N (-1)) (upd g1 N (nI (z_lo (x >>> (1 &&& 31)) % 6))) (upd g2 N 0) (nI pa) pe H := sG_ins hu1 hu2 (HP.hold (fun i hi => hk _ (HP.rlt i hi) (fun e => (hX.2.2.2.1 i hi).2.1 e))) ⟨_, hy9, rfl, rfl, rfl⟩ (Nat.le_refl N) (up_e g0 _) (up_e g1 _) (up_e g2 0)
    have hX9 := hX2 (show y < u by omega)
    refine lv_aload_n hx hb dL_act_155 rfl (lv_at hl 5 rfl) ?_
    refine lv_iload_n hx hb dL_act_156 rfl (lv_at hl 7 rfl) ?_
    refine lv_iconst (v := 1) hx hb dL_act_157 (by decide) ?_
    refine lv_ishr hx hb dL_act_158 ?_
    refine lv_bipush (v := 6) hx hb dL_act_159 (by decide) ?_
    refine p_callS (As := [.int (x >>> (1 &&& 31)), .int 6]) (rest := [.ref (ad 0)]) ⟨hx, hb, hml, hown, hts⟩ (c_L_below l D (x >>> (1 &&& 31)) 6 (by decide) (by decide)) (va_cwS 2 hts gL_act_L_below rfl rfl rfl ks_L_below ⟨Nat.le_of_ble_eq_true rfl, Nat.le_of_ble_eq_true rfl⟩) pH.mv (p_at (Z := zTr) trivial) (hK.sub [] rfl) rfl hl.1 rfl (Nat.le_of_ble_eq_true rfl) dL_act_161 (by show 25 + 1 + 1 ≤ 60; omega) (by show 144 + 3 + 24 ≤ 400; omega) hS (fun H locs hsm hS => ?_)
    have HT := hsm.P HT
    have HP2 := HP2.kept hsm
    refine z_callT (As := [.int (nI (z_lo (x >>> (1 &&& 31)) % 6))]) (rest := []) ⟨hx, hb, hml, hown, hts⟩ (c_X0_cough l D cI ad N w t (nI pa) pe f0 f1 f2 f3 f4 (nI (z_lo (x >>> (1 &&& 31)) % 6)) (nI_pos (by omega)) (nI_lt (b := 6) (by omega) (by decide)) (nI_lt (b := 24) hN (by decide)) hN) (cwV 1 hts gL_act_X0_cough rfl rfl rfl kv_X0_cough ⟨Nat.le_of_ble_eq_true rfl, Nat.le_of_ble_eq_true rfl⟩) (va_recv hK HT (ci := 0) (q0 := 0) rfl rfl) HT htX.D (hK.sub [0] rfl) (fun q h => (xw_A h).elim (fun h => Or.inl (Or.inl h)) (fun h => Or.inr (Nat.le_trans hS.1 h))) rfl hl.1 rfl (Nat.le_of_ble_eq_true rfl) dL_act_164 (by show 25 + 1 + 1 ≤ 60; omega) (by show 144 + 3 + 24 ≤ 400; omega) hS (fun H locs HT2 hz hk hS => ?_)
    have HP2 := HP2.byT hX9 (t_k htX hk)
    refine lv_iload_n hx hb dL_act_167 rfl (lv_at hl 4 rfl) ?_
    refine lv_icmp_ne (tgt := 175) hx hb dL_act_168 (by decide) (fun c_168 => absurd rfl c_168) (fun c_168 => ?_)
    refine lv_iconst (v := 1) hx hb dL_act_171 (by decide) ?_
    refine lv_goto (tgt := 176) hx hb dL_act_172 (by decide) ?_
    exact e_retZ () hx hb hr hlocks hS (st_any (hR.put hN (Or.inl rfl) (a := nI (z_lo (x >>> (1 &&& 31)) % 6))) (up_g hg1 ⟨_, by omega, rfl⟩) hpa HT2 HP2 hX9) rfl (Or.inr rfl) (by show 25 + 1 + 1 ≤ 60; omega) (by show 144 + 3 + 24 ≤ 400; omega) dL_act_176
  · refine lv_iconst (v := 1) hx hb dL_act_126 (by decide) ?_
    exact e_retZ () hx hb hr hlocks hS hA.st rfl (Or.inr rfl) (by show 25 ≤ 60; omega) (by show 144 ≤ 400; omega) dL_act_127

set_option maxHeartbeats 4000000 in
set_option maxRecDepth 100000 in
theorem act_say {p : Program} {l : Launch} {e : Env} {s : State} {m : MethodId} {args : Array Value} {below : List Frame} {meth : Method} {c : Code} {H : Heap} {locs : List Loc} {ls : Array Slot} {D : va_G} {cI cA : ClassId} {ad : Nat → Nat} {S q0 N : Nat} {w t : Int32} {pa : Nat} {pe : Int32} {f0 f1 f2 f3 f4 g0 g1 g2 : Nat → Int32} {O : Nat} {r : Nat → Nat} {x : Int32} {rw : Nat → Nat} {O2 : Nat} {so : Int32} {g : Nat} (hC : aC p s m meth c args D cI cA ad q0) (hA : aS D cI cA ad S q0 N w t pa pe f0 f1 f2 f3 f4 g0 g1 g2 O r H) (HG : gG cI cA (m_n g0 N) 5 rw (w_row g0 g1 g2 N N) O2 H)  (hS : va_S (e_F (aF ad q0) s.heap.size) s.heap H locs) (hl : lv_has ls 12 [(7, .int (nI g)), (6, .int so), (5, .int (nI (m_n g0 N) - 1)), (4, .ref O2), (3, .int (nI N)), (0, .ref (ad 0)), (1, .ref S), (2, .int x)]) : W p l e aRm s m args below meth c H locs 25 144 (aQ D cI cA ad S q0 below args s) (F0 m 470 ls []) := by
  obtain ⟨hx, hb, hml, hr, hts, hown, hlocks, hK, hO, htX, hq0⟩ := hC
  obtain ⟨hR, hW, hg1, hpa, HT, HP, hX⟩ := id hA
  have hin : ∀ w ∈ wsX10, w ∈ wsL_act := by decide +kernel
  have hA9 : ∀ q : Nat, s.heap.size ≤ q → e_F (aF ad q0) s.heap.size q := fun q h => Or.inr h
  have hN24 := hR.n
  have hm9 := m_n_le g0 N
  have hww := hW.ww
  have hqH : q0 ≤ H.size := Nat.le_trans hq0 hS.1
  have hspb : 0 < (if z_lo x % 2 = 0 then 6 else 2) ∧ (if z_lo x % 2 = 0 then 6 else 2) ≤ 6 := by split <;> omega
  refine lv_iload_n hx hb dL_act_470 rfl (lv_at hl 4 rfl) ?_
  refine lv_bipush (v := 24) hx hb dL_act_471 (by decide) ?_
  refine lv_icmp_ne (tgt := 478) hx hb dL_act_473 (by decide) (fun c_473 => ?_) (fun c_473 => ?_)
  · have hN : N < 24 := by
      rcases Nat.lt_or_ge N 24 with q | q
      · exact q
      · exact absurd (show nI N = 24 from congrArg nI (show N = 24 by omega)) c_473
    refine lv_iload_n hx hb dL_act_478 rfl (lv_at hl 7 rfl) ?_
    refine lv_iconst (v := 1) hx hb dL_act_479 (by decide) ?_
    refine lv_ishr hx hb dL_act_480 ?_
    refine lv_iload_n hx hb dL_act_481 rfl (lv_at hl 7 rfl) ?_
    refine lv_iconst (v := 2) hx hb dL_act_482 (by decide) ?_
    refine p_callS (As := [.int x, .int 2]) (rest := [.int (x >>> (1 &&& 31))]) ⟨hx, hb, hml, hown, hts⟩ (c_L_below l D x 2 (by decide) (by decide)) (va_cwS 2 hts gL_act_L_below rfl rfl rfl ks_L_below ⟨Nat.le_of_ble_eq_true rfl, Nat.le_of_ble_eq_true rfl⟩) pH.mv (p_at (Z := zTr) trivial) (hK.sub [] rfl) rfl hl.1 rfl (Nat.le_of_ble_eq_true rfl) dL_act_483 (by show 25 ≤ 60; omega) (by show 144 ≤ 400; omega) hS (fun H locs hsm hS => ?_)
    have HT := hsm.P HT
    have HP := HP.kept hsm
    suffices K_486 : ∀ v9 : Int32, v9 = nI (if z_lo x % 2 = 0 then 6 else 2) → W p l e aRm s m args below meth c H locs 25 144 (aQ D cI cA ad S q0 below args s) (F0 m 495 ls [.int v9, .int (x >>> (1 &&& 31))]) from by
      refine lv_if_ne (tgt := 494) hx hb dL_act_486 (by decide) (fun c_486 => ?_) (fun c_486 => ?_)
      · refine lv_iconst (v := 2) hx hb dL_act_494 (by decide) ?_
        exact K_486 _ (by rw [if_neg (fun e => c_486 (by rw [e]; rfl))]; rfl)
      · refine lv_bipush (v := 6) hx hb dL_act_489 (by decide) ?_
        refine lv_goto (tgt := 495) hx hb dL_act_491 (by decide) ?_
        exact K_486 _ (by rw [if_pos (nI_z (by omega) c_486)]; rfl)
    intro v9 hv9
    rw [hv9]; clear hv9
    refine p_callS (As := [.int (x >>> (1 &&& 31)), .int (nI (if z_lo x % 2 = 0 then 6 else 2))]) (rest := []) ⟨hx, hb, hml, hown, hts⟩ (c_L_below l D (x >>> (1 &&& 31)) (if z_lo x % 2 = 0 then 6 else 2) (hspb.1) (by omega)) (va_cwS 2 hts gL_act_L_below rfl rfl rfl ks_L_below ⟨Nat.le_of_ble_eq_true rfl, Nat.le_of_ble_eq_true rfl⟩) pH.mv (p_at (Z := zTr) trivial) (hK.sub [] rfl) rfl hl.1 rfl (Nat.le_of_ble_eq_true rfl) dL_act_495 (by show 25 ≤ 60; omega) (by show 144 ≤ 400; omega) hS (fun H locs hsm hS => ?_)
    have HT := hsm.P HT
    have HP := HP.kept hsm
    have hSP6 : z_lo (x >>> (1 &&& 31)) % (if z_lo x % 2 = 0 then 6 else 2) < 6 := Nat.lt_of_lt_of_le (Nat.mod_lt _ hspb.1) hspb.2
    refine lv_istore (lv' := [(10, .int (nI (z_lo (x >>> (1 &&& 31)) % (if z_lo x % 2 = 0 then 6 else 2)))), (7, .int (nI g)), (6, .int so), (5, .int (nI (m_n g0 N) - 1)), (4, .ref O2), (3, .int (nI N)), (0, .ref (ad 0)), (1, .ref S), (2, .int x)]) hx hb dL_act_498 hl (by decide) rfl (fun ls hl => ?_)
    refine lv_iload_n hx hb dL_act_500 rfl (lv_at hl 8 rfl) ?_
    refine lv_iconst (v := 4) hx hb dL_act_501 (by decide) ?_
    refine lv_ishr hx hb dL_act_502 ?_
    refine lv_bipush (v := 10) hx hb dL_act_503 (by decide) ?_
    refine p_callS (As := [.int (x >>> (4 &&& 31)), .int 10]) (rest := []) ⟨hx, hb, hml, hown, hts⟩ (c_L_below l D (x >>> (4 &&& 31)) 10 (by decide) (by decide)) (va_cwS 2 hts gL_act_L_below rfl rfl rfl ks_L_below ⟨Nat.le_of_ble_eq_true rfl, Nat.le_of_ble_eq_true rfl⟩) pH.mv (p_at (Z := zTr) trivial) (hK.sub [] rfl) rfl hl.1 rfl (Nat.le_of_ble_eq_true rfl) dL_act_505 (by show 25 ≤ 60; omega) (by show 144 ≤ 400; omega) hS (fun H locs hsm hS => ?_)
    have HT := hsm.P HT
    have HP := HP.kept hsm
    refine lv_istore (lv' := [(11, .int (nI (z_lo (x >>> (4 &&& 31)) % 10))), (10, .int (nI (z_lo (x >>> (1 &&& 31)) % (if z_lo x % 2 = 0 then 6 else 2)))), (7, .int (nI g)), (6, .int so), (5, .int (nI (m_n g0 N) - 1)), (4, .ref O2), (3, .int (nI N)), (0, .ref (ad 0)), (1, .ref S), (2, .int x)]) hx hb dL_act_508 hl (by decide) rfl (fun ls hl => ?_)
    refine lv_aload_n hx hb dL_act_510 rfl (lv_at hl 8 rfl) ?_
    refine lv_iload_n hx hb dL_act_511 rfl (lv_at hl 6 rfl) ?_
    refine lv_iconst (v := 3) hx hb dL_act_512 (by decide) ?_
    have hsz9 := hS.1
    refine z_newi hx hb (hts (.arrayClass .int) (by decide +kernel)) hK 0 rfl hS (n := 3) rfl (by first | decide | omega) (by show 25 + 1 ≤ 60; omega) (by show 144 + 3 ≤ 400; omega) dL_act_513 (fun y H hyE hy hqr hS => ?_)
    have HT0 := HT
    have HP0 := HP
    have hyA : e_F (aF ad q0) s.heap.size y := Or.inr (by rw [hyE]; exact hsz9)
    have HT := hqr.P HT0
    have HP := HP0.kept hqr
    have hX2 : ∀ {u : Nat}, y < u → sX (N + 1) S u (r_ins r N y) q0 := fun h => sX_ins hX HP0.1.lt HP0.rlt (Nat.le_trans hq0 hsz9) (by rw [hyE] at h; exact Nat.le_of_lt h) (Nat.le_of_eq hyE.symm) (Nat.ne_of_gt h) (Nat.le_refl N)
    refine lv_dup hx hb dL_act_515 rfl ?_
    refine lv_iconst (v := 0) hx hb dL_act_516 (by decide) ?_
    refine lv_iload hx hb dL_act_517 (lv_at hl 1 rfl) ?_
    refine z_iast hx hb hK 0 rfl hy hS hyA 0 rfl (by decide) (by decide) dL_act_519 (fun H locs hy z9 o9 hS => ?_)
    have hqr := hqr.st (Nat.le_of_eq hyE.symm) z9 o9
    have HT := hqr.P HT0
    have HP := HP0.kept hqr
    refine lv_dup hx hb dL_act_520 rfl ?_
    refine lv_iconst (v := 1) hx hb dL_act_521 (by decide) ?_
    refine lv_iload hx hb dL_act_522 (lv_at hl 0 rfl) ?_
    refine z_iast hx hb hK 0 rfl hy hS hyA 1 rfl (by decide) (by decide) dL_act_524 (fun H locs hy z9 o9 hS => ?_)
    have hqr := hqr.st (Nat.le_of_eq hyE.symm) z9 o9
    have HT := hqr.P HT0
    have HP := HP0.kept hqr
    refine lv_dup hx hb dL_act_525 rfl ?_
    refine lv_iconst (v := 2) hx hb dL_act_526 (by decide) ?_
    refine lv_iconst (v := 0) hx hb dL_act_527 (by decide) ?_
    refine z_iast hx hb hK 0 rfl hy hS hyA 2 rfl (by decide) (by decide) dL_act_528 (fun H locs hy z9 o9 hS => ?_)
    have hqr := hqr.st (Nat.le_of_eq hyE.symm) z9 o9
    have HT := hqr.P HT0
    have HP := HP0.kept hqr
    refine e_callVV (As := [.int (nI N), .ref y]) (rest := []) ⟨hx, hb, hml, hown, hts⟩ (c_X1_insert l D cI cA S O N r g0 g1 g2 (nI pa) pe hN N y (Nat.le_refl N) (upd (upd (upd (fun _ => 0) 0 (nI (z_lo (x >>> (1 &&& 31)) % (if z_lo x % 2 = 0 then 6 else 2)))) 1 (nI (z_lo (x >>> (4 &&& 31)) % 10))) 2 0)) (cwV 2 hts gL_act_X1_insert rfl rfl rfl kv_X1_insert ⟨Nat.le_of_ble_eq_true rfl, Nat.le_of_ble_eq_true rfl⟩) pH.mv (va_recv hK (z_one HP.cell) (ci := 1) (q0 := 0) rfl rfl) (p_at (Z := fun h => sG D cI cA S O N r g0 g1 g2 (nI pa) pe h ∧ aI cI 3 (upd (upd (upd (fun _ => 0) 0 (nI (z_lo (x >>> (1 &&& 31)) % (if z_lo x % 2 = 0 then 6 else 2)))) 1 (nI (z_lo (x >>> (4 &&& 31)) % 10))) 2 0) y h) ⟨HP, hy⟩) hK hO (fun q h => Or.inl (Or.inr (by rw [h]; exact hX.1))) hA9 rfl hl.1 rfl (Nat.le_of_ble_eq_true rfl) dL_act_529 (by show 25 + 1 + 1 ≤ 60; omega) (by show 144 + 3 + 24 ≤ 400; omega) hS (fun u H locs hu hz hk hS => ?_)
    obtain ⟨hu1, hu2, hu3⟩ := hu
    have hyl := z_lt hy
    have HT := xw_kp HT (fun k hk9 => hk _ (xw_lt HT k hk9) (fun e => by have := htX.1 k hk9; have := hX.1; omega))
    have hy9 : aI cI 3 (upd (upd (upd (fun _ => 0) 0 (nI (z_lo (x >>> (1 &&& 31)) % (if z_lo x % 2 = 0 then 6 else 2)))) 1 (nI (z_lo (x >>> (4 &&& 31)) % 10))) 2 0) y H := (hk y hyl (fun e => by have := HP0.1.lt; omega)).trans hy
    have HP2 : sG D cI cA S u (N + 1) (r_ins r N y) (upd g0 N (nI (z_lo (x >>> (4 &&& 31)) % 10))) (upd g1 N (nI (z_lo (x >>> (1 &&& 31)) % (if z_lo x % 2 = 0 then 6 else 2)))) (upd g2 N 0) (nI pa) pe H := sG_ins hu1 hu2 (HP.hold (fun i hi => hk _ (HP.rlt i hi) (fun e => (hX.2.2.2.1 i hi).2.1 e))) ⟨_, hy9, rfl, rfl, rfl⟩ (Nat.le_refl N) (up_e g0 _) (up_e g1 _) (up_e g2 0)
    have hX9 := hX2 (show y < u by omega)
    refine lv_aload_n hx hb dL_act_532 rfl (lv_at hl 7 rfl) ?_
    refine lv_iload hx hb dL_act_533 (lv_at hl 1 rfl) ?_
    refine lv_iload hx hb dL_act_535 (lv_at hl 0 rfl) ?_
    refine z_callT (As := [.int (nI (z_lo (x >>> (1 &&& 31)) % (if z_lo x % 2 = 0 then 6 else 2))), .int (nI (z_lo (x >>> (4 &&& 31)) % 10))]) (rest := []) ⟨hx, hb, hml, hown, hts⟩ (c_X0_say l D cI ad N w t (nI pa) pe f0 f1 f2 f3 f4 (nI (z_lo (x >>> (1 &&& 31)) % (if z_lo x % 2 = 0 then 6 else 2))) (nI (z_lo (x >>> (4 &&& 31)) % 10)) (nI_pos (by omega)) (nI_lt (b := 6) hSP6 (by decide)) (nI_pos (by omega)) (nI_lt (b := 10) (Nat.mod_lt _ (by decide)) (by decide)) (nI_lt (b := 24) hN (by decide)) hN) (cwV 2 hts gL_act_X0_say rfl rfl rfl kv_X0_say ⟨Nat.le_of_ble_eq_true rfl, Nat.le_of_ble_eq_true rfl⟩) (va_recv hK HT (ci := 0) (q0 := 0) rfl rfl) HT htX.D (hK.sub [0] rfl) (fun q h => (xw_A h).elim (fun h => Or.inl (Or.inl h)) (fun h => Or.inr (Nat.le_trans hS.1 h))) rfl hl.1 rfl (Nat.le_of_ble_eq_true rfl) dL_act_537 (by show 25 + 1 + 1 ≤ 60; omega) (by show 144 + 3 + 24 ≤ 400; omega) hS (fun H locs HT2 hz hk hS => ?_)
    have HP2 := HP2.byT hX9 (t_k htX hk)
    refine lv_iload_n hx hb dL_act_540 rfl (lv_at hl 6 rfl) ?_
    refine lv_icmp_ne (tgt := 548) hx hb dL_act_541 (by decide) (fun c_541 => absurd rfl c_541) (fun c_541 => ?_)
    refine lv_iconst (v := 1) hx hb dL_act_544 (by decide) ?_
    refine lv_goto (tgt := 549) hx hb dL_act_545 (by decide) ?_
    exact e_retZ () hx hb hr hlocks hS (st_any (hR.put hN (Or.inr ⟨_, Nat.mod_lt _ (by decide), rfl⟩) (a := nI (z_lo (x >>> (1 &&& 31)) % (if z_lo x % 2 = 0 then 6 else 2)))) (up_g hg1 ⟨_, hSP6, rfl⟩) hpa HT2 HP2 hX9) rfl (Or.inr rfl) (by show 25 + 1 + 1 ≤ 60; omega) (by show 144 + 3 + 24 ≤ 400; omega) dL_act_549
  · refine lv_iconst (v := 1) hx hb dL_act_476 (by decide) ?_
    exact e_retZ () hx hb hr hlocks hS hA.st rfl (Or.inr rfl) (by show 25 ≤ 60; omega) (by show 144 ≤ 400; omega) dL_act_477

set_option maxHeartbeats 4000000 in
set_option maxRecDepth 100000 in
theorem act_rest {p : Program} {l : Launch} {e : Env} {s : State} {m : MethodId} {args : Array Value} {below : List Frame} {meth : Method} {c : Code} {H : Heap} {locs : List Loc} {ls : Array Slot} {D : va_G} {cI cA : ClassId} {ad : Nat → Nat} {S q0 N : Nat} {w t : Int32} {pa : Nat} {pe : Int32} {f0 f1 f2 f3 f4 g0 g1 g2 : Nat → Int32} {O : Nat} {r : Nat → Nat} {x : Int32} {rw : Nat → Nat} {O2 : Nat} {so : Int32} {g : Nat} (hC : aC p s m meth c args D cI cA ad q0) (hA : aS D cI cA ad S q0 N w t pa pe f0 f1 f2 f3 f4 g0 g1 g2 O r H) (HG : gG cI cA (m_n g0 N) 5 rw (w_row g0 g1 g2 N N) O2 H)  (hS : va_S (e_F (aF ad q0) s.heap.size) s.heap H locs) (hl : lv_has ls 12 [(7, .int (nI g)), (6, .int so), (5, .int (nI (m_n g0 N) - 1)), (4, .ref O2), (3, .int (nI N)), (0, .ref (ad 0)), (1, .ref S), (2, .int x)]) : W p l e aRm s m args below meth c H locs 25 144 (aQ D cI cA ad S q0 below args s) (F0 m 177 ls []) := by
  obtain ⟨hx, hb, hml, hr, hts, hown, hlocks, hK, hO, htX, hq0⟩ := hC
  obtain ⟨hR, hW, hg1, hpa, HT, HP, hX⟩ := id hA
  have hin : ∀ w ∈ wsX10, w ∈ wsL_act := by decide +kernel
  have hA9 : ∀ q : Nat, s.heap.size ≤ q → e_F (aF ad q0) s.heap.size q := fun q h => Or.inr h
  have hN24 := hR.n
  have hm9 := m_n_le g0 N
  have hww := hW.ww
  have hqH : q0 ≤ H.size := Nat.le_trans hq0 hS.1
  have hmb : 0 < (if z_lo x % 2 = 0 then 60 else 5) ∧ (if z_lo x % 2 = 0 then 60 else 5) ≤ 60 := by split <;> omega
  have hM6 : z_lo (x >>> (2 &&& 31)) % (if z_lo x % 2 = 0 then 60 else 5) < 60 := Nat.lt_of_lt_of_le (Nat.mod_lt _ hmb.1) hmb.2
  have e1 : (1 : Int32) + nI (z_lo (x >>> (2 &&& 31)) % (if z_lo x % 2 = 0 then 60 else 5)) = nI (z_lo (x >>> (2 &&& 31)) % (if z_lo x % 2 = 0 then 60 else 5) + 1) := by rw [Int32.add_comm]; exact nI_1 _
  have e2 : i_min 99 (nI pa + nI (z_lo (x >>> (2 &&& 31)) % (if z_lo x % 2 = 0 then 60 else 5) + 1)) = nI (min 99 (pa + (z_lo (x >>> (2 &&& 31)) % (if z_lo x % 2 = 0 then 60 else 5) + 1))) := by rw [nI_add]; exact mn_99 (by omega)
  refine lv_iconst (v := 1) hx hb dL_act_177 (by decide) ?_
  refine lv_iload_n hx hb dL_act_178 rfl (lv_at hl 7 rfl) ?_
  refine lv_iconst (v := 2) hx hb dL_act_179 (by decide) ?_
  refine lv_ishr hx hb dL_act_180 ?_
  refine lv_iload_n hx hb dL_act_181 rfl (lv_at hl 7 rfl) ?_
  refine lv_iconst (v := 2) hx hb dL_act_182 (by decide) ?_
  refine p_callS (As := [.int x, .int 2]) (rest := [.int (x >>> (2 &&& 31)), .int 1]) ⟨hx, hb, hml, hown, hts⟩ (c_L_below l D x 2 (by decide) (by decide)) (va_cwS 2 hts gL_act_L_below rfl rfl rfl ks_L_below ⟨Nat.le_of_ble_eq_true rfl, Nat.le_of_ble_eq_true rfl⟩) pH.mv (p_at (Z := zTr) trivial) (hK.sub [] rfl) rfl hl.1 rfl (Nat.le_of_ble_eq_true rfl) dL_act_183 (by show 25 ≤ 60; omega) (by show 144 ≤ 400; omega) hS (fun H locs hsm hS => ?_)
  have HT := hsm.P HT
  have HP := HP.kept hsm
  suffices K_186 : ∀ v9 : Int32, v9 = nI (if z_lo x % 2 = 0 then 60 else 5) → W p l e aRm s m args below meth c H locs 25 144 (aQ D cI cA ad S q0 below args s) (F0 m 195 ls [.int v9, .int (x >>> (2 &&& 31)), .int 1]) from by
    refine lv_if_ne (tgt := 194) hx hb dL_act_186 (by decide) (fun c_186 => ?_) (fun c_186 => ?_)
    · refine lv_iconst (v := 5) hx hb dL_act_194 (by decide) ?_
      exact K_186 _ (by rw [if_neg (fun e => c_186 (by rw [e]; rfl))]; rfl)
    · refine lv_bipush (v := 60) hx hb dL_act_189 (by decide) ?_
      refine lv_goto (tgt := 195) hx hb dL_act_191 (by decide) ?_
      exact K_186 _ (by rw [if_pos (nI_z (by omega) c_186)]; rfl)
  intro v9 hv9
  rw [hv9]; clear hv9
  refine p_callS (As := [.int (x >>> (2 &&& 31)), .int (nI (if z_lo x % 2 = 0 then 60 else 5))]) (rest := [.int 1]) ⟨hx, hb, hml, hown, hts⟩ (c_L_below l D (x >>> (2 &&& 31)) (if z_lo x % 2 = 0 then 60 else 5) (hmb.1) (by omega)) (va_cwS 2 hts gL_act_L_below rfl rfl rfl ks_L_below ⟨Nat.le_of_ble_eq_true rfl, Nat.le_of_ble_eq_true rfl⟩) pH.mv (p_at (Z := zTr) trivial) (hK.sub [] rfl) rfl hl.1 rfl (Nat.le_of_ble_eq_true rfl) dL_act_195 (by show 25 ≤ 60; omega) (by show 144 ≤ 400; omega) hS (fun H locs hsm hS => ?_)
  have HT := hsm.P HT
  have HP := HP.kept hsm
  refine lv_iadd hx hb dL_act_198 ?_
  rw [e1]
  refine lv_istore (lv' := [(8, .int (nI (z_lo (x >>> (2 &&& 31)) % (if z_lo x % 2 = 0 then 60 else 5) + 1))), (7, .int (nI g)), (6, .int so), (5, .int (nI (m_n g0 N) - 1)), (4, .ref O2), (3, .int (nI N)), (0, .ref (ad 0)), (1, .ref S), (2, .int x)]) hx hb dL_act_199 hl (by decide) rfl (fun ls hl => ?_)
  refine lv_aload_n hx hb dL_act_201 rfl (lv_at hl 7 rfl) ?_
  refine lv_bipush (v := 99) hx hb dL_act_202 (by decide) ?_
  refine lv_aload_n hx hb dL_act_204 rfl (lv_at hl 7 rfl) ?_
  refine z_get hx hb hts hin hown hK HP.cell 0 (by decide) (hts (.fieldLink RL 35 "SplicedTalkLaw$Sim" "patience" "I") (by decide +kernel)) (v := .int (nI pa)) rfl dL_act_205 ?_
  refine lv_iload hx hb dL_act_208 (lv_at hl 0 rfl) ?_
  refine lv_iadd hx hb dL_act_210 ?_
  rw [nI_add]
  refine va_mmin hx hb (hml.trans hl.1.symm) hown (hts (.methodLink RL 39 Lib.Math.min.name) (by decide +kernel)) (hts (.static Lib.Math.min.name) (by decide +kernel)) (hts (.initialized "java/lang/Math") (by decide +kernel)) (hts (.code Lib.Math.min.name Lib.Math.min.code 2 (some .int)) (by decide +kernel)) (Nat.le_of_ble_eq_true rfl) (Nat.le_of_ble_eq_true rfl) (by show 25 ≤ 60; omega) (by show 144 ≤ 400; omega) dL_act_211 ?_
  rw [mn_99 (by omega)]
  refine z_put hx hb hts hin hown hK HP.cell hS (Or.inl (Or.inr hX.1)) 0 (by decide) (hts (.fieldLink RL 35 "SplicedTalkLaw$Sim" "patience" "I") (by decide +kernel)) (ty := .int) (v := .int (nI (min 99 (pa + (z_lo (x >>> (2 &&& 31)) % (if z_lo x % 2 = 0 then 60 else 5) + 1))))) rfl rfl rfl (Nat.le_of_ble_eq_true rfl) dL_act_214 (fun H locs HC z9 o9 hS => ?_)
  have HP := sG_set HP hX HC o9
  have HT := xw_kp HT (fun k hk9 => o9 _ (fun e => by have := htX.1 k hk9; have := hX.1; omega))
  refine lv_aload_n hx hb dL_act_217 rfl (lv_at hl 6 rfl) ?_
  refine lv_iload hx hb dL_act_218 (lv_at hl 0 rfl) ?_
  refine z_callT (As := [.int (nI (z_lo (x >>> (2 &&& 31)) % (if z_lo x % 2 = 0 then 60 else 5) + 1))]) (rest := []) ⟨hx, hb, hml, hown, hts⟩ (c_X0_rest l D cI ad (nI N) w t (nI pa) pe f0 f1 f2 f3 f4 (nI (z_lo (x >>> (2 &&& 31)) % (if z_lo x % 2 = 0 then 60 else 5) + 1)) (g_1 rfl (by omega) (by omega)).1 (g_1 rfl (by omega) (by omega)).2) (cwV 1 hts gL_act_X0_rest rfl rfl rfl kv_X0_rest ⟨Nat.le_of_ble_eq_true rfl, Nat.le_of_ble_eq_true rfl⟩) (va_recv hK HT (ci := 0) (q0 := 0) rfl rfl) HT htX.D (hK.sub [0] rfl) (fun q h => (xw_A h).elim (fun h => Or.inl (Or.inl h)) (fun h => Or.inr (Nat.le_trans hS.1 h))) rfl hl.1 rfl (Nat.le_of_ble_eq_true rfl) dL_act_220 (by show 25 ≤ 60; omega) (by show 144 ≤ 400; omega) hS (fun H locs HT2 hz hk hS => ?_)
  rw [e2] at HT2
  rw [e2]
  have HP := HP.byT hX (t_k htX hk)
  refine lv_aload_n hx hb dL_act_223 rfl (lv_at hl 7 rfl) ?_
  refine z_get hx hb hts hin hown hK HP.cell 0 (by decide) (hts (.fieldLink RL 35 "SplicedTalkLaw$Sim" "patience" "I") (by decide +kernel)) (v := .int (nI (min 99 (pa + (z_lo (x >>> (2 &&& 31)) % (if z_lo x % 2 = 0 then 60 else 5) + 1))))) rfl dL_act_224 ?_
  refine lv_icmp_ne (tgt := 234) hx hb dL_act_227 (by decide) (fun c_227 => absurd rfl c_227) (fun c_227 => ?_)
  refine lv_iconst (v := 1) hx hb dL_act_230 (by decide) ?_
  refine lv_goto (tgt := 235) hx hb dL_act_231 (by decide) ?_
  exact e_retZ () hx hb hr hlocks hS (⟨N, w, t, (min 99 (pa + (z_lo (x >>> (2 &&& 31)) % (if z_lo x % 2 = 0 then 60 else 5) + 1))), pe, f0, f1, f2, f3, f4, g0, g1, g2, O, r, hR, hW, hg1, Nat.min_le_left _ _, HT2, HP, hX⟩) rfl (Or.inr rfl) (by show 25 ≤ 60; omega) (by show 144 ≤ 400; omega) dL_act_235
