/-! own rows: the law's walk over words and places -/
set_option maxHeartbeats 4000000 in
set_option maxRecDepth 100000 in
theorem law_174 {p : Program} {l : Launch} {e : Env} {s : State} {m : MethodId} {args : Array Value} {below : List Frame} {meth : Method} {c : Code} {Q : State → Prop} {b L : Nat} {xs : Nat → Int32} {Hb : Heap} {D : va_G} {cI cA cZ : ClassId} {ad : Nat → Nat} {S q0 N pa T cells slots : Nat} {pe : Int32} {f0 f1 f2 f3 f4 g0 g1 g2 : Nat → Int32} {O : Nat} {r : Nat → Nat} {a15 a16 : Nat} {x : Int32} (hC : lC p s m c args b L xs D cI cA cZ ad q0) (hI : lS D cI cA ad S q0 N pa pe f0 f1 f2 f3 f4 g0 g1 g2 O r Hb) (hb0 : s.heap.size ≤ Hb.size) (hcl : cells + 4 ≤ 600172) (hsl : slots + 60 ≤ 7300668) (hx15 : Hb.size ≤ a15) (hx16 : a15 < a16) (K : lK p l e s m args below meth c b D cI cA ad S q0 T cells slots Q) : ∀ (H : Heap) (locs : List Loc) (ls : Array Slot), q_same Hb H → aI cI (m_n g0 N - 1) (fun k => if k < 0 then m_st g0 N k else 0) a15 H → aI cZ (m_n g0 N - 1) (fun k => if k < 0 then bI (m_br g0 g1 g2 N k) else 0) a16 H → va_S (lA s) s.heap H locs → lv_has ls 26 [(14, .int 0), (13, .int 0), (12, .int 0), (11, .int 0), (10, .int 0), (9, .int (nI (N - m_n g0 N))), (8, .int (-1)), (7, .int (nI (m_n g0 N - 1))), (6, .int (nI N)), (5, .int (nI (m_n g0 N))), (4, .int x), (15, .ref a15), (16, .ref a16), (3, .int (nI T)), (0, .ref b), (1, .ref (ad 0)), (2, .ref S)] → W p l e room_1 s m args below meth c H locs cells slots Q (F0 m 174 ls []) := by
  intro H locs ls hq h15 h16 hS hl
  obtain ⟨hx, hb, hml, hts, hown, hK, hO, htX, hta, hq0, hXs, hbl, hL⟩ := id hC
  have hR := hI.1
  have hpa := hI.2.2.2.2
  obtain ⟨-, HT, HP, hX, -⟩ := hI.kept hq
  have hin : ∀ w ∈ wsX10, w ∈ wsL_law := inlX1
  have hN24 := hR.1.n
  have hm9 := m_n_le g0 N
  have hw := hR.1.ok
  have htn := tn_le (N := N) (g0 := g0) (g1 := g1) (g2 := g2)
  have hA9 : ∀ q : Nat, s.heap.size ≤ q → lA s q := fun q h => h
  refine lv_iconst (v := 0) hx hb dL_law_174 (by decide) ?_
  refine lv_istore (lv' := [(17, .int 0), (14, .int 0), (13, .int 0), (12, .int 0), (11, .int 0), (10, .int 0), (9, .int (nI (N - m_n g0 N))), (8, .int (-1)), (7, .int (nI (m_n g0 N - 1))), (6, .int (nI N)), (5, .int (nI (m_n g0 N))), (4, .int x), (15, .ref a15), (16, .ref a16), (3, .int (nI T)), (0, .ref b), (1, .ref (ad 0)), (2, .ref S)]) hx hb dL_law_175 hl (by decide) rfl (fun ls hl => ?_)
  have lo_177 : ∀ (fu177 w : Nat), (m_n g0 N - 1) - w < fu177 → w ≤ (m_n g0 N - 1) → ∀ (H : Heap) (locs : List Loc) (ls : Array Slot), q_same Hb H → aI cI (m_n g0 N - 1) (fun k => if k < w then m_st g0 N k else 0) a15 H → aI cZ (m_n g0 N - 1) (fun k => if k < w then bI (m_br g0 g1 g2 N k) else 0) a16 H → va_S (lA s) s.heap H locs → lv_has ls 26 [(17, .int (nI w)), (14, .int (m_ss g0 N w)), (13, .int (m_ma g0 g1 g2 N w)), (12, .int (nI (ct (m_pol g0 g1 g2 N) w))), (11, .int (nI (m_th g0 g1 g2 N w))), (10, .int (nI (z_bt g0 N w))), (8, .int (z_at g0 N w)), (9, .int (nI (N - m_n g0 N))), (7, .int (nI (m_n g0 N - 1))), (6, .int (nI N)), (5, .int (nI (m_n g0 N))), (4, .int x), (15, .ref a15), (16, .ref a16), (3, .int (nI T)), (0, .ref b), (1, .ref (ad 0)), (2, .ref S)] → W p l e room_1 s m args below meth c H locs cells slots Q (F0 m 177 ls []) := by
    intro fu177
    induction fu177 with
    | zero => intro w hi; exact absurd hi (Nat.not_lt_zero _)
    | succ fu177 ih177 =>
      intro w hi177 hwN H locs ls hq h15 h16 hS hl
      refine lv_iload hx hb dL_law_177 (lv_at hl 0 rfl) ?_
      obtain ⟨-, HT, HP, -⟩ := hI.kept hq
      refine lv_iload hx hb dL_law_179 (lv_at hl 10 rfl) ?_
      refine lv_icmp_ge (tgt := 509) hx hb dL_law_181 (by decide) (fun c_181 => ?_) (fun c_181 => ?_)
      · have hwn : w = (m_n g0 N - 1) := by
          have h := c_181
          rw [nI_leI (by omega) (by omega)] at h
          omega
        rw [hwn] at hl h15 h16
        exact law_509 hC hI hb0 hcl hsl hx15 hx16 K H locs ls hq h15 h16 hS (lv_sub hl [1, 2, 3, 4, 5, 7, 9, 11, 10, 8, 12, 13, 14, 15, 16, 17] rfl)
      · have hwl : w < m_n g0 N := by
          have h := c_181
          rw [nI_leI (by omega) (by omega)] at h
          omega
        have hPl := m_P_lt hwl
        obtain ⟨t, ht10, et⟩ := hw.2.1 w hwl
        refine lv_aload_n hx hb dL_law_184 rfl (lv_at hl 16 rfl) ?_
        refine lv_iload hx hb dL_law_185 (lv_at hl 0 rfl) ?_
        refine q_callV (As := [.int (nI w)]) (rest := []) ⟨hx, hb, hml, hown, hts⟩ (d_placeOf l D cI ad N pa pe f0 f1 f2 f3 f4 g0 g1 g2 hR w hwl) (cwV 1 hts gL_law_X0_placeOf rfl rfl rfl kv_X0_placeOf ⟨Nat.le_of_ble_eq_true rfl, Nat.le_of_ble_eq_true rfl⟩) (va_recv hK HT (ci := 0) (q0 := 0) rfl rfl) HT (hK.sub [0] rfl) rfl hl.1 rfl (Nat.le_of_ble_eq_true rfl) dL_law_187 (by show cells ≤ 600172; omega) (by show slots ≤ 7300668; omega) hS (fun H locs hsm hS => ?_)
        have hq := hq.tr hsm
        obtain ⟨-, HT, HP, -⟩ := hI.kept hq
        have h15 := z_kp h15 hsm
        have h16 := z_kp h16 hsm
        refine lv_istore (lv' := [(18, .int (nI (m_P g0 N w))), (17, .int (nI w)), (14, .int (m_ss g0 N w)), (13, .int (m_ma g0 g1 g2 N w)), (12, .int (nI (ct (m_pol g0 g1 g2 N) w))), (11, .int (nI (m_th g0 g1 g2 N w))), (10, .int (nI (z_bt g0 N w))), (8, .int (z_at g0 N w)), (9, .int (nI (N - m_n g0 N))), (7, .int (nI (m_n g0 N - 1))), (6, .int (nI N)), (5, .int (nI (m_n g0 N))), (4, .int x), (15, .ref a15), (16, .ref a16), (3, .int (nI T)), (0, .ref b), (1, .ref (ad 0)), (2, .ref S)]) hx hb dL_law_190 hl (by decide) rfl (fun ls hl => ?_)
        refine lv_iload hx hb dL_law_192 (lv_at hl 0 rfl) ?_
        refine lv_iload hx hb dL_law_194 (lv_at hl 7 rfl) ?_
        refine lv_icmp_le (tgt := 239) hx hb dL_law_196 (by decide) (fun c_196 => absurd c_196 (at_lt hN24 hwl)) (fun c_196 => ?_)
        refine lv_aload_n hx hb dL_law_199 rfl (lv_at hl 17 rfl) ?_
        refine lv_iload hx hb dL_law_200 (lv_at hl 0 rfl) ?_
        refine q_callV (As := [.int (nI (m_P g0 N w))]) (rest := []) ⟨hx, hb, hml, hown, hts⟩ (d_isCough l D cI ad N pa pe f0 f1 f2 f3 f4 g0 g1 g2 hR (m_P g0 N w) hPl) (cwV 1 hts gL_law_X0_isCough rfl rfl rfl kv_X0_isCough ⟨Nat.le_of_ble_eq_true rfl, Nat.le_of_ble_eq_true rfl⟩) (va_recv hK HT (ci := 0) (q0 := 0) rfl rfl) HT (hK.sub [0] rfl) rfl hl.1 rfl (Nat.le_of_ble_eq_true rfl) dL_law_202 (by show cells ≤ 600172; omega) (by show slots ≤ 7300668; omega) hS (fun H locs hsm hS => ?_)
        have hq := hq.tr hsm
        obtain ⟨-, HT, HP, -⟩ := hI.kept hq
        have h15 := z_kp h15 hsm
        have h16 := z_kp h16 hsm
        rw [m_P_wd hwl]
        refine W.eq (g2 := F0 m 205 ls [.int 0]) rfl ?_
        refine lv_if_ne (tgt := 239) hx hb dL_law_205 (by decide) (fun h9 => absurd (by decide) h9) (fun _ => ?_)
        refine lv_aload_n hx hb dL_law_208 rfl (lv_at hl 17 rfl) ?_
        refine lv_iload hx hb dL_law_209 (lv_at hl 1 rfl) ?_
        refine q_callV (As := [.int (nI w)]) (rest := []) ⟨hx, hb, hml, hown, hts⟩ (d_topicOf l D cI ad N pa pe f0 f1 f2 f3 f4 g0 g1 g2 hR w hwl) (cwV 1 hts gL_law_X0_topicOf rfl rfl rfl kv_X0_topicOf ⟨Nat.le_of_ble_eq_true rfl, Nat.le_of_ble_eq_true rfl⟩) (va_recv hK HT (ci := 0) (q0 := 0) rfl rfl) HT (hK.sub [0] rfl) rfl hl.1 rfl (Nat.le_of_ble_eq_true rfl) dL_law_211 (by show cells ≤ 600172; omega) (by show slots ≤ 7300668; omega) hS (fun H locs hsm hS => ?_)
        have hq := hq.tr hsm
        obtain ⟨-, HT, HP, -⟩ := hI.kept hq
        have h15 := z_kp h15 hsm
        have h16 := z_kp h16 hsm
        rw [et]
        refine lv_if_lt (tgt := 239) hx hb dL_law_214 (by decide) (fun c_214 => absurd c_214 (nI_pos (by omega))) (fun c_214 => ?_)
        refine lv_aload_n hx hb dL_law_217 rfl (lv_at hl 17 rfl) ?_
        refine lv_iload hx hb dL_law_218 (lv_at hl 1 rfl) ?_
        refine q_callV (As := [.int (nI w)]) (rest := []) ⟨hx, hb, hml, hown, hts⟩ (d_topicOf l D cI ad N pa pe f0 f1 f2 f3 f4 g0 g1 g2 hR w hwl) (cwV 1 hts gL_law_X0_topicOf rfl rfl rfl kv_X0_topicOf ⟨Nat.le_of_ble_eq_true rfl, Nat.le_of_ble_eq_true rfl⟩) (va_recv hK HT (ci := 0) (q0 := 0) rfl rfl) HT (hK.sub [0] rfl) rfl hl.1 rfl (Nat.le_of_ble_eq_true rfl) dL_law_220 (by show cells ≤ 600172; omega) (by show slots ≤ 7300668; omega) hS (fun H locs hsm hS => ?_)
        have hq := hq.tr hsm
        obtain ⟨-, HT, HP, -⟩ := hI.kept hq
        have h15 := z_kp h15 hsm
        have h16 := z_kp h16 hsm
        rw [et]
        refine lv_bipush (v := 9) hx hb dL_law_223 (by decide) ?_
        refine lv_icmp_gt (tgt := 239) hx hb dL_law_225 (by decide) (fun c_225 => absurd c_225 (nI_nlt (a := 9) (by omega) (by decide))) (fun c_225 => ?_)
        refine lv_aload_n hx hb dL_law_228 rfl (lv_at hl 17 rfl) ?_
        refine lv_iload hx hb dL_law_229 (lv_at hl 1 rfl) ?_
        refine q_callV (As := [.int (nI w)]) (rest := []) ⟨hx, hb, hml, hown, hts⟩ (d_threadOf l D cI ad N pa pe f0 f1 f2 f3 f4 g0 g1 g2 hR w hwl) (cwV 1 hts gL_law_X0_threadOf rfl rfl rfl kv_X0_threadOf ⟨Nat.le_of_ble_eq_true rfl, Nat.le_of_ble_eq_true rfl⟩) (va_recv hK HT (ci := 0) (q0 := 0) rfl rfl) HT (hK.sub [0] rfl) rfl hl.1 rfl (Nat.le_of_ble_eq_true rfl) dL_law_231 (by show cells ≤ 600172; omega) (by show slots ≤ 7300668; omega) hS (fun H locs hsm hS => ?_)
        have hq := hq.tr hsm
        obtain ⟨-, HT, HP, -⟩ := hI.kept hq
        have h15 := z_kp h15 hsm
        have h16 := z_kp h16 hsm
        refine lv_iload hx hb dL_law_234 (lv_at hl 5 rfl) ?_
        refine lv_icmp_eq (tgt := 241) hx hb dL_law_236 (by decide) (fun c_236 => ?_) (fun c_236 => absurd rfl c_236)
        refine lv_iload hx hb dL_law_241 (lv_at hl 0 rfl) ?_
        refine lv_istore (lv' := [(8, .int (nI (m_P g0 N w))), (18, .int (nI (m_P g0 N w))), (17, .int (nI w)), (14, .int (m_ss g0 N w)), (13, .int (m_ma g0 g1 g2 N w)), (12, .int (nI (ct (m_pol g0 g1 g2 N) w))), (11, .int (nI (m_th g0 g1 g2 N w))), (10, .int (nI (z_bt g0 N w))), (9, .int (nI (N - m_n g0 N))), (7, .int (nI (m_n g0 N - 1))), (6, .int (nI N)), (5, .int (nI (m_n g0 N))), (4, .int x), (15, .ref a15), (16, .ref a16), (3, .int (nI T)), (0, .ref b), (1, .ref (ad 0)), (2, .ref S)]) hx hb dL_law_243 hl (by decide) rfl (fun ls hl => ?_)
        refine lv_iload hx hb dL_law_245 (lv_at hl 2 rfl) ?_
        refine lv_iload hx hb dL_law_247 (lv_at hl 11 rfl) ?_
        refine lv_iconst (v := 1) hx hb dL_law_249 (by decide) ?_
        refine lv_isub hx hb dL_law_250 ?_
        rw [nI_m1 (show 0 < m_n g0 N by omega)]
        refine lv_icmp_ne (tgt := 257) hx hb dL_law_251 (by decide) (fun c_251 => ?_) (fun c_251 => ?_)
        · have hg : w + 1 < m_n g0 N := by
            have h : ¬ w = (m_n g0 N - 1) := fun e => c_251 (congrArg nI e)
            omega
          obtain ⟨hc23, d9, hd9, es⟩ := m_stN hw hg
          rw [nI_add] at es
          obtain ⟨c9, hc3, emd, hcb⟩ := md_r (g1 := g1) hw hg
          refine lv_aload hx hb dL_law_257 (lv_at hl 13 rfl) ?_
          refine lv_iload hx hb dL_law_259 (lv_at hl 2 rfl) ?_
          refine lv_aload_n hx hb dL_law_261 rfl (lv_at hl 17 rfl) ?_
          refine lv_iload hx hb dL_law_262 (lv_at hl 2 rfl) ?_
          refine q_callV (As := [.int (nI w)]) (rest := [.int (nI w), .ref a15]) ⟨hx, hb, hml, hown, hts⟩ (d_strainOf l D cI ad N pa pe f0 f1 f2 f3 f4 g0 g1 g2 hR w hg) (cwV 1 hts gL_law_X0_strainOf rfl rfl rfl kv_X0_strainOf ⟨Nat.le_of_ble_eq_true rfl, Nat.le_of_ble_eq_true rfl⟩) (va_recv hK HT (ci := 0) (q0 := 0) rfl rfl) HT (hK.sub [0] rfl) rfl hl.1 rfl (Nat.le_of_ble_eq_true rfl) dL_law_264 (by show cells ≤ 600172; omega) (by show slots ≤ 7300668; omega) hS (fun H locs hsm hS => ?_)
          have hq := hq.tr hsm
          obtain ⟨-, HT, HP, -⟩ := hI.kept hq
          have h15 := z_kp h15 hsm
          have h16 := z_kp h16 hsm
          refine z_iast hx hb hK 0 rfl h15 hS (show s.heap.size ≤ a15 by omega) w rfl (by omega) (by omega) dL_law_267 (fun H locs h0 z9 o9 hS => ?_)
          have hq := hq.st (show Hb.size ≤ a15 by omega) z9 o9
          obtain ⟨-, HT, HP, -⟩ := hI.kept hq
          have h16 := (o9 a16 (by omega)).trans h16
          have h15 : aI cI (m_n g0 N - 1) (fun k => if k < (w + 1) then m_st g0 N k else 0) a15 H := aI.cg h0 fun k hk => by
            by_cases c : k = w
            · subst c; rw [upd_e, if_pos (Nat.lt_succ_self k)]
            · rw [upd_n c]
              by_cases d : k < w
              · rw [if_pos d, if_pos (Nat.lt_succ_of_lt d)]
              · rw [if_neg d, if_neg (by omega)]
          refine lv_aload hx hb dL_law_268 (lv_at hl 14 rfl) ?_
          refine lv_iload hx hb dL_law_270 (lv_at hl 2 rfl) ?_
          refine lv_aload_n hx hb dL_law_272 rfl (lv_at hl 17 rfl) ?_
          refine lv_iload hx hb dL_law_273 (lv_at hl 2 rfl) ?_
          refine q_callV (As := [.int (nI w)]) (rest := [.int (nI w), .ref a16]) ⟨hx, hb, hml, hown, hts⟩ (d_isBroken l D cI ad N pa pe f0 f1 f2 f3 f4 g0 g1 g2 hR w hg) (cwV 1 hts gL_law_X0_isBroken rfl rfl rfl kv_X0_isBroken ⟨Nat.le_of_ble_eq_true rfl, Nat.le_of_ble_eq_true rfl⟩) (va_recv hK HT (ci := 0) (q0 := 0) rfl rfl) HT (hK.sub [0] rfl) rfl hl.1 rfl (Nat.le_of_ble_eq_true rfl) dL_law_275 (by show cells ≤ 600172; omega) (by show slots ≤ 7300668; omega) hS (fun H locs hsm hS => ?_)
          have hq := hq.tr hsm
          obtain ⟨-, HT, HP, -⟩ := hI.kept hq
          have h15 := z_kp h15 hsm
          have h16 := z_kp h16 hsm
          refine z_zast hx hb hK 2 rfl h16 hS (show s.heap.size ≤ a16 by omega) w (m_br g0 g1 g2 N w) rfl (by omega) (by omega) dL_law_278 (fun H locs h0 z9 o9 hS => ?_)
          have hq := hq.st (show Hb.size ≤ a16 by omega) z9 o9
          obtain ⟨-, HT, HP, -⟩ := hI.kept hq
          have h15 := (o9 a15 (by omega)).trans h15
          have h16 : aI cZ (m_n g0 N - 1) (fun k => if k < (w + 1) then bI (m_br g0 g1 g2 N k) else 0) a16 H := aI.cg h0 fun k hk => by
            by_cases c : k = w
            · subst c; rw [upd_e, if_pos (Nat.lt_succ_self k)]
            · rw [upd_n c]
              by_cases d : k < w
              · rw [if_pos d, if_pos (Nat.lt_succ_of_lt d)]
              · rw [if_neg d, if_neg (by omega)]
          refine lv_aload_n hx hb dL_law_279 rfl (lv_at hl 17 rfl) ?_
          refine lv_iload hx hb dL_law_280 (lv_at hl 2 rfl) ?_
          refine q_callV (As := [.int (nI w)]) (rest := []) ⟨hx, hb, hml, hown, hts⟩ (d_isSmooth l D cI ad N pa pe f0 f1 f2 f3 f4 g0 g1 g2 hR w hg) (cwV 1 hts gL_law_X0_isSmooth rfl rfl rfl kv_X0_isSmooth ⟨Nat.le_of_ble_eq_true rfl, Nat.le_of_ble_eq_true rfl⟩) (va_recv hK HT (ci := 0) (q0 := 0) rfl rfl) HT (hK.sub [0] rfl) rfl hl.1 rfl (Nat.le_of_ble_eq_true rfl) dL_law_282 (by show cells ≤ 600172; omega) (by show slots ≤ 7300668; omega) hS (fun H locs hsm hS => ?_)
          have hq := hq.tr hsm
          obtain ⟨-, HT, HP, -⟩ := hI.kept hq
          have h15 := z_kp h15 hsm
          have h16 := z_kp h16 hsm
          suffices K_285 : ∀ v9 : Int32, v9 = bI (m_so g0 g2 N w) → W p l e room_1 s m args below meth c H locs cells slots Q (F0 m 293 ls [.int v9]) from by
            refine lv_if_eq (tgt := 292) hx hb dL_law_285 (by decide) (fun c_285 => ?_) (fun c_285 => ?_)
            · refine lv_iconst (v := 0) hx hb dL_law_292 (by decide) ?_
              exact K_285 _ (by rw [bI_0.mp c_285]; rfl)
            · refine lv_iconst (v := 1) hx hb dL_law_288 (by decide) ?_
              refine lv_goto (tgt := 293) hx hb dL_law_289 (by decide) ?_
              exact K_285 _ (by rw [bI_n0.mp c_285]; rfl)
          intro v9 hv9
          rw [hv9]; clear hv9
          refine lv_aload_n hx hb dL_law_293 rfl (lv_at hl 17 rfl) ?_
          refine lv_iload hx hb dL_law_294 (lv_at hl 2 rfl) ?_
          refine q_callV (As := [.int (nI w)]) (rest := [.int (bI (m_so g0 g2 N w))]) ⟨hx, hb, hml, hown, hts⟩ (d_isPolite l D cI ad N pa pe f0 f1 f2 f3 f4 g0 g1 g2 hR w hg) (cwV 1 hts gL_law_X0_isPolite rfl rfl rfl kv_X0_isPolite ⟨Nat.le_of_ble_eq_true rfl, Nat.le_of_ble_eq_true rfl⟩) (va_recv hK HT (ci := 0) (q0 := 0) rfl rfl) HT (hK.sub [0] rfl) rfl hl.1 rfl (Nat.le_of_ble_eq_true rfl) dL_law_296 (by show cells ≤ 600172; omega) (by show slots ≤ 7300668; omega) hS (fun H locs hsm hS => ?_)
          have hq := hq.tr hsm
          obtain ⟨-, HT, HP, -⟩ := hI.kept hq
          have h15 := z_kp h15 hsm
          have h16 := z_kp h16 hsm
          suffices K_299 : ∀ v9 : Int32, v9 = bI (m_pol g0 g1 g2 N w) → W p l e room_1 s m args below meth c H locs cells slots Q (F0 m 307 ls [.int v9, .int (bI (m_so g0 g2 N w))]) from by
            refine lv_if_eq (tgt := 306) hx hb dL_law_299 (by decide) (fun c_299 => ?_) (fun c_299 => ?_)
            · refine lv_iconst (v := 0) hx hb dL_law_306 (by decide) ?_
              exact K_299 _ (by rw [bI_0.mp c_299]; rfl)
            · refine lv_iconst (v := 1) hx hb dL_law_302 (by decide) ?_
              refine lv_goto (tgt := 307) hx hb dL_law_303 (by decide) ?_
              exact K_299 _ (by rw [bI_n0.mp c_299]; rfl)
          intro v9 hv9
          rw [hv9]; clear hv9
          refine lv_iadd hx hb dL_law_307 ?_
          refine lv_aload hx hb dL_law_308 (lv_at hl 14 rfl) ?_
          refine lv_iload hx hb dL_law_310 (lv_at hl 2 rfl) ?_
          refine z_zald hx hb hK 2 rfl h16 w rfl (by omega) (by omega) dL_law_312 ?_
          rw [if_pos (Nat.lt_succ_self w)]
          suffices K_313 : ∀ v9 : Int32, v9 = bI (m_br g0 g1 g2 N w) → W p l e room_1 s m args below meth c H locs cells slots Q (F0 m 321 ls [.int v9, .int (bI (m_so g0 g2 N w) + bI (m_pol g0 g1 g2 N w))]) from by
            refine lv_if_eq (tgt := 320) hx hb dL_law_313 (by decide) (fun c_313 => ?_) (fun c_313 => ?_)
            · refine lv_iconst (v := 0) hx hb dL_law_320 (by decide) ?_
              exact K_313 _ (by rw [bI_0.mp c_313]; rfl)
            · refine lv_iconst (v := 1) hx hb dL_law_316 (by decide) ?_
              refine lv_goto (tgt := 321) hx hb dL_law_317 (by decide) ?_
              exact K_313 _ (by rw [bI_n0.mp c_313]; rfl)
          intro v9 hv9
          rw [hv9]; clear hv9
          refine lv_iadd hx hb dL_law_321 ?_
          refine lv_istore (lv' := [(19, .int ((bI (m_so g0 g2 N w) + bI (m_pol g0 g1 g2 N w)) + bI (m_br g0 g1 g2 N w))), (8, .int (nI (m_P g0 N w))), (18, .int (nI (m_P g0 N w))), (17, .int (nI w)), (14, .int (m_ss g0 N w)), (13, .int (m_ma g0 g1 g2 N w)), (12, .int (nI (ct (m_pol g0 g1 g2 N) w))), (11, .int (nI (m_th g0 g1 g2 N w))), (10, .int (nI (z_bt g0 N w))), (9, .int (nI (N - m_n g0 N))), (7, .int (nI (m_n g0 N - 1))), (6, .int (nI N)), (5, .int (nI (m_n g0 N))), (4, .int x), (15, .ref a15), (16, .ref a16), (3, .int (nI T)), (0, .ref b), (1, .ref (ad 0)), (2, .ref S)]) hx hb dL_law_322 hl (by decide) rfl (fun ls hl => ?_)
          refine lv_iload hx hb dL_law_324 (lv_at hl 0 rfl) ?_
          refine lv_iconst (v := 1) hx hb dL_law_326 (by decide) ?_
          refine lv_icmp_ne (tgt := 432) hx hb dL_law_327 (by decide) (fun c_327 => absurd (m_one g0 g1 g2 N w) c_327) (fun c_327 => ?_)
          refine lv_aload_n hx hb dL_law_330 rfl (lv_at hl 18 rfl) ?_
          refine lv_iload hx hb dL_law_331 (lv_at hl 3 rfl) ?_
          refine q_callV (As := [.int (nI w)]) (rest := []) ⟨hx, hb, hml, hown, hts⟩ (d_coughsIn l D cI ad N pa pe f0 f1 f2 f3 f4 g0 g1 g2 hR w hg) (cwV 1 hts gL_law_X0_coughsIn rfl rfl rfl kv_X0_coughsIn ⟨Nat.le_of_ble_eq_true rfl, Nat.le_of_ble_eq_true rfl⟩) (va_recv hK HT (ci := 0) (q0 := 0) rfl rfl) HT (hK.sub [0] rfl) rfl hl.1 rfl (Nat.le_of_ble_eq_true rfl) dL_law_333 (by show cells ≤ 600172; omega) (by show slots ≤ 7300668; omega) hS (fun H locs hsm hS => ?_)
          have hq := hq.tr hsm
          obtain ⟨-, HT, HP, -⟩ := hI.kept hq
          have h15 := z_kp h15 hsm
          have h16 := z_kp h16 hsm
          refine lv_aload_n hx hb dL_law_336 rfl (lv_at hl 18 rfl) ?_
          refine lv_iload hx hb dL_law_337 (lv_at hl 3 rfl) ?_
          refine lv_iconst (v := 1) hx hb dL_law_339 (by decide) ?_
          refine lv_iadd hx hb dL_law_340 ?_
          rw [nI_1]
          refine q_callV (As := [.int (nI (w + 1))]) (rest := [.int (nI (m_cN g0 N w))]) ⟨hx, hb, hml, hown, hts⟩ (d_placeOf l D cI ad N pa pe f0 f1 f2 f3 f4 g0 g1 g2 hR (w + 1) hg) (cwV 1 hts gL_law_X0_placeOf rfl rfl rfl kv_X0_placeOf ⟨Nat.le_of_ble_eq_true rfl, Nat.le_of_ble_eq_true rfl⟩) (va_recv hK HT (ci := 0) (q0 := 0) rfl rfl) HT (hK.sub [0] rfl) rfl hl.1 rfl (Nat.le_of_ble_eq_true rfl) dL_law_341 (by show cells ≤ 600172; omega) (by show slots ≤ 7300668; omega) hS (fun H locs hsm hS => ?_)
          have hq := hq.tr hsm
          obtain ⟨-, HT, HP, -⟩ := hI.kept hq
          have h15 := z_kp h15 hsm
          have h16 := z_kp h16 hsm
          refine lv_iload hx hb dL_law_344 (lv_at hl 2 rfl) ?_
          refine lv_isub hx hb dL_law_346 ?_
          refine lv_iconst (v := 1) hx hb dL_law_347 (by decide) ?_
          refine lv_isub hx hb dL_law_348 ?_
          refine lv_icmp_ne (tgt := 432) hx hb dL_law_349 (by decide) (fun c_349 => absurd (m_cg_N hg).symm c_349) (fun c_349 => ?_)
          refine lv_aload hx hb dL_law_352 (lv_at hl 14 rfl) ?_
          refine lv_iload hx hb dL_law_354 (lv_at hl 3 rfl) ?_
          refine z_iald hx hb hK 0 rfl h15 w rfl (by omega) (by omega) dL_law_356 ?_
          rw [if_pos (Nat.lt_succ_self w)]
          rw [es]
          refine lv_aload_n hx hb dL_law_357 rfl (lv_at hl 18 rfl) ?_
          refine lv_iload hx hb dL_law_358 (lv_at hl 3 rfl) ?_
          refine q_callV (As := [.int (nI w)]) (rest := [.int (nI (d9 + m_cN g0 N w))]) ⟨hx, hb, hml, hown, hts⟩ (d_coughsIn l D cI ad N pa pe f0 f1 f2 f3 f4 g0 g1 g2 hR w hg) (cwV 1 hts gL_law_X0_coughsIn rfl rfl rfl kv_X0_coughsIn ⟨Nat.le_of_ble_eq_true rfl, Nat.le_of_ble_eq_true rfl⟩) (va_recv hK HT (ci := 0) (q0 := 0) rfl rfl) HT (hK.sub [0] rfl) rfl hl.1 rfl (Nat.le_of_ble_eq_true rfl) dL_law_360 (by show cells ≤ 600172; omega) (by show slots ≤ 7300668; omega) hS (fun H locs hsm hS => ?_)
          have hq := hq.tr hsm
          obtain ⟨-, HT, HP, -⟩ := hI.kept hq
          have h15 := z_kp h15 hsm
          have h16 := z_kp h16 hsm
          refine lv_icmp_lt (tgt := 432) hx hb dL_law_363 (by decide) (fun c_363 => absurd c_363 (nI_nlt (by omega) (by omega))) (fun c_363 => ?_)
          refine lv_aload hx hb dL_law_366 (lv_at hl 14 rfl) ?_
          refine lv_iload hx hb dL_law_368 (lv_at hl 3 rfl) ?_
          refine z_iald hx hb hK 0 rfl h15 w rfl (by omega) (by omega) dL_law_370 ?_
          rw [if_pos (Nat.lt_succ_self w)]
          rw [es]
          refine lv_aload_n hx hb dL_law_371 rfl (lv_at hl 18 rfl) ?_
          refine lv_iload hx hb dL_law_372 (lv_at hl 3 rfl) ?_
          refine q_callV (As := [.int (nI w)]) (rest := [.int (nI (d9 + m_cN g0 N w))]) ⟨hx, hb, hml, hown, hts⟩ (d_coughsIn l D cI ad N pa pe f0 f1 f2 f3 f4 g0 g1 g2 hR w hg) (cwV 1 hts gL_law_X0_coughsIn rfl rfl rfl kv_X0_coughsIn ⟨Nat.le_of_ble_eq_true rfl, Nat.le_of_ble_eq_true rfl⟩) (va_recv hK HT (ci := 0) (q0 := 0) rfl rfl) HT (hK.sub [0] rfl) rfl hl.1 rfl (Nat.le_of_ble_eq_true rfl) dL_law_374 (by show cells ≤ 600172; omega) (by show slots ≤ 7300668; omega) hS (fun H locs hsm hS => ?_)
          have hq := hq.tr hsm
          obtain ⟨-, HT, HP, -⟩ := hI.kept hq
          have h15 := z_kp h15 hsm
          have h16 := z_kp h16 hsm
          refine lv_iconst (v := 5) hx hb dL_law_377 (by decide) ?_
          refine lv_iadd hx hb dL_law_378 ?_
          rw [show nI (m_cN g0 N w) + 5 = nI (m_cN g0 N w + 5) from nI_add _ 5]
          refine lv_icmp_gt (tgt := 432) hx hb dL_law_379 (by decide) (fun c_379 => absurd c_379 (nI_nlt (by omega) (by omega))) (fun c_379 => ?_)
          refine lv_aload_n hx hb dL_law_382 rfl (lv_at hl 18 rfl) ?_
          refine lv_iload hx hb dL_law_383 (lv_at hl 3 rfl) ?_
          refine q_callV (As := [.int (nI w)]) (rest := []) ⟨hx, hb, hml, hown, hts⟩ (d_isTied l D cI ad N pa pe f0 f1 f2 f3 f4 g0 g1 g2 hR w hg) (cwV 1 hts gL_law_X0_isTied rfl rfl rfl kv_X0_isTied ⟨Nat.le_of_ble_eq_true rfl, Nat.le_of_ble_eq_true rfl⟩) (va_recv hK HT (ci := 0) (q0 := 0) rfl rfl) HT (hK.sub [0] rfl) rfl hl.1 rfl (Nat.le_of_ble_eq_true rfl) dL_law_385 (by show cells ≤ 600172; omega) (by show slots ≤ 7300668; omega) hS (fun H locs hsm hS => ?_)
          have hq := hq.tr hsm
          obtain ⟨-, HT, HP, -⟩ := hI.kept hq
          have h15 := z_kp h15 hsm
          have h16 := z_kp h16 hsm
          refine lv_if_eq (tgt := 400) hx hb dL_law_388 (by decide) (fun c_388 => ?_) (fun c_388 => ?_)
          · refine lv_aload_n hx hb dL_law_400 rfl (lv_at hl 18 rfl) ?_
            refine lv_iload hx hb dL_law_401 (lv_at hl 3 rfl) ?_
            refine q_callV (As := [.int (nI w)]) (rest := []) ⟨hx, hb, hml, hown, hts⟩ (d_costOfMending l D cI ad N pa pe f0 f1 f2 f3 f4 g0 g1 g2 hR w hg) (cwV 1 hts gL_law_X0_costOfMending rfl rfl rfl kv_X0_costOfMending ⟨Nat.le_of_ble_eq_true rfl, Nat.le_of_ble_eq_true rfl⟩) (va_recv hK HT (ci := 0) (q0 := 0) rfl rfl) HT (hK.sub [0] rfl) rfl hl.1 rfl (Nat.le_of_ble_eq_true rfl) dL_law_403 (by show cells ≤ 600172; omega) (by show slots ≤ 7300668; omega) hS (fun H locs hsm hS => ?_)
            have hq := hq.tr hsm
            obtain ⟨-, HT, HP, -⟩ := hI.kept hq
            have h15 := z_kp h15 hsm
            have h16 := z_kp h16 hsm
            rw [emd]
            suffices K_406 : ∀ v9 : Int32, v9 = bI (m_br g0 g1 g2 N w) → W p l e room_1 s m args below meth c H locs cells slots Q (F0 m 414 ls [.int v9]) from by
              refine lv_if_le (tgt := 413) hx hb dL_law_406 (by decide) (fun c_406 => ?_) (fun c_406 => ?_)
              · refine lv_iconst (v := 0) hx hb dL_law_413 (by decide) ?_
                exact K_406 _ (by rw [← hcb]; exact bI_df (fun q => by have h := (nI_le0 (by omega)).mp c_406; omega))
              · refine lv_iconst (v := 1) hx hb dL_law_409 (by decide) ?_
                refine lv_goto (tgt := 414) hx hb dL_law_410 (by decide) ?_
                exact K_406 _ (by rw [← hcb]; exact bI_dt (Nat.pos_of_ne_zero (fun e => c_406 ((nI_le0 (by omega)).mpr e))))
            intro v9 hv9
            rw [hv9]; clear hv9
            refine lv_aload hx hb dL_law_414 (lv_at hl 15 rfl) ?_
            refine lv_iload hx hb dL_law_416 (lv_at hl 3 rfl) ?_
            refine z_zald hx hb hK 2 rfl h16 w rfl (by omega) (by omega) dL_law_418 ?_
            rw [if_pos (Nat.lt_succ_self w)]
            refine lv_icmp_ne (tgt := 432) hx hb dL_law_419 (by decide) (fun c_419 => absurd rfl c_419) (fun c_419 => ?_)
            refine lv_aload_n hx hb dL_law_422 rfl (lv_at hl 18 rfl) ?_
            refine lv_iload hx hb dL_law_423 (lv_at hl 3 rfl) ?_
            refine q_callV (As := [.int (nI w)]) (rest := []) ⟨hx, hb, hml, hown, hts⟩ (d_costOfMending l D cI ad N pa pe f0 f1 f2 f3 f4 g0 g1 g2 hR w hg) (cwV 1 hts gL_law_X0_costOfMending rfl rfl rfl kv_X0_costOfMending ⟨Nat.le_of_ble_eq_true rfl, Nat.le_of_ble_eq_true rfl⟩) (va_recv hK HT (ci := 0) (q0 := 0) rfl rfl) HT (hK.sub [0] rfl) rfl hl.1 rfl (Nat.le_of_ble_eq_true rfl) dL_law_425 (by show cells ≤ 600172; omega) (by show slots ≤ 7300668; omega) hS (fun H locs hsm hS => ?_)
            have hq := hq.tr hsm
            obtain ⟨-, HT, HP, -⟩ := hI.kept hq
            have h15 := z_kp h15 hsm
            have h16 := z_kp h16 hsm
            rw [emd]
            refine lv_iconst (v := 3) hx hb dL_law_428 (by decide) ?_
            refine lv_icmp_le (tgt := 434) hx hb dL_law_429 (by decide) (fun c_429 => ?_) (fun c_429 => absurd (nI_le (b := 3) hc3 (by decide)) c_429)
            refine lv_iload hx hb dL_law_434 (lv_at hl 8 rfl) ?_
            refine lv_aload_n hx hb dL_law_436 rfl (lv_at hl 18 rfl) ?_
            refine lv_iload hx hb dL_law_437 (lv_at hl 3 rfl) ?_
            refine q_callV (As := [.int (nI w)]) (rest := [.int (nI (z_bt g0 N w))]) ⟨hx, hb, hml, hown, hts⟩ (d_coughsIn l D cI ad N pa pe f0 f1 f2 f3 f4 g0 g1 g2 hR w hg) (cwV 1 hts gL_law_X0_coughsIn rfl rfl rfl kv_X0_coughsIn ⟨Nat.le_of_ble_eq_true rfl, Nat.le_of_ble_eq_true rfl⟩) (va_recv hK HT (ci := 0) (q0 := 0) rfl rfl) HT (hK.sub [0] rfl) rfl hl.1 rfl (Nat.le_of_ble_eq_true rfl) dL_law_439 (by show cells ≤ 600172; omega) (by show slots ≤ 7300668; omega) hS (fun H locs hsm hS => ?_)
            have hq := hq.tr hsm
            obtain ⟨-, HT, HP, -⟩ := hI.kept hq
            have h15 := z_kp h15 hsm
            have h16 := z_kp h16 hsm
            refine lv_iadd hx hb dL_law_442 ?_
            refine lv_istore (lv' := [(10, .int (nI (z_bt g0 N w) + nI (m_cN g0 N w))), (19, .int ((bI (m_so g0 g2 N w) + bI (m_pol g0 g1 g2 N w)) + bI (m_br g0 g1 g2 N w))), (8, .int (nI (m_P g0 N w))), (18, .int (nI (m_P g0 N w))), (17, .int (nI w)), (14, .int (m_ss g0 N w)), (13, .int (m_ma g0 g1 g2 N w)), (12, .int (nI (ct (m_pol g0 g1 g2 N) w))), (11, .int (nI (m_th g0 g1 g2 N w))), (9, .int (nI (N - m_n g0 N))), (7, .int (nI (m_n g0 N - 1))), (6, .int (nI N)), (5, .int (nI (m_n g0 N))), (4, .int x), (15, .ref a15), (16, .ref a16), (3, .int (nI T)), (0, .ref b), (1, .ref (ad 0)), (2, .ref S)]) hx hb dL_law_443 hl (by decide) rfl (fun ls hl => ?_)
            refine lv_iload hx hb dL_law_445 (lv_at hl 8 rfl) ?_
            refine lv_aload hx hb dL_law_447 (lv_at hl 15 rfl) ?_
            refine lv_iload hx hb dL_law_449 (lv_at hl 4 rfl) ?_
            refine z_zald hx hb hK 2 rfl h16 w rfl (by omega) (by omega) dL_law_451 ?_
            rw [if_pos (Nat.lt_succ_self w)]
            suffices K_452 : ∀ v9 : Int32, v9 = bI (m_br g0 g1 g2 N w) → W p l e room_1 s m args below meth c H locs cells slots Q (F0 m 460 ls [.int v9, .int (nI (m_th g0 g1 g2 N w))]) from by
              refine lv_if_eq (tgt := 459) hx hb dL_law_452 (by decide) (fun c_452 => ?_) (fun c_452 => ?_)
              · refine lv_iconst (v := 0) hx hb dL_law_459 (by decide) ?_
                exact K_452 _ (by rw [bI_0.mp c_452]; rfl)
              · refine lv_iconst (v := 1) hx hb dL_law_455 (by decide) ?_
                refine lv_goto (tgt := 460) hx hb dL_law_456 (by decide) ?_
                exact K_452 _ (by rw [bI_n0.mp c_452]; rfl)
            intro v9 hv9
            rw [hv9]; clear hv9
            refine lv_iadd hx hb dL_law_460 ?_
            refine lv_istore (lv' := [(11, .int (nI (m_th g0 g1 g2 N w) + bI (m_br g0 g1 g2 N w))), (10, .int (nI (z_bt g0 N w) + nI (m_cN g0 N w))), (19, .int ((bI (m_so g0 g2 N w) + bI (m_pol g0 g1 g2 N w)) + bI (m_br g0 g1 g2 N w))), (8, .int (nI (m_P g0 N w))), (18, .int (nI (m_P g0 N w))), (17, .int (nI w)), (14, .int (m_ss g0 N w)), (13, .int (m_ma g0 g1 g2 N w)), (12, .int (nI (ct (m_pol g0 g1 g2 N) w))), (9, .int (nI (N - m_n g0 N))), (7, .int (nI (m_n g0 N - 1))), (6, .int (nI N)), (5, .int (nI (m_n g0 N))), (4, .int x), (15, .ref a15), (16, .ref a16), (3, .int (nI T)), (0, .ref b), (1, .ref (ad 0)), (2, .ref S)]) hx hb dL_law_461 hl (by decide) rfl (fun ls hl => ?_)
            refine lv_iload hx hb dL_law_463 (lv_at hl 8 rfl) ?_
            refine lv_aload_n hx hb dL_law_465 rfl (lv_at hl 18 rfl) ?_
            refine lv_iload hx hb dL_law_466 (lv_at hl 5 rfl) ?_
            refine q_callV (As := [.int (nI w)]) (rest := [.int (nI (ct (m_pol g0 g1 g2 N) w))]) ⟨hx, hb, hml, hown, hts⟩ (d_isPolite l D cI ad N pa pe f0 f1 f2 f3 f4 g0 g1 g2 hR w hg) (cwV 1 hts gL_law_X0_isPolite rfl rfl rfl kv_X0_isPolite ⟨Nat.le_of_ble_eq_true rfl, Nat.le_of_ble_eq_true rfl⟩) (va_recv hK HT (ci := 0) (q0 := 0) rfl rfl) HT (hK.sub [0] rfl) rfl hl.1 rfl (Nat.le_of_ble_eq_true rfl) dL_law_468 (by show cells ≤ 600172; omega) (by show slots ≤ 7300668; omega) hS (fun H locs hsm hS => ?_)
            have hq := hq.tr hsm
            obtain ⟨-, HT, HP, -⟩ := hI.kept hq
            have h15 := z_kp h15 hsm
            have h16 := z_kp h16 hsm
            suffices K_471 : ∀ v9 : Int32, v9 = bI (m_pol g0 g1 g2 N w) → W p l e room_1 s m args below meth c H locs cells slots Q (F0 m 479 ls [.int v9, .int (nI (ct (m_pol g0 g1 g2 N) w))]) from by
              refine lv_if_eq (tgt := 478) hx hb dL_law_471 (by decide) (fun c_471 => ?_) (fun c_471 => ?_)
              · refine lv_iconst (v := 0) hx hb dL_law_478 (by decide) ?_
                exact K_471 _ (by rw [bI_0.mp c_471]; rfl)
              · refine lv_iconst (v := 1) hx hb dL_law_474 (by decide) ?_
                refine lv_goto (tgt := 479) hx hb dL_law_475 (by decide) ?_
                exact K_471 _ (by rw [bI_n0.mp c_471]; rfl)
            intro v9 hv9
            rw [hv9]; clear hv9
            refine lv_iadd hx hb dL_law_479 ?_
            refine lv_istore (lv' := [(12, .int (nI (ct (m_pol g0 g1 g2 N) w) + bI (m_pol g0 g1 g2 N w))), (11, .int (nI (m_th g0 g1 g2 N w) + bI (m_br g0 g1 g2 N w))), (10, .int (nI (z_bt g0 N w) + nI (m_cN g0 N w))), (19, .int ((bI (m_so g0 g2 N w) + bI (m_pol g0 g1 g2 N w)) + bI (m_br g0 g1 g2 N w))), (8, .int (nI (m_P g0 N w))), (18, .int (nI (m_P g0 N w))), (17, .int (nI w)), (14, .int (m_ss g0 N w)), (13, .int (m_ma g0 g1 g2 N w)), (9, .int (nI (N - m_n g0 N))), (7, .int (nI (m_n g0 N - 1))), (6, .int (nI N)), (5, .int (nI (m_n g0 N))), (4, .int x), (15, .ref a15), (16, .ref a16), (3, .int (nI T)), (0, .ref b), (1, .ref (ad 0)), (2, .ref S)]) hx hb dL_law_480 hl (by decide) rfl (fun ls hl => ?_)
            refine lv_iload hx hb dL_law_482 (lv_at hl 8 rfl) ?_
            refine lv_aload_n hx hb dL_law_484 rfl (lv_at hl 18 rfl) ?_
            refine lv_iload hx hb dL_law_485 (lv_at hl 6 rfl) ?_
            refine q_callV (As := [.int (nI w)]) (rest := [.int (m_ma g0 g1 g2 N w)]) ⟨hx, hb, hml, hown, hts⟩ (d_costOfMending l D cI ad N pa pe f0 f1 f2 f3 f4 g0 g1 g2 hR w hg) (cwV 1 hts gL_law_X0_costOfMending rfl rfl rfl kv_X0_costOfMending ⟨Nat.le_of_ble_eq_true rfl, Nat.le_of_ble_eq_true rfl⟩) (va_recv hK HT (ci := 0) (q0 := 0) rfl rfl) HT (hK.sub [0] rfl) rfl hl.1 rfl (Nat.le_of_ble_eq_true rfl) dL_law_487 (by show cells ≤ 600172; omega) (by show slots ≤ 7300668; omega) hS (fun H locs hsm hS => ?_)
            have hq := hq.tr hsm
            obtain ⟨-, HT, HP, -⟩ := hI.kept hq
            have h15 := z_kp h15 hsm
            have h16 := z_kp h16 hsm
            refine lv_iadd hx hb dL_law_490 ?_
            refine lv_istore (lv' := [(13, .int (m_ma g0 g1 g2 N w + m_md g0 g1 g2 N w)), (12, .int (nI (ct (m_pol g0 g1 g2 N) w) + bI (m_pol g0 g1 g2 N w))), (11, .int (nI (m_th g0 g1 g2 N w) + bI (m_br g0 g1 g2 N w))), (10, .int (nI (z_bt g0 N w) + nI (m_cN g0 N w))), (19, .int ((bI (m_so g0 g2 N w) + bI (m_pol g0 g1 g2 N w)) + bI (m_br g0 g1 g2 N w))), (8, .int (nI (m_P g0 N w))), (18, .int (nI (m_P g0 N w))), (17, .int (nI w)), (14, .int (m_ss g0 N w)), (9, .int (nI (N - m_n g0 N))), (7, .int (nI (m_n g0 N - 1))), (6, .int (nI N)), (5, .int (nI (m_n g0 N))), (4, .int x), (15, .ref a15), (16, .ref a16), (3, .int (nI T)), (0, .ref b), (1, .ref (ad 0)), (2, .ref S)]) hx hb dL_law_491 hl (by decide) rfl (fun ls hl => ?_)
            refine lv_iload hx hb dL_law_493 (lv_at hl 8 rfl) ?_
            refine lv_aload hx hb dL_law_495 (lv_at hl 14 rfl) ?_
            refine lv_iload hx hb dL_law_497 (lv_at hl 7 rfl) ?_
            refine z_iald hx hb hK 0 rfl h15 w rfl (by omega) (by omega) dL_law_499 ?_
            rw [if_pos (Nat.lt_succ_self w)]
            refine lv_iadd hx hb dL_law_500 ?_
            refine lv_istore (lv' := [(14, .int (m_ss g0 N w + m_st g0 N w)), (13, .int (m_ma g0 g1 g2 N w + m_md g0 g1 g2 N w)), (12, .int (nI (ct (m_pol g0 g1 g2 N) w) + bI (m_pol g0 g1 g2 N w))), (11, .int (nI (m_th g0 g1 g2 N w) + bI (m_br g0 g1 g2 N w))), (10, .int (nI (z_bt g0 N w) + nI (m_cN g0 N w))), (19, .int ((bI (m_so g0 g2 N w) + bI (m_pol g0 g1 g2 N w)) + bI (m_br g0 g1 g2 N w))), (8, .int (nI (m_P g0 N w))), (18, .int (nI (m_P g0 N w))), (17, .int (nI w)), (9, .int (nI (N - m_n g0 N))), (7, .int (nI (m_n g0 N - 1))), (6, .int (nI N)), (5, .int (nI (m_n g0 N))), (4, .int x), (15, .ref a15), (16, .ref a16), (3, .int (nI T)), (0, .ref b), (1, .ref (ad 0)), (2, .ref S)]) hx hb dL_law_501 hl (by decide) rfl (fun ls hl => ?_)
            refine lv_iinc (v := (nI w + 1)) (lv' := [(17, .int (nI w + 1)), (14, .int (m_ss g0 N w + m_st g0 N w)), (13, .int (m_ma g0 g1 g2 N w + m_md g0 g1 g2 N w)), (12, .int (nI (ct (m_pol g0 g1 g2 N) w) + bI (m_pol g0 g1 g2 N w))), (11, .int (nI (m_th g0 g1 g2 N w) + bI (m_br g0 g1 g2 N w))), (10, .int (nI (z_bt g0 N w) + nI (m_cN g0 N w))), (19, .int ((bI (m_so g0 g2 N w) + bI (m_pol g0 g1 g2 N w)) + bI (m_br g0 g1 g2 N w))), (8, .int (nI (m_P g0 N w))), (18, .int (nI (m_P g0 N w))), (9, .int (nI (N - m_n g0 N))), (7, .int (nI (m_n g0 N - 1))), (6, .int (nI N)), (5, .int (nI (m_n g0 N))), (4, .int x), (15, .ref a15), (16, .ref a16), (3, .int (nI T)), (0, .ref b), (1, .ref (ad 0)), (2, .ref S)]) hx hb dL_law_503 hl (k := 8) rfl (by rfl) (by decide) rfl (fun ls hl => ?_)
            refine lv_goto (tgt := 177) hx hb dL_law_506 (by decide) ?_
            have e_17 : ((nI w + 1) : Int32) = nI (w + 1) := nI_1 w
            have e_12 : ((nI (ct (m_pol g0 g1 g2 N) w) + bI (m_pol g0 g1 g2 N w)) : Int32) = nI (ct (m_pol g0 g1 g2 N) (w + 1)) := bI_ct _ w
            have e_11 : ((nI (m_th g0 g1 g2 N w) + bI (m_br g0 g1 g2 N w)) : Int32) = nI (m_th g0 g1 g2 N (w + 1)) := bI_ct _ w
            have e_10 : ((nI (z_bt g0 N w) + nI (m_cN g0 N w)) : Int32) = nI (z_bt g0 N (w + 1)) := by rw [nI_add, bt_s hg]
            exact ih177 (w + 1) (by omega) (by omega) _ locs ls hq h15 h16 hS (lv_eq (lv_sub (l' := [(17, .int (nI w + 1)), (14, .int (m_ss g0 N (w + 1))), (13, .int (m_ma g0 g1 g2 N (w + 1))), (12, .int (nI (ct (m_pol g0 g1 g2 N) w) + bI (m_pol g0 g1 g2 N w))), (11, .int (nI (m_th g0 g1 g2 N w) + bI (m_br g0 g1 g2 N w))), (10, .int (nI (z_bt g0 N w) + nI (m_cN g0 N w))), (8, .int (z_at g0 N (w + 1))), (9, .int (nI (N - m_n g0 N))), (7, .int (nI (m_n g0 N - 1))), (6, .int (nI N)), (5, .int (nI (m_n g0 N))), (4, .int x), (15, .ref a15), (16, .ref a16), (3, .int (nI T)), (0, .ref b), (1, .ref (ad 0)), (2, .ref S)]) hl [0, 1, 2, 3, 4, 5, 7, 9, 10, 11, 12, 13, 14, 15, 16, 17, 18, 19] rfl) (by rw [e_12, e_11, e_10, e_17]))
          · refine lv_aload_n hx hb dL_law_391 rfl (lv_at hl 18 rfl) ?_
            refine lv_iload hx hb dL_law_392 (lv_at hl 3 rfl) ?_
            refine q_callV (As := [.int (nI w)]) (rest := []) ⟨hx, hb, hml, hown, hts⟩ (d_isSmooth l D cI ad N pa pe f0 f1 f2 f3 f4 g0 g1 g2 hR w hg) (cwV 1 hts gL_law_X0_isSmooth rfl rfl rfl kv_X0_isSmooth ⟨Nat.le_of_ble_eq_true rfl, Nat.le_of_ble_eq_true rfl⟩) (va_recv hK HT (ci := 0) (q0 := 0) rfl rfl) HT (hK.sub [0] rfl) rfl hl.1 rfl (Nat.le_of_ble_eq_true rfl) dL_law_394 (by show cells ≤ 600172; omega) (by show slots ≤ 7300668; omega) hS (fun H locs hsm hS => ?_)
            have hq := hq.tr hsm
            obtain ⟨-, HT, HP, -⟩ := hI.kept hq
            have h15 := z_kp h15 hsm
            have h16 := z_kp h16 hsm
            refine lv_if_eq (tgt := 432) hx hb dL_law_397 (by decide) (fun c_397 => absurd (bI_0.mp c_397) (by rw [m_ts1 (bI_n0.mp c_388)]; decide)) (fun c_397 => ?_)
            refine lv_aload_n hx hb dL_law_400 rfl (lv_at hl 18 rfl) ?_
            refine lv_iload hx hb dL_law_401 (lv_at hl 3 rfl) ?_
            refine q_callV (As := [.int (nI w)]) (rest := []) ⟨hx, hb, hml, hown, hts⟩ (d_costOfMending l D cI ad N pa pe f0 f1 f2 f3 f4 g0 g1 g2 hR w hg) (cwV 1 hts gL_law_X0_costOfMending rfl rfl rfl kv_X0_costOfMending ⟨Nat.le_of_ble_eq_true rfl, Nat.le_of_ble_eq_true rfl⟩) (va_recv hK HT (ci := 0) (q0 := 0) rfl rfl) HT (hK.sub [0] rfl) rfl hl.1 rfl (Nat.le_of_ble_eq_true rfl) dL_law_403 (by show cells ≤ 600172; omega) (by show slots ≤ 7300668; omega) hS (fun H locs hsm hS => ?_)
            have hq := hq.tr hsm
            obtain ⟨-, HT, HP, -⟩ := hI.kept hq
            have h15 := z_kp h15 hsm
            have h16 := z_kp h16 hsm
            rw [emd]
            suffices K_406 : ∀ v9 : Int32, v9 = bI (m_br g0 g1 g2 N w) → W p l e room_1 s m args below meth c H locs cells slots Q (F0 m 414 ls [.int v9]) from by
              refine lv_if_le (tgt := 413) hx hb dL_law_406 (by decide) (fun c_406 => ?_) (fun c_406 => ?_)
              · refine lv_iconst (v := 0) hx hb dL_law_413 (by decide) ?_
                exact K_406 _ (by rw [← hcb]; exact bI_df (fun q => by have h := (nI_le0 (by omega)).mp c_406; omega))
              · refine lv_iconst (v := 1) hx hb dL_law_409 (by decide) ?_
                refine lv_goto (tgt := 414) hx hb dL_law_410 (by decide) ?_
                exact K_406 _ (by rw [← hcb]; exact bI_dt (Nat.pos_of_ne_zero (fun e => c_406 ((nI_le0 (by omega)).mpr e))))
            intro v9 hv9
            rw [hv9]; clear hv9
            refine lv_aload hx hb dL_law_414 (lv_at hl 15 rfl) ?_
            refine lv_iload hx hb dL_law_416 (lv_at hl 3 rfl) ?_
            refine z_zald hx hb hK 2 rfl h16 w rfl (by omega) (by omega) dL_law_418 ?_
            rw [if_pos (Nat.lt_succ_self w)]
            refine lv_icmp_ne (tgt := 432) hx hb dL_law_419 (by decide) (fun c_419 => absurd rfl c_419) (fun c_419 => ?_)
            refine lv_aload_n hx hb dL_law_422 rfl (lv_at hl 18 rfl) ?_
            refine lv_iload hx hb dL_law_423 (lv_at hl 3 rfl) ?_
            refine q_callV (As := [.int (nI w)]) (rest := []) ⟨hx, hb, hml, hown, hts⟩ (d_costOfMending l D cI ad N pa pe f0 f1 f2 f3 f4 g0 g1 g2 hR w hg) (cwV 1 hts gL_law_X0_costOfMending rfl rfl rfl kv_X0_costOfMending ⟨Nat.le_of_ble_eq_true rfl, Nat.le_of_ble_eq_true rfl⟩) (va_recv hK HT (ci := 0) (q0 := 0) rfl rfl) HT (hK.sub [0] rfl) rfl hl.1 rfl (Nat.le_of_ble_eq_true rfl) dL_law_425 (by show cells ≤ 600172; omega) (by show slots ≤ 7300668; omega) hS (fun H locs hsm hS => ?_)
            have hq := hq.tr hsm
            obtain ⟨-, HT, HP, -⟩ := hI.kept hq
            have h15 := z_kp h15 hsm
            have h16 := z_kp h16 hsm
            rw [emd]
            refine lv_iconst (v := 3) hx hb dL_law_428 (by decide) ?_
            refine lv_icmp_le (tgt := 434) hx hb dL_law_429 (by decide) (fun c_429 => ?_) (fun c_429 => absurd (nI_le (b := 3) hc3 (by decide)) c_429)
            refine lv_iload hx hb dL_law_434 (lv_at hl 8 rfl) ?_
            refine lv_aload_n hx hb dL_law_436 rfl (lv_at hl 18 rfl) ?_
            refine lv_iload hx hb dL_law_437 (lv_at hl 3 rfl) ?_
            refine q_callV (As := [.int (nI w)]) (rest := [.int (nI (z_bt g0 N w))]) ⟨hx, hb, hml, hown, hts⟩ (d_coughsIn l D cI ad N pa pe f0 f1 f2 f3 f4 g0 g1 g2 hR w hg) (cwV 1 hts gL_law_X0_coughsIn rfl rfl rfl kv_X0_coughsIn ⟨Nat.le_of_ble_eq_true rfl, Nat.le_of_ble_eq_true rfl⟩) (va_recv hK HT (ci := 0) (q0 := 0) rfl rfl) HT (hK.sub [0] rfl) rfl hl.1 rfl (Nat.le_of_ble_eq_true rfl) dL_law_439 (by show cells ≤ 600172; omega) (by show slots ≤ 7300668; omega) hS (fun H locs hsm hS => ?_)
            have hq := hq.tr hsm
            obtain ⟨-, HT, HP, -⟩ := hI.kept hq
            have h15 := z_kp h15 hsm
            have h16 := z_kp h16 hsm
            refine lv_iadd hx hb dL_law_442 ?_
            refine lv_istore (lv' := [(10, .int (nI (z_bt g0 N w) + nI (m_cN g0 N w))), (19, .int ((bI (m_so g0 g2 N w) + bI (m_pol g0 g1 g2 N w)) + bI (m_br g0 g1 g2 N w))), (8, .int (nI (m_P g0 N w))), (18, .int (nI (m_P g0 N w))), (17, .int (nI w)), (14, .int (m_ss g0 N w)), (13, .int (m_ma g0 g1 g2 N w)), (12, .int (nI (ct (m_pol g0 g1 g2 N) w))), (11, .int (nI (m_th g0 g1 g2 N w))), (9, .int (nI (N - m_n g0 N))), (7, .int (nI (m_n g0 N - 1))), (6, .int (nI N)), (5, .int (nI (m_n g0 N))), (4, .int x), (15, .ref a15), (16, .ref a16), (3, .int (nI T)), (0, .ref b), (1, .ref (ad 0)), (2, .ref S)]) hx hb dL_law_443 hl (by decide) rfl (fun ls hl => ?_)
            refine lv_iload hx hb dL_law_445 (lv_at hl 8 rfl) ?_
            refine lv_aload hx hb dL_law_447 (lv_at hl 15 rfl) ?_
            refine lv_iload hx hb dL_law_449 (lv_at hl 4 rfl) ?_
            refine z_zald hx hb hK 2 rfl h16 w rfl (by omega) (by omega) dL_law_451 ?_
            rw [if_pos (Nat.lt_succ_self w)]
            suffices K_452 : ∀ v9 : Int32, v9 = bI (m_br g0 g1 g2 N w) → W p l e room_1 s m args below meth c H locs cells slots Q (F0 m 460 ls [.int v9, .int (nI (m_th g0 g1 g2 N w))]) from by
              refine lv_if_eq (tgt := 459) hx hb dL_law_452 (by decide) (fun c_452 => ?_) (fun c_452 => ?_)
              · refine lv_iconst (v := 0) hx hb dL_law_459 (by decide) ?_
                exact K_452 _ (by rw [bI_0.mp c_452]; rfl)
              · refine lv_iconst (v := 1) hx hb dL_law_455 (by decide) ?_
                refine lv_goto (tgt := 460) hx hb dL_law_456 (by decide) ?_
                exact K_452 _ (by rw [bI_n0.mp c_452]; rfl)
            intro v9 hv9
            rw [hv9]; clear hv9
            refine lv_iadd hx hb dL_law_460 ?_
            refine lv_istore (lv' := [(11, .int (nI (m_th g0 g1 g2 N w) + bI (m_br g0 g1 g2 N w))), (10, .int (nI (z_bt g0 N w) + nI (m_cN g0 N w))), (19, .int ((bI (m_so g0 g2 N w) + bI (m_pol g0 g1 g2 N w)) + bI (m_br g0 g1 g2 N w))), (8, .int (nI (m_P g0 N w))), (18, .int (nI (m_P g0 N w))), (17, .int (nI w)), (14, .int (m_ss g0 N w)), (13, .int (m_ma g0 g1 g2 N w)), (12, .int (nI (ct (m_pol g0 g1 g2 N) w))), (9, .int (nI (N - m_n g0 N))), (7, .int (nI (m_n g0 N - 1))), (6, .int (nI N)), (5, .int (nI (m_n g0 N))), (4, .int x), (15, .ref a15), (16, .ref a16), (3, .int (nI T)), (0, .ref b), (1, .ref (ad 0)), (2, .ref S)]) hx hb dL_law_461 hl (by decide) rfl (fun ls hl => ?_)
            refine lv_iload hx hb dL_law_463 (lv_at hl 8 rfl) ?_
            refine lv_aload_n hx hb dL_law_465 rfl (lv_at hl 18 rfl) ?_
            refine lv_iload hx hb dL_law_466 (lv_at hl 5 rfl) ?_
            refine q_callV (As := [.int (nI w)]) (rest := [.int (nI (ct (m_pol g0 g1 g2 N) w))]) ⟨hx, hb, hml, hown, hts⟩ (d_isPolite l D cI ad N pa pe f0 f1 f2 f3 f4 g0 g1 g2 hR w hg) (cwV 1 hts gL_law_X0_isPolite rfl rfl rfl kv_X0_isPolite ⟨Nat.le_of_ble_eq_true rfl, Nat.le_of_ble_eq_true rfl⟩) (va_recv hK HT (ci := 0) (q0 := 0) rfl rfl) HT (hK.sub [0] rfl) rfl hl.1 rfl (Nat.le_of_ble_eq_true rfl) dL_law_468 (by show cells ≤ 600172; omega) (by show slots ≤ 7300668; omega) hS (fun H locs hsm hS => ?_)
            have hq := hq.tr hsm
            obtain ⟨-, HT, HP, -⟩ := hI.kept hq
            have h15 := z_kp h15 hsm
            have h16 := z_kp h16 hsm
            suffices K_471 : ∀ v9 : Int32, v9 = bI (m_pol g0 g1 g2 N w) → W p l e room_1 s m args below meth c H locs cells slots Q (F0 m 479 ls [.int v9, .int (nI (ct (m_pol g0 g1 g2 N) w))]) from by
              refine lv_if_eq (tgt := 478) hx hb dL_law_471 (by decide) (fun c_471 => ?_) (fun c_471 => ?_)
              · refine lv_iconst (v := 0) hx hb dL_law_478 (by decide) ?_
                exact K_471 _ (by rw [bI_0.mp c_471]; rfl)
              · refine lv_iconst (v := 1) hx hb dL_law_474 (by decide) ?_
                refine lv_goto (tgt := 479) hx hb dL_law_475 (by decide) ?_
                exact K_471 _ (by rw [bI_n0.mp c_471]; rfl)
            intro v9 hv9
            rw [hv9]; clear hv9
            refine lv_iadd hx hb dL_law_479 ?_
            refine lv_istore (lv' := [(12, .int (nI (ct (m_pol g0 g1 g2 N) w) + bI (m_pol g0 g1 g2 N w))), (11, .int (nI (m_th g0 g1 g2 N w) + bI (m_br g0 g1 g2 N w))), (10, .int (nI (z_bt g0 N w) + nI (m_cN g0 N w))), (19, .int ((bI (m_so g0 g2 N w) + bI (m_pol g0 g1 g2 N w)) + bI (m_br g0 g1 g2 N w))), (8, .int (nI (m_P g0 N w))), (18, .int (nI (m_P g0 N w))), (17, .int (nI w)), (14, .int (m_ss g0 N w)), (13, .int (m_ma g0 g1 g2 N w)), (9, .int (nI (N - m_n g0 N))), (7, .int (nI (m_n g0 N - 1))), (6, .int (nI N)), (5, .int (nI (m_n g0 N))), (4, .int x), (15, .ref a15), (16, .ref a16), (3, .int (nI T)), (0, .ref b), (1, .ref (ad 0)), (2, .ref S)]) hx hb dL_law_480 hl (by decide) rfl (fun ls hl => ?_)
            refine lv_iload hx hb dL_law_482 (lv_at hl 8 rfl) ?_
            refine lv_aload_n hx hb dL_law_484 rfl (lv_at hl 18 rfl) ?_
            refine lv_iload hx hb dL_law_485 (lv_at hl 6 rfl) ?_
            refine q_callV (As := [.int (nI w)]) (rest := [.int (m_ma g0 g1 g2 N w)]) ⟨hx, hb, hml, hown, hts⟩ (d_costOfMending l D cI ad N pa pe f0 f1 f2 f3 f4 g0 g1 g2 hR w hg) (cwV 1 hts gL_law_X0_costOfMending rfl rfl rfl kv_X0_costOfMending ⟨Nat.le_of_ble_eq_true rfl, Nat.le_of_ble_eq_true rfl⟩) (va_recv hK HT (ci := 0) (q0 := 0) rfl rfl) HT (hK.sub [0] rfl) rfl hl.1 rfl (Nat.le_of_ble_eq_true rfl) dL_law_487 (by show cells ≤ 600172; omega) (by show slots ≤ 7300668; omega) hS (fun H locs hsm hS => ?_)
            have hq := hq.tr hsm
            obtain ⟨-, HT, HP, -⟩ := hI.kept hq
            have h15 := z_kp h15 hsm
            have h16 := z_kp h16 hsm
            refine lv_iadd hx hb dL_law_490 ?_
            refine lv_istore (lv' := [(13, .int (m_ma g0 g1 g2 N w + m_md g0 g1 g2 N w)), (12, .int (nI (ct (m_pol g0 g1 g2 N) w) + bI (m_pol g0 g1 g2 N w))), (11, .int (nI (m_th g0 g1 g2 N w) + bI (m_br g0 g1 g2 N w))), (10, .int (nI (z_bt g0 N w) + nI (m_cN g0 N w))), (19, .int ((bI (m_so g0 g2 N w) + bI (m_pol g0 g1 g2 N w)) + bI (m_br g0 g1 g2 N w))), (8, .int (nI (m_P g0 N w))), (18, .int (nI (m_P g0 N w))), (17, .int (nI w)), (14, .int (m_ss g0 N w)), (9, .int (nI (N - m_n g0 N))), (7, .int (nI (m_n g0 N - 1))), (6, .int (nI N)), (5, .int (nI (m_n g0 N))), (4, .int x), (15, .ref a15), (16, .ref a16), (3, .int (nI T)), (0, .ref b), (1, .ref (ad 0)), (2, .ref S)]) hx hb dL_law_491 hl (by decide) rfl (fun ls hl => ?_)
            refine lv_iload hx hb dL_law_493 (lv_at hl 8 rfl) ?_
            refine lv_aload hx hb dL_law_495 (lv_at hl 14 rfl) ?_
            refine lv_iload hx hb dL_law_497 (lv_at hl 7 rfl) ?_
            refine z_iald hx hb hK 0 rfl h15 w rfl (by omega) (by omega) dL_law_499 ?_
            rw [if_pos (Nat.lt_succ_self w)]
            refine lv_iadd hx hb dL_law_500 ?_
            refine lv_istore (lv' := [(14, .int (m_ss g0 N w + m_st g0 N w)), (13, .int (m_ma g0 g1 g2 N w + m_md g0 g1 g2 N w)), (12, .int (nI (ct (m_pol g0 g1 g2 N) w) + bI (m_pol g0 g1 g2 N w))), (11, .int (nI (m_th g0 g1 g2 N w) + bI (m_br g0 g1 g2 N w))), (10, .int (nI (z_bt g0 N w) + nI (m_cN g0 N w))), (19, .int ((bI (m_so g0 g2 N w) + bI (m_pol g0 g1 g2 N w)) + bI (m_br g0 g1 g2 N w))), (8, .int (nI (m_P g0 N w))), (18, .int (nI (m_P g0 N w))), (17, .int (nI w)), (9, .int (nI (N - m_n g0 N))), (7, .int (nI (m_n g0 N - 1))), (6, .int (nI N)), (5, .int (nI (m_n g0 N))), (4, .int x), (15, .ref a15), (16, .ref a16), (3, .int (nI T)), (0, .ref b), (1, .ref (ad 0)), (2, .ref S)]) hx hb dL_law_501 hl (by decide) rfl (fun ls hl => ?_)
            refine lv_iinc (v := (nI w + 1)) (lv' := [(17, .int (nI w + 1)), (14, .int (m_ss g0 N w + m_st g0 N w)), (13, .int (m_ma g0 g1 g2 N w + m_md g0 g1 g2 N w)), (12, .int (nI (ct (m_pol g0 g1 g2 N) w) + bI (m_pol g0 g1 g2 N w))), (11, .int (nI (m_th g0 g1 g2 N w) + bI (m_br g0 g1 g2 N w))), (10, .int (nI (z_bt g0 N w) + nI (m_cN g0 N w))), (19, .int ((bI (m_so g0 g2 N w) + bI (m_pol g0 g1 g2 N w)) + bI (m_br g0 g1 g2 N w))), (8, .int (nI (m_P g0 N w))), (18, .int (nI (m_P g0 N w))), (9, .int (nI (N - m_n g0 N))), (7, .int (nI (m_n g0 N - 1))), (6, .int (nI N)), (5, .int (nI (m_n g0 N))), (4, .int x), (15, .ref a15), (16, .ref a16), (3, .int (nI T)), (0, .ref b), (1, .ref (ad 0)), (2, .ref S)]) hx hb dL_law_503 hl (k := 8) rfl (by rfl) (by decide) rfl (fun ls hl => ?_)
            refine lv_goto (tgt := 177) hx hb dL_law_506 (by decide) ?_
            have e_17 : ((nI w + 1) : Int32) = nI (w + 1) := nI_1 w
            have e_12 : ((nI (ct (m_pol g0 g1 g2 N) w) + bI (m_pol g0 g1 g2 N w)) : Int32) = nI (ct (m_pol g0 g1 g2 N) (w + 1)) := bI_ct _ w
            have e_11 : ((nI (m_th g0 g1 g2 N w) + bI (m_br g0 g1 g2 N w)) : Int32) = nI (m_th g0 g1 g2 N (w + 1)) := bI_ct _ w
            have e_10 : ((nI (z_bt g0 N w) + nI (m_cN g0 N w)) : Int32) = nI (z_bt g0 N (w + 1)) := by rw [nI_add, bt_s hg]
            exact ih177 (w + 1) (by omega) (by omega) _ locs ls hq h15 h16 hS (lv_eq (lv_sub (l' := [(17, .int (nI w + 1)), (14, .int (m_ss g0 N (w + 1))), (13, .int (m_ma g0 g1 g2 N (w + 1))), (12, .int (nI (ct (m_pol g0 g1 g2 N) w) + bI (m_pol g0 g1 g2 N w))), (11, .int (nI (m_th g0 g1 g2 N w) + bI (m_br g0 g1 g2 N w))), (10, .int (nI (z_bt g0 N w) + nI (m_cN g0 N w))), (8, .int (z_at g0 N (w + 1))), (9, .int (nI (N - m_n g0 N))), (7, .int (nI (m_n g0 N - 1))), (6, .int (nI N)), (5, .int (nI (m_n g0 N))), (4, .int x), (15, .ref a15), (16, .ref a16), (3, .int (nI T)), (0, .ref b), (1, .ref (ad 0)), (2, .ref S)]) hl [0, 1, 2, 3, 4, 5, 7, 9, 10, 11, 12, 13, 14, 15, 16, 17, 18, 19] rfl) (by rw [e_12, e_11, e_10, e_17]))
        · have hwn : w = (m_n g0 N - 1) := (nI_eq (by omega) (by omega)).mp c_251
          refine lv_goto (tgt := 509) hx hb dL_law_254 (by decide) ?_
          rw [hwn] at hl h15 h16
          exact law_509 hC hI hb0 hcl hsl hx15 hx16 K H locs ls hq h15 h16 hS (lv_sub hl [3, 4, 5, 6, 7, 8, 10, 12, 11, 9, 13, 14, 15, 16, 17, 18] rfl)
  have e_10 : (0 : Int32) = nI (z_bt g0 N 0) := show (0 : Int32) = nI (z_bt g0 N 0) by unfold z_bt; simp [nI]
  exact lo_177 ((m_n g0 N - 1) + 1) 0 (by omega) (by omega) _ locs ls hq h15 h16 hS (lv_eq (lv_sub (l' := [(17, .int (nI 0)), (14, .int (m_ss g0 N 0)), (13, .int (m_ma g0 g1 g2 N 0)), (12, .int (nI (ct (m_pol g0 g1 g2 N) 0))), (11, .int (nI (m_th g0 g1 g2 N 0))), (10, .int 0), (8, .int (z_at g0 N 0)), (9, .int (nI (N - m_n g0 N))), (7, .int (nI (m_n g0 N - 1))), (6, .int (nI N)), (5, .int (nI (m_n g0 N))), (4, .int x), (15, .ref a15), (16, .ref a16), (3, .int (nI T)), (0, .ref b), (1, .ref (ad 0)), (2, .ref S)]) hl [0, 1, 2, 3, 4, 5, 7, 6, 8, 9, 10, 11, 12, 13, 14, 15, 16, 17] rfl) (by rw [e_10]))

set_option maxHeartbeats 4000000 in
set_option maxRecDepth 100000 in
theorem law_147 {p : Program} {l : Launch} {e : Env} {s : State} {m : MethodId} {args : Array Value} {below : List Frame} {meth : Method} {c : Code} {Q : State → Prop} {b L : Nat} {xs : Nat → Int32} {Hb : Heap} {D : va_G} {cI cA cZ : ClassId} {ad : Nat → Nat} {S q0 N pa T cells slots : Nat} {pe : Int32} {f0 f1 f2 f3 f4 g0 g1 g2 : Nat → Int32} {O : Nat} {r : Nat → Nat} {x : Int32} (hC : lC p s m c args b L xs D cI cA cZ ad q0) (hI : lS D cI cA ad S q0 N pa pe f0 f1 f2 f3 f4 g0 g1 g2 O r Hb) (hb0 : s.heap.size ≤ Hb.size) (hcl : cells + 10 ≤ 600172) (hsl : slots + 120 ≤ 7300668)  (K : lK p l e s m args below meth c b D cI cA ad S q0 T (cells + 2) (slots + 46) Q) : ∀ (H : Heap) (locs : List Loc) (ls : Array Slot), q_same Hb H → va_S (lA s) s.heap H locs → lv_has ls 26 [(9, .int (nI (N - m_n g0 N))), (8, .int (-1)), (7, .int (nI (m_n g0 N - 1))), (6, .int (nI N)), (5, .int (nI (m_n g0 N))), (4, .int x), (3, .int (nI T)), (0, .ref b), (1, .ref (ad 0)), (2, .ref S)] → W p l e room_1 s m args below meth c H locs cells slots Q (F0 m 147 ls []) := by
  intro H locs ls hq  hS hl
  obtain ⟨hx, hb, hml, hts, hown, hK, hO, htX, hta, hq0, hXs, hbl, hL⟩ := id hC
  have hR := hI.1
  have hpa := hI.2.2.2.2
  obtain ⟨-, HT, HP, hX, -⟩ := hI.kept hq
  have hin : ∀ w ∈ wsX10, w ∈ wsL_law := inlX1
  have hN24 := hR.1.n
  have hm9 := m_n_le g0 N
  have hw := hR.1.ok
  have htn := tn_le (N := N) (g0 := g0) (g1 := g1) (g2 := g2)
  have hA9 : ∀ q : Nat, s.heap.size ≤ q → lA s q := fun q h => h
  refine lv_iconst (v := 0) hx hb dL_law_147 (by decide) ?_
  refine lv_istore (lv' := [(10, .int 0), (9, .int (nI (N - m_n g0 N))), (8, .int (-1)), (7, .int (nI (m_n g0 N - 1))), (6, .int (nI N)), (5, .int (nI (m_n g0 N))), (4, .int x), (3, .int (nI T)), (0, .ref b), (1, .ref (ad 0)), (2, .ref S)]) hx hb dL_law_148 hl (by decide) rfl (fun ls hl => ?_)
  refine lv_iconst (v := 0) hx hb dL_law_150 (by decide) ?_
  refine lv_istore (lv' := [(11, .int 0), (10, .int 0), (9, .int (nI (N - m_n g0 N))), (8, .int (-1)), (7, .int (nI (m_n g0 N - 1))), (6, .int (nI N)), (5, .int (nI (m_n g0 N))), (4, .int x), (3, .int (nI T)), (0, .ref b), (1, .ref (ad 0)), (2, .ref S)]) hx hb dL_law_151 hl (by decide) rfl (fun ls hl => ?_)
  refine lv_iconst (v := 0) hx hb dL_law_153 (by decide) ?_
  refine lv_istore (lv' := [(12, .int 0), (11, .int 0), (10, .int 0), (9, .int (nI (N - m_n g0 N))), (8, .int (-1)), (7, .int (nI (m_n g0 N - 1))), (6, .int (nI N)), (5, .int (nI (m_n g0 N))), (4, .int x), (3, .int (nI T)), (0, .ref b), (1, .ref (ad 0)), (2, .ref S)]) hx hb dL_law_154 hl (by decide) rfl (fun ls hl => ?_)
  refine lv_iconst (v := 0) hx hb dL_law_156 (by decide) ?_
  refine lv_istore (lv' := [(13, .int 0), (12, .int 0), (11, .int 0), (10, .int 0), (9, .int (nI (N - m_n g0 N))), (8, .int (-1)), (7, .int (nI (m_n g0 N - 1))), (6, .int (nI N)), (5, .int (nI (m_n g0 N))), (4, .int x), (3, .int (nI T)), (0, .ref b), (1, .ref (ad 0)), (2, .ref S)]) hx hb dL_law_157 hl (by decide) rfl (fun ls hl => ?_)
  refine lv_iconst (v := 0) hx hb dL_law_159 (by decide) ?_
  refine lv_istore (lv' := [(14, .int 0), (13, .int 0), (12, .int 0), (11, .int 0), (10, .int 0), (9, .int (nI (N - m_n g0 N))), (8, .int (-1)), (7, .int (nI (m_n g0 N - 1))), (6, .int (nI N)), (5, .int (nI (m_n g0 N))), (4, .int x), (3, .int (nI T)), (0, .ref b), (1, .ref (ad 0)), (2, .ref S)]) hx hb dL_law_160 hl (by decide) rfl (fun ls hl => ?_)
  refine lv_iload hx hb dL_law_162 (lv_at hl 7 rfl) ?_
  refine z_newi hx hb (hts (.arrayClass .int) (by decide +kernel)) hK 0 rfl hS (n := m_n g0 N - 1) rfl (by omega) (by show cells + 1 ≤ 600172; omega) (by show slots + (m_n g0 N - 1) ≤ 7300668; omega) dL_law_164 (fun a15 H ha15 h15 hqr hS => ?_)
  have hx15 : Hb.size ≤ a15 := by rw [ha15]; exact hq.1
  have hx15b := z_lt h15
  have hq := hq.tr hqr
  refine lv_astore (lv' := [(15, .ref a15), (14, .int 0), (13, .int 0), (12, .int 0), (11, .int 0), (10, .int 0), (9, .int (nI (N - m_n g0 N))), (8, .int (-1)), (7, .int (nI (m_n g0 N - 1))), (6, .int (nI N)), (5, .int (nI (m_n g0 N))), (4, .int x), (3, .int (nI T)), (0, .ref b), (1, .ref (ad 0)), (2, .ref S)]) hx hb dL_law_166 hl (by decide) rfl (fun ls hl => ?_)
  refine lv_iload hx hb dL_law_168 (lv_at hl 8 rfl) ?_
  refine z_newz hx hb (hts (.arrayClass .boolean) (by decide +kernel)) hK 2 rfl hS (n := m_n g0 N - 1) rfl (by omega) (by show cells + 1 + 1 ≤ 600172; omega) (by show slots + (m_n g0 N - 1) + (m_n g0 N - 1) ≤ 7300668; omega) dL_law_170 (fun a16 H ha16 h16 hqr hS => ?_)
  have hx16 : a15 < a16 := by rw [ha16]; exact hx15b
  have h15 := z_kp h15 hqr
  have hq := hq.tr hqr
  refine lv_astore (lv' := [(16, .ref a16), (15, .ref a15), (14, .int 0), (13, .int 0), (12, .int 0), (11, .int 0), (10, .int 0), (9, .int (nI (N - m_n g0 N))), (8, .int (-1)), (7, .int (nI (m_n g0 N - 1))), (6, .int (nI N)), (5, .int (nI (m_n g0 N))), (4, .int x), (3, .int (nI T)), (0, .ref b), (1, .ref (ad 0)), (2, .ref S)]) hx hb dL_law_172 hl (by decide) rfl (fun ls hl => ?_)
  refine W.widen (k := cells + 2) (n := slots + 46) (by omega) (by omega) ?_
  exact law_174 hC hI hb0 (by omega) (by omega) hx15 hx16 K H locs ls hq (aI.cg h15 fun k _ => (if_neg (Nat.not_lt_zero k)).symm) (aI.cg h16 fun k _ => (if_neg (Nat.not_lt_zero k)).symm) hS (lv_sub hl [2, 3, 4, 5, 6, 7, 8, 9, 10, 11, 12, 1, 0, 13, 14, 15, 16] rfl)

set_option maxHeartbeats 4000000 in
set_option maxRecDepth 100000 in
theorem law_85 {p : Program} {l : Launch} {e : Env} {s : State} {m : MethodId} {args : Array Value} {below : List Frame} {meth : Method} {c : Code} {Q : State → Prop} {b L : Nat} {xs : Nat → Int32} {Hb : Heap} {D : va_G} {cI cA cZ : ClassId} {ad : Nat → Nat} {S q0 N pa T cells slots : Nat} {pe : Int32} {f0 f1 f2 f3 f4 g0 g1 g2 : Nat → Int32} {O : Nat} {r : Nat → Nat} {x : Int32} (hC : lC p s m c args b L xs D cI cA cZ ad q0) (hI : lS D cI cA ad S q0 N pa pe f0 f1 f2 f3 f4 g0 g1 g2 O r Hb) (hb0 : s.heap.size ≤ Hb.size) (hcl : cells + 10 ≤ 600172) (hsl : slots + 120 ≤ 7300668)  (K : lK p l e s m args below meth c b D cI cA ad S q0 T (cells + 2) (slots + 46) Q) : ∀ (H : Heap) (locs : List Loc) (ls : Array Slot), q_same Hb H → va_S (lA s) s.heap H locs → lv_has ls 26 [(7, .int (nI (m_n g0 N - 1))), (6, .int (nI N)), (5, .int (nI (m_n g0 N))), (4, .int x), (3, .int (nI T)), (0, .ref b), (1, .ref (ad 0)), (2, .ref S)] → W p l e room_1 s m args below meth c H locs cells slots Q (F0 m 85 ls []) := by
  intro H locs ls hq  hS hl
  obtain ⟨hx, hb, hml, hts, hown, hK, hO, htX, hta, hq0, hXs, hbl, hL⟩ := id hC
  have hR := hI.1
  have hpa := hI.2.2.2.2
  obtain ⟨-, HT, HP, hX, -⟩ := hI.kept hq
  have hin : ∀ w ∈ wsX10, w ∈ wsL_law := inlX1
  have hN24 := hR.1.n
  have hm9 := m_n_le g0 N
  have hw := hR.1.ok
  have htn := tn_le (N := N) (g0 := g0) (g1 := g1) (g2 := g2)
  have hA9 : ∀ q : Nat, s.heap.size ≤ q → lA s q := fun q h => h
  refine lv_iconst (v := -1) hx hb dL_law_85 (by decide) ?_
  refine lv_istore (lv' := [(8, .int (-1)), (7, .int (nI (m_n g0 N - 1))), (6, .int (nI N)), (5, .int (nI (m_n g0 N))), (4, .int x), (3, .int (nI T)), (0, .ref b), (1, .ref (ad 0)), (2, .ref S)]) hx hb dL_law_86 hl (by decide) rfl (fun ls hl => ?_)
  refine lv_iconst (v := 0) hx hb dL_law_88 (by decide) ?_
  refine lv_istore (lv' := [(9, .int 0), (8, .int (-1)), (7, .int (nI (m_n g0 N - 1))), (6, .int (nI N)), (5, .int (nI (m_n g0 N))), (4, .int x), (3, .int (nI T)), (0, .ref b), (1, .ref (ad 0)), (2, .ref S)]) hx hb dL_law_89 hl (by decide) rfl (fun ls hl => ?_)
  refine lv_iconst (v := 0) hx hb dL_law_91 (by decide) ?_
  refine lv_istore (lv' := [(10, .int 0), (9, .int 0), (8, .int (-1)), (7, .int (nI (m_n g0 N - 1))), (6, .int (nI N)), (5, .int (nI (m_n g0 N))), (4, .int x), (3, .int (nI T)), (0, .ref b), (1, .ref (ad 0)), (2, .ref S)]) hx hb dL_law_92 hl (by decide) rfl (fun ls hl => ?_)
  have lo_94 : ∀ (fu94 k : Nat), N - k < fu94 → k ≤ N → ∀ (H : Heap) (locs : List Loc) (ls : Array Slot), q_same Hb H → va_S (lA s) s.heap H locs → lv_has ls 26 [(10, .int (nI k)), (9, .int (nI (ct (fun j => !m_wd g0 j) k))), (8, .int (-1)), (7, .int (nI (m_n g0 N - 1))), (6, .int (nI N)), (5, .int (nI (m_n g0 N))), (4, .int x), (3, .int (nI T)), (0, .ref b), (1, .ref (ad 0)), (2, .ref S)] → W p l e room_1 s m args below meth c H locs cells slots Q (F0 m 94 ls []) := by
    intro fu94
    induction fu94 with
    | zero => intro k hi; exact absurd hi (Nat.not_lt_zero _)
    | succ fu94 ih94 =>
      intro k hi94 hkN H locs ls hq hS hl
      refine lv_iload hx hb dL_law_94 (lv_at hl 0 rfl) ?_
      obtain ⟨-, HT, HP, -⟩ := hI.kept hq
      refine lv_iload hx hb dL_law_96 (lv_at hl 4 rfl) ?_
      refine lv_icmp_ge (tgt := 147) hx hb dL_law_98 (by decide) (fun c_98 => ?_) (fun c_98 => ?_)
      · have hi9 : k = N := nI_ge' hkN (by omega) c_98
        have ecn := ct_not (m_wd g0) N
        rw [hi9, show ct (fun j => !m_wd g0 j) N = N - m_n g0 N by unfold m_n; omega] at hl
        exact law_147 hC hI hb0 hcl hsl K H locs ls hq  hS (lv_sub hl [1, 2, 3, 4, 5, 6, 7, 8, 9, 10] rfl)
      · have hk9 : k < N := nI_lt' hkN (by omega) c_98
        obtain ⟨v, hv6, ev⟩ := hR.2.2 k hk9
        refine lv_iload hx hb dL_law_101 (lv_at hl 1 rfl) ?_
        refine lv_aload_n hx hb dL_law_103 rfl (lv_at hl 9 rfl) ?_
        refine lv_iload hx hb dL_law_104 (lv_at hl 0 rfl) ?_
        refine q_callV (As := [.int (nI k)]) (rest := [.int (nI (ct (fun j => !m_wd g0 j) k))]) ⟨hx, hb, hml, hown, hts⟩ (d_isCough l D cI ad N pa pe f0 f1 f2 f3 f4 g0 g1 g2 hR k hk9) (cwV 1 hts gL_law_X0_isCough rfl rfl rfl kv_X0_isCough ⟨Nat.le_of_ble_eq_true rfl, Nat.le_of_ble_eq_true rfl⟩) (va_recv hK HT (ci := 0) (q0 := 0) rfl rfl) HT (hK.sub [0] rfl) rfl hl.1 rfl (Nat.le_of_ble_eq_true rfl) dL_law_106 (by show cells ≤ 600172; omega) (by show slots ≤ 7300668; omega) hS (fun H locs hsm hS => ?_)
        have hq := hq.tr hsm
        obtain ⟨-, HT, HP, -⟩ := hI.kept hq
        suffices K_109 : ∀ v9 : Int32, v9 = bI (!m_wd g0 k) → W p l e room_1 s m args below meth c H locs cells slots Q (F0 m 117 ls [.int v9, .int (nI (ct (fun j => !m_wd g0 j) k))]) from by
          refine lv_if_eq (tgt := 116) hx hb dL_law_109 (by decide) (fun c_109 => ?_) (fun c_109 => ?_)
          · refine lv_iconst (v := 0) hx hb dL_law_116 (by decide) ?_
            exact K_109 _ (by rw [bI_0.mp c_109]; rfl)
          · refine lv_iconst (v := 1) hx hb dL_law_112 (by decide) ?_
            refine lv_goto (tgt := 117) hx hb dL_law_113 (by decide) ?_
            exact K_109 _ (by rw [bI_n0.mp c_109]; rfl)
        intro v9 hv9
        rw [hv9]; clear hv9
        refine lv_iadd hx hb dL_law_117 ?_
        refine lv_istore (lv' := [(9, .int (nI (ct (fun j => !m_wd g0 j) k) + bI (!m_wd g0 k))), (10, .int (nI k)), (8, .int (-1)), (7, .int (nI (m_n g0 N - 1))), (6, .int (nI N)), (5, .int (nI (m_n g0 N))), (4, .int x), (3, .int (nI T)), (0, .ref b), (1, .ref (ad 0)), (2, .ref S)]) hx hb dL_law_118 hl (by decide) rfl (fun ls hl => ?_)
        refine lv_aload_n hx hb dL_law_120 rfl (lv_at hl 9 rfl) ?_
        refine lv_iload hx hb dL_law_121 (lv_at hl 1 rfl) ?_
        refine q_callV (As := [.int (nI k)]) (rest := []) ⟨hx, hb, hml, hown, hts⟩ (d_speakerAt l D cI ad N pa pe f0 f1 f2 f3 f4 g0 g1 g2 hR k hk9) (cwV 1 hts gL_law_X0_speakerAt rfl rfl rfl kv_X0_speakerAt ⟨Nat.le_of_ble_eq_true rfl, Nat.le_of_ble_eq_true rfl⟩) (va_recv hK HT (ci := 0) (q0 := 0) rfl rfl) HT (hK.sub [0] rfl) rfl hl.1 rfl (Nat.le_of_ble_eq_true rfl) dL_law_123 (by show cells ≤ 600172; omega) (by show slots ≤ 7300668; omega) hS (fun H locs hsm hS => ?_)
        have hq := hq.tr hsm
        obtain ⟨-, HT, HP, -⟩ := hI.kept hq
        rw [ev]
        refine lv_if_lt (tgt := 139) hx hb dL_law_126 (by decide) (fun c_126 => absurd c_126 (nI_pos (by omega))) (fun c_126 => ?_)
        refine lv_aload_n hx hb dL_law_129 rfl (lv_at hl 9 rfl) ?_
        refine lv_iload hx hb dL_law_130 (lv_at hl 1 rfl) ?_
        refine q_callV (As := [.int (nI k)]) (rest := []) ⟨hx, hb, hml, hown, hts⟩ (d_speakerAt l D cI ad N pa pe f0 f1 f2 f3 f4 g0 g1 g2 hR k hk9) (cwV 1 hts gL_law_X0_speakerAt rfl rfl rfl kv_X0_speakerAt ⟨Nat.le_of_ble_eq_true rfl, Nat.le_of_ble_eq_true rfl⟩) (va_recv hK HT (ci := 0) (q0 := 0) rfl rfl) HT (hK.sub [0] rfl) rfl hl.1 rfl (Nat.le_of_ble_eq_true rfl) dL_law_132 (by show cells ≤ 600172; omega) (by show slots ≤ 7300668; omega) hS (fun H locs hsm hS => ?_)
        have hq := hq.tr hsm
        obtain ⟨-, HT, HP, -⟩ := hI.kept hq
        rw [ev]
        refine lv_iconst (v := 5) hx hb dL_law_135 (by decide) ?_
        refine lv_icmp_le (tgt := 141) hx hb dL_law_136 (by decide) (fun c_136 => ?_) (fun c_136 => absurd (nI_le (b := 5) (by omega) (by decide)) c_136)
        refine lv_iinc (v := (nI k + 1)) (lv' := [(10, .int (nI k + 1)), (9, .int (nI (ct (fun j => !m_wd g0 j) k) + bI (!m_wd g0 k))), (8, .int (-1)), (7, .int (nI (m_n g0 N - 1))), (6, .int (nI N)), (5, .int (nI (m_n g0 N))), (4, .int x), (3, .int (nI T)), (0, .ref b), (1, .ref (ad 0)), (2, .ref S)]) hx hb dL_law_141 hl (k := 1) rfl (by rfl) (by decide) rfl (fun ls hl => ?_)
        refine lv_goto (tgt := 94) hx hb dL_law_144 (by decide) ?_
        have e_10 : ((nI k + 1) : Int32) = nI (k + 1) := nI_1 k
        have e_9 : ((nI (ct (fun j => !m_wd g0 j) k) + bI (!m_wd g0 k)) : Int32) = nI (ct (fun j => !m_wd g0 j) (k + 1)) := bI_ct (fun j => !m_wd g0 j) k
        exact ih94 (k + 1) (by omega) (by omega) _ locs ls hq hS (lv_eq (lv_sub (l' := [(10, .int (nI k + 1)), (9, .int (nI (ct (fun j => !m_wd g0 j) k) + bI (!m_wd g0 k))), (8, .int (-1)), (7, .int (nI (m_n g0 N - 1))), (6, .int (nI N)), (5, .int (nI (m_n g0 N))), (4, .int x), (3, .int (nI T)), (0, .ref b), (1, .ref (ad 0)), (2, .ref S)]) hl [0, 1, 2, 3, 4, 5, 6, 7, 8, 9, 10] rfl) (by rw [e_9, e_10]))
  exact lo_94 (N + 1) 0 (by omega) (by omega) _ locs ls hq hS (lv_sub hl [0, 1, 2, 3, 4, 5, 6, 7, 8, 9, 10] rfl)
