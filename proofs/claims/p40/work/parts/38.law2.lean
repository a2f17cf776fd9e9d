/-! own rows: the law's checks -/
set_option maxHeartbeats 4000000 in
set_option maxRecDepth 100000 in
theorem law_692 {p : Program} {l : Launch} {e : Env} {s : State} {m : MethodId} {args : Array Value} {below : List Frame} {meth : Method} {c : Code} {Q : State → Prop} {b L : Nat} {xs : Nat → Int32} {Hb : Heap} {D : va_G} {cI cA cZ : ClassId} {ad : Nat → Nat} {S q0 N pa T cells slots : Nat} {pe : Int32} {f0 f1 f2 f3 f4 g0 g1 g2 : Nat → Int32} {O : Nat} {r : Nat → Nat} {a15 a16 : Nat} {x : Int32} (hC : lC p s m c args b L xs D cI cA cZ ad q0) (hI : lS D cI cA ad S q0 N pa pe f0 f1 f2 f3 f4 g0 g1 g2 O r Hb) (hb0 : s.heap.size ≤ Hb.size) (hcl : cells + 4 ≤ 600172) (hsl : slots + 60 ≤ 7300668) (hx15 : Hb.size ≤ a15) (hx16 : a15 < a16) (K : lK p l e s m args below meth c b D cI cA ad S q0 T cells slots Q) : ∀ (H : Heap) (locs : List Loc) (ls : Array Slot), q_same Hb H → aI cI (m_n g0 N - 1) (fun k => if k < (m_n g0 N - 1) then m_st g0 N k else 0) a15 H → aI cZ (m_n g0 N - 1) (fun k => if k < (m_n g0 N - 1) then bI (m_br g0 g1 g2 N k) else 0) a16 H → va_S (lA s) s.heap H locs → lv_has ls 26 [(21, .int (nI (sm (fun v => pcn (m_ts g0 g1 g2 N (nI v) (m_n g0 N))) 6))), (20, .int (nI (m_n g0 N))), (19, .int (nI (z_mo g0 g1 g2 N (m_tn g0 g1 g2 N)))), (18, .int (nI (m_n g0 N))), (17, .int (nI (m_tn g0 g1 g2 N))), (14, .int (m_ss g0 N (m_n g0 N - 1))), (13, .int (m_ma g0 g1 g2 N (m_n g0 N - 1))), (12, .int (nI (ct (m_pol g0 g1 g2 N) (m_n g0 N - 1)))), (11, .int (nI (m_th g0 g1 g2 N (m_n g0 N - 1)))), (10, .int (nI (z_bt g0 N (m_n g0 N - 1)))), (9, .int (nI (N - m_n g0 N))), (6, .int (nI N)), (4, .int x), (5, .int (nI (m_n g0 N))), (7, .int (nI (m_n g0 N - 1))), (15, .ref a15), (16, .ref a16), (3, .int (nI T)), (0, .ref b), (1, .ref (ad 0)), (2, .ref S)] → W p l e room_1 s m args below meth c H locs cells slots Q (F0 m 692 ls []) := by
  intro H locs ls hq h15 h16 hS hl
  obtain ⟨hx, hb, hml, hts, hown, hK, hO, htX, hta, hq0, hXs, hbl, hL⟩ := id hC
  have hR := hI.1
  have hpa := hI.2.2.2.2
  obtain ⟨-, HT, HP, hX, -⟩ := hI.kept hq
  have hin : ∀ w ∈ wsX10, w ∈ wsL_law := inlX1
  have hN24 := hR.1.n
  have hm9 := m_n_le g0 N
  have hw := hR.1.ok
  have htn := tn_le (N := N) (g0 := g0) (g1 := g1) (g2 := g2)
  have hA9 : ∀ q : Nat, s.heap.size ≤ q → lA s q := fun q h => h
  have h6 : sm (fun v => pcn (m_ts g0 g1 g2 N (nI v) (m_n g0 N))) 6 < 2 ^ 31 := Nat.lt_of_le_of_lt (sm_le (fun v _ => Nat.le_trans (ts_le hN24 v (m_n g0 N) (by omega)) (ct_le _ _)) (g := fun _ => m_n g0 N)) (by show 0 + m_n g0 N + m_n g0 N + m_n g0 N + m_n g0 N + m_n g0 N + m_n g0 N < 2 ^ 31; omega)
  refine lv_iload hx hb dL_law_692 (lv_at hl 10 rfl) ?_
  refine lv_iload hx hb dL_law_694 (lv_at hl 13 rfl) ?_
  refine lv_iadd hx hb dL_law_696 ?_
  rw [nI_add, Nat.sub_add_cancel hm9]
  refine lv_iload hx hb dL_law_697 (lv_at hl 11 rfl) ?_
  refine lv_icmp_ne (tgt := 870) hx hb dL_law_699 (by decide) (fun c_699 => absurd rfl c_699) (fun c_699 => ?_)
  refine lv_iload hx hb dL_law_702 (lv_at hl 10 rfl) ?_
  refine lv_aload_n hx hb dL_law_704 rfl (lv_at hl 19 rfl) ?_
  refine q_callV (As := []) (rest := [.int (nI (N - m_n g0 N))]) ⟨hx, hb, hml, hown, hts⟩ (d_coughs l D cI ad N pa pe f0 f1 f2 f3 f4 g0 g1 g2 hR) (cwV 0 hts gL_law_X0_coughs rfl rfl rfl kv_X0_coughs ⟨Nat.le_of_ble_eq_true rfl, Nat.le_of_ble_eq_true rfl⟩) (va_recv hK HT (ci := 0) (q0 := 0) rfl rfl) HT (hK.sub [0] rfl) rfl hl.1 rfl (Nat.le_of_ble_eq_true rfl) dL_law_705 (by show cells ≤ 600172; omega) (by show slots ≤ 7300668; omega) hS (fun H locs hsm hS => ?_)
  have hq := hq.tr hsm
  obtain ⟨-, HT, HP, -⟩ := hI.kept hq
  have h15 := z_kp h15 hsm
  have h16 := z_kp h16 hsm
  refine lv_icmp_ne (tgt := 870) hx hb dL_law_708 (by decide) (fun c_708 => absurd rfl c_708) (fun c_708 => ?_)
  refine lv_iload hx hb dL_law_711 (lv_at hl 9 rfl) ?_
  refine lv_iload hx hb dL_law_713 (lv_at hl 10 rfl) ?_
  refine lv_icmp_gt (tgt := 870) hx hb dL_law_715 (by decide) (fun c_715 => absurd c_715 (nI_nlt bt_le (by omega))) (fun c_715 => ?_)
  refine lv_iload hx hb dL_law_718 (lv_at hl 8 rfl) ?_
  refine lv_aload_n hx hb dL_law_720 rfl (lv_at hl 19 rfl) ?_
  refine q_callV (As := []) (rest := [.int (nI (m_th g0 g1 g2 N (m_n g0 N - 1)))]) ⟨hx, hb, hml, hown, hts⟩ (d_brokenGaps l D cI ad N pa pe f0 f1 f2 f3 f4 g0 g1 g2 hR) (cwV 0 hts gL_law_X0_brokenGaps rfl rfl rfl kv_X0_brokenGaps ⟨Nat.le_of_ble_eq_true rfl, Nat.le_of_ble_eq_true rfl⟩) (va_recv hK HT (ci := 0) (q0 := 0) rfl rfl) HT (hK.sub [0] rfl) rfl hl.1 rfl (Nat.le_of_ble_eq_true rfl) dL_law_721 (by show cells ≤ 600172; omega) (by show slots ≤ 7300668; omega) hS (fun H locs hsm hS => ?_)
  have hq := hq.tr hsm
  obtain ⟨-, HT, HP, -⟩ := hI.kept hq
  have h15 := z_kp h15 hsm
  have h16 := z_kp h16 hsm
  refine lv_icmp_ne (tgt := 870) hx hb dL_law_724 (by decide) (fun c_724 => absurd rfl c_724) (fun c_724 => ?_)
  refine lv_iload hx hb dL_law_727 (lv_at hl 7 rfl) ?_
  refine lv_aload_n hx hb dL_law_729 rfl (lv_at hl 19 rfl) ?_
  refine q_callV (As := []) (rest := [.int (nI (ct (m_pol g0 g1 g2 N) (m_n g0 N - 1)))]) ⟨hx, hb, hml, hown, hts⟩ (d_politeGaps l D cI ad N pa pe f0 f1 f2 f3 f4 g0 g1 g2 hR) (cwV 0 hts gL_law_X0_politeGaps rfl rfl rfl kv_X0_politeGaps ⟨Nat.le_of_ble_eq_true rfl, Nat.le_of_ble_eq_true rfl⟩) (va_recv hK HT (ci := 0) (q0 := 0) rfl rfl) HT (hK.sub [0] rfl) rfl hl.1 rfl (Nat.le_of_ble_eq_true rfl) dL_law_730 (by show cells ≤ 600172; omega) (by show slots ≤ 7300668; omega) hS (fun H locs hsm hS => ?_)
  have hq := hq.tr hsm
  obtain ⟨-, HT, HP, -⟩ := hI.kept hq
  have h15 := z_kp h15 hsm
  have h16 := z_kp h16 hsm
  refine lv_icmp_ne (tgt := 870) hx hb dL_law_733 (by decide) (fun c_733 => absurd rfl c_733) (fun c_733 => ?_)
  refine lv_iload hx hb dL_law_736 (lv_at hl 6 rfl) ?_
  refine lv_aload_n hx hb dL_law_738 rfl (lv_at hl 19 rfl) ?_
  refine q_callV (As := []) (rest := [.int (m_ma g0 g1 g2 N (m_n g0 N - 1))]) ⟨hx, hb, hml, hown, hts⟩ (d_costOfAll l D cI ad N pa pe f0 f1 f2 f3 f4 g0 g1 g2 hR) (cwV 0 hts gL_law_X0_costOfAll rfl rfl rfl kv_X0_costOfAll ⟨Nat.le_of_ble_eq_true rfl, Nat.le_of_ble_eq_true rfl⟩) (va_recv hK HT (ci := 0) (q0 := 0) rfl rfl) HT (hK.sub [0] rfl) rfl hl.1 rfl (Nat.le_of_ble_eq_true rfl) dL_law_739 (by show cells ≤ 600172; omega) (by show slots ≤ 7300668; omega) hS (fun H locs hsm hS => ?_)
  have hq := hq.tr hsm
  obtain ⟨-, HT, HP, -⟩ := hI.kept hq
  have h15 := z_kp h15 hsm
  have h16 := z_kp h16 hsm
  refine lv_icmp_ne (tgt := 870) hx hb dL_law_742 (by decide) (fun c_742 => absurd rfl c_742) (fun c_742 => ?_)
  refine lv_iload hx hb dL_law_745 (lv_at hl 4 rfl) ?_
  refine lv_iload hx hb dL_law_747 (lv_at hl 13 rfl) ?_
  suffices K_749 : ∀ v9 : Int32, v9 = nI (m_tn g0 g1 g2 N) → W p l e room_1 s m args below meth c H locs cells slots Q (F0 m 760 ls [.int v9, .int (nI (m_tn g0 g1 g2 N))]) from by
    refine lv_if_ne (tgt := 756) hx hb dL_law_749 (by decide) (fun c_749 => ?_) (fun c_749 => ?_)
    · refine lv_iload hx hb dL_law_756 (lv_at hl 8 rfl) ?_
      refine lv_iconst (v := 1) hx hb dL_law_758 (by decide) ?_
      refine lv_iadd hx hb dL_law_759 ?_
      exact K_749 _ (by rw [nI_1]; unfold m_tn; rw [if_neg (fun e => c_749 (by rw [e]; rfl))]; rfl)
    · refine lv_iconst (v := 0) hx hb dL_law_752 (by decide) ?_
      refine lv_goto (tgt := 760) hx hb dL_law_753 (by decide) ?_
      exact K_749 _ (by unfold m_tn; rw [if_pos (nI_z (by omega) c_749)]; rfl)
  intro v9 hv9
  rw [hv9]; clear hv9
  refine lv_icmp_ne (tgt := 870) hx hb dL_law_760 (by decide) (fun c_760 => absurd rfl c_760) (fun c_760 => ?_)
  refine lv_iload hx hb dL_law_763 (lv_at hl 3 rfl) ?_
  refine lv_iload hx hb dL_law_765 (lv_at hl 13 rfl) ?_
  refine lv_icmp_ne (tgt := 870) hx hb dL_law_767 (by decide) (fun c_767 => absurd rfl c_767) (fun c_767 => ?_)
  refine lv_iload hx hb dL_law_770 (lv_at hl 1 rfl) ?_
  refine lv_iload hx hb dL_law_772 (lv_at hl 13 rfl) ?_
  refine lv_icmp_ne (tgt := 870) hx hb dL_law_774 (by decide) (fun c_774 => absurd rfl c_774) (fun c_774 => ?_)
  refine lv_iload hx hb dL_law_777 (lv_at hl 0 rfl) ?_
  refine lv_iload hx hb dL_law_779 (lv_at hl 4 rfl) ?_
  refine lv_icmp_lt (tgt := 870) hx hb dL_law_781 (by decide) (fun c_781 => absurd c_781 (nI_nlt (ts_all hN24 hR.2.2) h6)) (fun c_781 => ?_)
  refine lv_aload_n hx hb dL_law_784 rfl (lv_at hl 19 rfl) ?_
  refine q_callV (As := []) (rest := []) ⟨hx, hb, hml, hown, hts⟩ (d_longestThread l D cI ad N pa pe f0 f1 f2 f3 f4 g0 g1 g2 hR) (cwV 0 hts gL_law_X0_longestThread rfl rfl rfl kv_X0_longestThread ⟨Nat.le_of_ble_eq_true rfl, Nat.le_of_ble_eq_true rfl⟩) (va_recv hK HT (ci := 0) (q0 := 0) rfl rfl) HT (hK.sub [0] rfl) rfl hl.1 rfl (Nat.le_of_ble_eq_true rfl) dL_law_785 (by show cells ≤ 600172; omega) (by show slots ≤ 7300668; omega) hS (fun H locs hsm hS => ?_)
  have hq := hq.tr hsm
  obtain ⟨-, HT, HP, -⟩ := hI.kept hq
  have h15 := z_kp h15 hsm
  have h16 := z_kp h16 hsm
  refine lv_iconst (v := -1) hx hb dL_law_788 (by decide) ?_
  refine lv_icmp_eq (tgt := 805) hx hb dL_law_789 (by decide) (fun c_789 => ?_) (fun c_789 => ?_)
  · refine lv_aload_n hx hb dL_law_805 rfl (lv_at hl 19 rfl) ?_
    refine q_callV (As := []) (rest := []) ⟨hx, hb, hml, hown, hts⟩ (d_longestThread l D cI ad N pa pe f0 f1 f2 f3 f4 g0 g1 g2 hR) (cwV 0 hts gL_law_X0_longestThread rfl rfl rfl kv_X0_longestThread ⟨Nat.le_of_ble_eq_true rfl, Nat.le_of_ble_eq_true rfl⟩) (va_recv hK HT (ci := 0) (q0 := 0) rfl rfl) HT (hK.sub [0] rfl) rfl hl.1 rfl (Nat.le_of_ble_eq_true rfl) dL_law_806 (by show cells ≤ 600172; omega) (by show slots ≤ 7300668; omega) hS (fun H locs hsm hS => ?_)
    have hq := hq.tr hsm
    obtain ⟨-, HT, HP, -⟩ := hI.kept hq
    have h15 := z_kp h15 hsm
    have h16 := z_kp h16 hsm
    suffices K_809 : ∀ v9 : Int32, v9 = bI (decide (m_n g0 N = 0)) → W p l e room_1 s m args below meth c H locs cells slots Q (F0 m 817 ls [.int v9]) from by
      refine lv_if_ge (tgt := 816) hx hb dL_law_809 (by decide) (fun c_809 => ?_) (fun c_809 => ?_)
      · refine lv_iconst (v := 0) hx hb dL_law_816 (by decide) ?_
        exact K_809 _ (bI_df (fun e => by have := (lg_neg (g1 := g1) (g2 := g2) hN24).mpr e; exact absurd this (Int32.not_lt.mpr c_809)))
      · refine lv_iconst (v := 1) hx hb dL_law_812 (by decide) ?_
        refine lv_goto (tgt := 817) hx hb dL_law_813 (by decide) ?_
        exact K_809 _ (bI_dt ((lg_neg (g1 := g1) (g2 := g2) hN24).mp (Int32.not_le.mp c_809)))
    intro v9 hv9
    rw [hv9]; clear hv9
    refine lv_iload hx hb dL_law_817 (lv_at hl 13 rfl) ?_
    suffices K_819 : ∀ v9 : Int32, v9 = bI (decide (m_n g0 N = 0)) → W p l e room_1 s m args below meth c H locs cells slots Q (F0 m 827 ls [.int v9, .int (bI (decide (m_n g0 N = 0)))]) from by
      refine lv_if_ne (tgt := 826) hx hb dL_law_819 (by decide) (fun c_819 => ?_) (fun c_819 => ?_)
      · refine lv_iconst (v := 0) hx hb dL_law_826 (by decide) ?_
        exact K_819 _ (bI_df (fun e => c_819 (by rw [e]; rfl)))
      · refine lv_iconst (v := 1) hx hb dL_law_822 (by decide) ?_
        refine lv_goto (tgt := 827) hx hb dL_law_823 (by decide) ?_
        exact K_819 _ (bI_dt (nI_z (by omega) c_819))
    intro v9 hv9
    rw [hv9]; clear hv9
    refine lv_icmp_ne (tgt := 870) hx hb dL_law_827 (by decide) (fun c_827 => absurd rfl c_827) (fun c_827 => ?_)
    refine lv_aload_n hx hb dL_law_830 rfl (lv_at hl 19 rfl) ?_
    refine q_callVF (As := []) (rest := []) ⟨hx, hb, hml, hown, hts⟩ (d_meanStrain l D cI ad N pa pe f0 f1 f2 f3 f4 g0 g1 g2 hR) (cwV 0 hts gL_law_X0_meanStrain rfl rfl rfl kv_X0_meanStrain ⟨Nat.le_of_ble_eq_true rfl, Nat.le_of_ble_eq_true rfl⟩) (va_recv hK HT (ci := 0) (q0 := 0) rfl rfl) HT (hK.sub [0] rfl) rfl hl.1 rfl (Nat.le_of_ble_eq_true rfl) dL_law_831 (by show cells ≤ 600172; omega) (by show slots ≤ 7300668; omega) hS (fun H locs hsm hS => ?_)
    have hq := hq.tr hsm
    obtain ⟨-, HT, HP, -⟩ := hI.kept hq
    have h15 := z_kp h15 hsm
    have h16 := z_kp h16 hsm
    refine lv_iload hx hb dL_law_834 (lv_at hl 14 rfl) ?_
    suffices K_836 : ∀ v9 : UInt64, v9 = (m_ms g0 N) → W p l e room_1 s m args below meth c H locs cells slots Q (F0 m 850 ls [.double v9, .double (m_ms g0 N)]) from by
      refine lv_if_ne (tgt := 843) hx hb dL_law_836 (by decide) (fun c_836 => ?_) (fun c_836 => ?_)
      · have h836 : ¬ m_n g0 N - 1 = 0 := fun e => c_836 (by rw [e]; rfl)
        refine lv_iload hx hb dL_law_843 (lv_at hl 5 rfl) ?_
        refine lv_i2d hx hb dL_law_845 ?_
        refine lv_iload hx hb dL_law_846 (lv_at hl 14 rfl) ?_
        refine lv_i2d hx hb dL_law_848 ?_
        refine lv_ddiv hx hb dL_law_849 (hR.1.hnn h836) ?_
        exact K_836 _ (by unfold m_ms; rw [if_neg h836])
      · have h836 : m_n g0 N - 1 = 0 := nI_z (by omega) c_836
        refine lv_dconst0 hx hb dL_law_839 ?_
        refine lv_goto (tgt := 850) hx hb dL_law_840 (by decide) ?_
        exact K_836 _ (by unfold m_ms; rw [if_pos h836])
    intro v9 hv9
    rw [hv9]; clear hv9
    refine lv_dcmp hx hb dL_law_850 ?_
    rw [m_ms_c hR.1]
    refine W.eq (g2 := F0 m 851 ls [.int 0]) rfl ?_
    refine lv_if_ne (tgt := 870) hx hb dL_law_851 (by decide) (fun h9 => absurd (by decide) h9) (fun _ => ?_)
    refine lv_aload_n hx hb dL_law_854 rfl (lv_at hl 19 rfl) ?_
    refine q_callV (As := []) (rest := []) ⟨hx, hb, hml, hown, hts⟩ (d_patience l D cI ad N pa pe f0 f1 f2 f3 f4 g0 g1 g2 hR) (cwV 0 hts gL_law_X0_patience rfl rfl rfl kv_X0_patience ⟨Nat.le_of_ble_eq_true rfl, Nat.le_of_ble_eq_true rfl⟩) (va_recv hK HT (ci := 0) (q0 := 0) rfl rfl) HT (hK.sub [0] rfl) rfl hl.1 rfl (Nat.le_of_ble_eq_true rfl) dL_law_855 (by show cells ≤ 600172; omega) (by show slots ≤ 7300668; omega) hS (fun H locs hsm hS => ?_)
    have hq := hq.tr hsm
    obtain ⟨-, HT, HP, -⟩ := hI.kept hq
    have h15 := z_kp h15 hsm
    have h16 := z_kp h16 hsm
    refine lv_if_lt (tgt := 870) hx hb dL_law_858 (by decide) (fun c_858 => absurd c_858 (nI_pos (by omega))) (fun c_858 => ?_)
    refine lv_aload_n hx hb dL_law_861 rfl (lv_at hl 19 rfl) ?_
    refine q_callV (As := []) (rest := []) ⟨hx, hb, hml, hown, hts⟩ (d_patience l D cI ad N pa pe f0 f1 f2 f3 f4 g0 g1 g2 hR) (cwV 0 hts gL_law_X0_patience rfl rfl rfl kv_X0_patience ⟨Nat.le_of_ble_eq_true rfl, Nat.le_of_ble_eq_true rfl⟩) (va_recv hK HT (ci := 0) (q0 := 0) rfl rfl) HT (hK.sub [0] rfl) rfl hl.1 rfl (Nat.le_of_ble_eq_true rfl) dL_law_862 (by show cells ≤ 600172; omega) (by show slots ≤ 7300668; omega) hS (fun H locs hsm hS => ?_)
    have hq := hq.tr hsm
    obtain ⟨-, HT, HP, -⟩ := hI.kept hq
    have h15 := z_kp h15 hsm
    have h16 := z_kp h16 hsm
    refine lv_bipush (v := 99) hx hb dL_law_865 (by decide) ?_
    refine lv_icmp_le (tgt := 872) hx hb dL_law_867 (by decide) (fun c_867 => ?_) (fun c_867 => absurd (nI_le (b := 99) hpa (by decide)) c_867)
    exact law_872 hC hI hb0 hcl hsl hx15 hx16 K H locs ls hq h15 h16 hS (lv_sub hl [11, 12, 13, 14, 15, 16, 17, 18, 19, 20] rfl)
  · have hn0 : 0 < m_tn g0 g1 g2 N := Nat.pos_of_ne_zero (fun e => c_789 (by rw [e]; rfl))
    obtain ⟨j, hj, ej⟩ := m_lg_b g0 g1 g2 N (m_tn g0 g1 g2 N) (by omega) hn0
    have emo : z_mo g0 g1 g2 N (m_tn g0 g1 g2 N) = m_ln g0 g1 g2 N (nI j) := by
      unfold z_mo
      rw [if_neg (by omega), ej]
    refine lv_aload_n hx hb dL_law_792 rfl (lv_at hl 19 rfl) ?_
    refine lv_aload_n hx hb dL_law_793 rfl (lv_at hl 19 rfl) ?_
    refine q_callV (As := []) (rest := [.ref (ad 0)]) ⟨hx, hb, hml, hown, hts⟩ (d_longestThread l D cI ad N pa pe f0 f1 f2 f3 f4 g0 g1 g2 hR) (cwV 0 hts gL_law_X0_longestThread rfl rfl rfl kv_X0_longestThread ⟨Nat.le_of_ble_eq_true rfl, Nat.le_of_ble_eq_true rfl⟩) (va_recv hK HT (ci := 0) (q0 := 0) rfl rfl) HT (hK.sub [0] rfl) rfl hl.1 rfl (Nat.le_of_ble_eq_true rfl) dL_law_794 (by show cells ≤ 600172; omega) (by show slots ≤ 7300668; omega) hS (fun H locs hsm hS => ?_)
    have hq := hq.tr hsm
    obtain ⟨-, HT, HP, -⟩ := hI.kept hq
    have h15 := z_kp h15 hsm
    have h16 := z_kp h16 hsm
    rw [ej]
    refine q_callV (As := [.int (nI j)]) (rest := []) ⟨hx, hb, hml, hown, hts⟩ (d_lengthOf l D cI ad N pa pe f0 f1 f2 f3 f4 g0 g1 g2 hR j hj) (cwV 1 hts gL_law_X0_lengthOf rfl rfl rfl kv_X0_lengthOf ⟨Nat.le_of_ble_eq_true rfl, Nat.le_of_ble_eq_true rfl⟩) (va_recv hK HT (ci := 0) (q0 := 0) rfl rfl) HT (hK.sub [0] rfl) rfl hl.1 rfl (Nat.le_of_ble_eq_true rfl) dL_law_797 (by show cells ≤ 600172; omega) (by show slots ≤ 7300668; omega) hS (fun H locs hsm hS => ?_)
    have hq := hq.tr hsm
    obtain ⟨-, HT, HP, -⟩ := hI.kept hq
    have h15 := z_kp h15 hsm
    have h16 := z_kp h16 hsm
    rw [← emo]
    refine lv_iload hx hb dL_law_800 (lv_at hl 2 rfl) ?_
    refine lv_icmp_ne (tgt := 870) hx hb dL_law_802 (by decide) (fun c_802 => absurd rfl c_802) (fun c_802 => ?_)
    refine lv_aload_n hx hb dL_law_805 rfl (lv_at hl 19 rfl) ?_
    refine q_callV (As := []) (rest := []) ⟨hx, hb, hml, hown, hts⟩ (d_longestThread l D cI ad N pa pe f0 f1 f2 f3 f4 g0 g1 g2 hR) (cwV 0 hts gL_law_X0_longestThread rfl rfl rfl kv_X0_longestThread ⟨Nat.le_of_ble_eq_true rfl, Nat.le_of_ble_eq_true rfl⟩) (va_recv hK HT (ci := 0) (q0 := 0) rfl rfl) HT (hK.sub [0] rfl) rfl hl.1 rfl (Nat.le_of_ble_eq_true rfl) dL_law_806 (by show cells ≤ 600172; omega) (by show slots ≤ 7300668; omega) hS (fun H locs hsm hS => ?_)
    have hq := hq.tr hsm
    obtain ⟨-, HT, HP, -⟩ := hI.kept hq
    have h15 := z_kp h15 hsm
    have h16 := z_kp h16 hsm
    suffices K_809 : ∀ v9 : Int32, v9 = bI (decide (m_n g0 N = 0)) → W p l e room_1 s m args below meth c H locs cells slots Q (F0 m 817 ls [.int v9]) from by
      refine lv_if_ge (tgt := 816) hx hb dL_law_809 (by decide) (fun c_809 => ?_) (fun c_809 => ?_)
      · refine lv_iconst (v := 0) hx hb dL_law_816 (by decide) ?_
        exact K_809 _ (bI_df (fun e => by have := (lg_neg (g1 := g1) (g2 := g2) hN24).mpr e; exact absurd this (Int32.not_lt.mpr c_809)))
      · refine lv_iconst (v := 1) hx hb dL_law_812 (by decide) ?_
        refine lv_goto (tgt := 817) hx hb dL_law_813 (by decide) ?_
        exact K_809 _ (bI_dt ((lg_neg (g1 := g1) (g2 := g2) hN24).mp (Int32.not_le.mp c_809)))
    intro v9 hv9
    rw [hv9]; clear hv9
    refine lv_iload hx hb dL_law_817 (lv_at hl 13 rfl) ?_
    suffices K_819 : ∀ v9 : Int32, v9 = bI (decide (m_n g0 N = 0)) → W p l e room_1 s m args below meth c H locs cells slots Q (F0 m 827 ls [.int v9, .int (bI (decide (m_n g0 N = 0)))]) from by
      refine lv_if_ne (tgt := 826) hx hb dL_law_819 (by decide) (fun c_819 => ?_) (fun c_819 => ?_)
      · refine lv_iconst (v := 0) hx hb dL_law_826 (by decide) ?_
        exact K_819 _ (bI_df (fun e => c_819 (by rw [e]; rfl)))
      · refine lv_iconst (v := 1) hx hb dL_law_822 (by decide) ?_
        refine lv_goto (tgt := 827) hx hb dL_law_823 (by decide) ?_
        exact K_819 _ (bI_dt (nI_z (by omega) c_819))
    intro v9 hv9
    rw [hv9]; clear hv9
    refine lv_icmp_ne (tgt := 870) hx hb dL_law_827 (by decide) (fun c_827 => absurd rfl c_827) (fun c_827 => ?_)
    refine lv_aload_n hx hb dL_law_830 rfl (lv_at hl 19 rfl) ?_
    refine q_callVF (As := []) (rest := []) ⟨hx, hb, hml, hown, hts⟩ (d_meanStrain l D cI ad N pa pe f0 f1 f2 f3 f4 g0 g1 g2 hR) (cwV 0 hts gL_law_X0_meanStrain rfl rfl rfl kv_X0_meanStrain ⟨Nat.le_of_ble_eq_true rfl, Nat.le_of_ble_eq_true rfl⟩) (va_recv hK HT (ci := 0) (q0 := 0) rfl rfl) HT (hK.sub [0] rfl) rfl hl.1 rfl (Nat.le_of_ble_eq_true rfl) dL_law_831 (by show cells ≤ 600172; omega) (by show slots ≤ 7300668; omega) hS (fun H locs hsm hS => ?_)
    have hq := hq.tr hsm
    obtain ⟨-, HT, HP, -⟩ := hI.kept hq
    have h15 := z_kp h15 hsm
    have h16 := z_kp h16 hsm
    refine lv_iload hx hb dL_law_834 (lv_at hl 14 rfl) ?_
    suffices K_836 : ∀ v9 : UInt64, v9 = (m_ms g0 N) → W p l e room_1 s m args below meth c H locs cells slots Q (F0 m 850 ls [.double v9, .double (m_ms g0 N)]) from by
      refine lv_if_ne (tgt := 843) hx hb dL_law_836 (by decide) (fun c_836 => ?_) (fun c_836 => ?_)
      · have h836 : ¬ m_n g0 N - 1 = 0 := fun e => c_836 (by rw [e]; rfl)
        refine lv_iload hx hb dL_law_843 (lv_at hl 5 rfl) ?_
        refine lv_i2d hx hb dL_law_845 ?_
        refine lv_iload hx hb dL_law_846 (lv_at hl 14 rfl) ?_
        refine lv_i2d hx hb dL_law_848 ?_
        refine lv_ddiv hx hb dL_law_849 (hR.1.hnn h836) ?_
        exact K_836 _ (by unfold m_ms; rw [if_neg h836])
      · have h836 : m_n g0 N - 1 = 0 := nI_z (by omega) c_836
        refine lv_dconst0 hx hb dL_law_839 ?_
        refine lv_goto (tgt := 850) hx hb dL_law_840 (by decide) ?_
        exact K_836 _ (by unfold m_ms; rw [if_pos h836])
    intro v9 hv9
    rw [hv9]; clear hv9
    refine lv_dcmp hx hb dL_law_850 ?_
    rw [m_ms_c hR.1]
    refine W.eq (g2 := F0 m 851 ls [.int 0]) rfl ?_
    refine lv_if_ne (tgt := 870) hx hb dL_law_851 (by decide) (fun h9 => absurd (by decide) h9) (fun _ => ?_)
    refine lv_aload_n hx hb dL_law_854 rfl (lv_at hl 19 rfl) ?_
    refine q_callV (As := []) (rest := []) ⟨hx, hb, hml, hown, hts⟩ (d_patience l D cI ad N pa pe f0 f1 f2 f3 f4 g0 g1 g2 hR) (cwV 0 hts gL_law_X0_patience rfl rfl rfl kv_X0_patience ⟨Nat.le_of_ble_eq_true rfl, Nat.le_of_ble_eq_true rfl⟩) (va_recv hK HT (ci := 0) (q0 := 0) rfl rfl) HT (hK.sub [0] rfl) rfl hl.1 rfl (Nat.le_of_ble_eq_true rfl) dL_law_855 (by show cells ≤ 600172; omega) (by show slots ≤ 7300668; omega) hS (fun H locs hsm hS => ?_)
    have hq := hq.tr hsm
    obtain ⟨-, HT, HP, -⟩ := hI.kept hq
    have h15 := z_kp h15 hsm
    have h16 := z_kp h16 hsm
    refine lv_if_lt (tgt := 870) hx hb dL_law_858 (by decide) (fun c_858 => absurd c_858 (nI_pos (by omega))) (fun c_858 => ?_)
    refine lv_aload_n hx hb dL_law_861 rfl (lv_at hl 19 rfl) ?_
    refine q_callV (As := []) (rest := []) ⟨hx, hb, hml, hown, hts⟩ (d_patience l D cI ad N pa pe f0 f1 f2 f3 f4 g0 g1 g2 hR) (cwV 0 hts gL_law_X0_patience rfl rfl rfl kv_X0_patience ⟨Nat.le_of_ble_eq_true rfl, Nat.le_of_ble_eq_true rfl⟩) (va_recv hK HT (ci := 0) (q0 := 0) rfl rfl) HT (hK.sub [0] rfl) rfl hl.1 rfl (Nat.le_of_ble_eq_true rfl) dL_law_862 (by show cells ≤ 600172; omega) (by show slots ≤ 7300668; omega) hS (fun H locs hsm hS => ?_)
    have hq := hq.tr hsm
    obtain ⟨-, HT, HP, -⟩ := hI.kept hq
    have h15 := z_kp h15 hsm
    have h16 := z_kp h16 hsm
    refine lv_bipush (v := 99) hx hb dL_law_865 (by decide) ?_
    refine lv_icmp_le (tgt := 872) hx hb dL_law_867 (by decide) (fun c_867 => ?_) (fun c_867 => absurd (nI_le (b := 99) hpa (by decide)) c_867)
    exact law_872 hC hI hb0 hcl hsl hx15 hx16 K H locs ls hq h15 h16 hS (lv_sub hl [11, 12, 13, 14, 15, 16, 17, 18, 19, 20] rfl)

set_option maxHeartbeats 4000000 in
set_option maxRecDepth 100000 in
theorem law_595 {p : Program} {l : Launch} {e : Env} {s : State} {m : MethodId} {args : Array Value} {below : List Frame} {meth : Method} {c : Code} {Q : State → Prop} {b L : Nat} {xs : Nat → Int32} {Hb : Heap} {D : va_G} {cI cA cZ : ClassId} {ad : Nat → Nat} {S q0 N pa T cells slots : Nat} {pe : Int32} {f0 f1 f2 f3 f4 g0 g1 g2 : Nat → Int32} {O : Nat} {r : Nat → Nat} {a15 a16 : Nat} {x : Int32} (hC : lC p s m c args b L xs D cI cA cZ ad q0) (hI : lS D cI cA ad S q0 N pa pe f0 f1 f2 f3 f4 g0 g1 g2 O r Hb) (hb0 : s.heap.size ≤ Hb.size) (hcl : cells + 4 ≤ 600172) (hsl : slots + 60 ≤ 7300668) (hx15 : Hb.size ≤ a15) (hx16 : a15 < a16) (K : lK p l e s m args below meth c b D cI cA ad S q0 T cells slots Q) : ∀ (H : Heap) (locs : List Loc) (ls : Array Slot), q_same Hb H → aI cI (m_n g0 N - 1) (fun k => if k < (m_n g0 N - 1) then m_st g0 N k else 0) a15 H → aI cZ (m_n g0 N - 1) (fun k => if k < (m_n g0 N - 1) then bI (m_br g0 g1 g2 N k) else 0) a16 H → va_S (lA s) s.heap H locs → lv_has ls 26 [(19, .int (nI (z_mo g0 g1 g2 N (m_tn g0 g1 g2 N)))), (18, .int (nI (m_n g0 N))), (17, .int (nI (m_tn g0 g1 g2 N))), (14, .int (m_ss g0 N (m_n g0 N - 1))), (13, .int (m_ma g0 g1 g2 N (m_n g0 N - 1))), (12, .int (nI (ct (m_pol g0 g1 g2 N) (m_n g0 N - 1)))), (11, .int (nI (m_th g0 g1 g2 N (m_n g0 N - 1)))), (10, .int (nI (z_bt g0 N (m_n g0 N - 1)))), (9, .int (nI (N - m_n g0 N))), (6, .int (nI N)), (4, .int x), (5, .int (nI (m_n g0 N))), (7, .int (nI (m_n g0 N - 1))), (15, .ref a15), (16, .ref a16), (3, .int (nI T)), (0, .ref b), (1, .ref (ad 0)), (2, .ref S)] → W p l e room_1 s m args below meth c H locs cells slots Q (F0 m 595 ls []) := by
  intro H locs ls hq h15 h16 hS hl
  obtain ⟨hx, hb, hml, hts, hown, hK, hO, htX, hta, hq0, hXs, hbl, hL⟩ := id hC
  have hR := hI.1
  have hpa := hI.2.2.2.2
  obtain ⟨-, HT, HP, hX, -⟩ := hI.kept hq
  have hin : ∀ w ∈ wsX10, w ∈ wsL_law := inlX1
  have hN24 := hR.1.n
  have hm9 := m_n_le g0 N
  have hw := hR.1.ok
  have htn := tn_le (N := N) (g0 := g0) (g1 := g1) (g2 := g2)
  have hA9 : ∀ q : Nat, s.heap.size ≤ q → lA s q := fun q h => h
  refine lv_iconst (v := 0) hx hb dL_law_595 (by decide) ?_
  refine lv_istore (lv' := [(20, .int 0), (19, .int (nI (z_mo g0 g1 g2 N (m_tn g0 g1 g2 N)))), (18, .int (nI (m_n g0 N))), (17, .int (nI (m_tn g0 g1 g2 N))), (14, .int (m_ss g0 N (m_n g0 N - 1))), (13, .int (m_ma g0 g1 g2 N (m_n g0 N - 1))), (12, .int (nI (ct (m_pol g0 g1 g2 N) (m_n g0 N - 1)))), (11, .int (nI (m_th g0 g1 g2 N (m_n g0 N - 1)))), (10, .int (nI (z_bt g0 N (m_n g0 N - 1)))), (9, .int (nI (N - m_n g0 N))), (6, .int (nI N)), (4, .int x), (5, .int (nI (m_n g0 N))), (7, .int (nI (m_n g0 N - 1))), (15, .ref a15), (16, .ref a16), (3, .int (nI T)), (0, .ref b), (1, .ref (ad 0)), (2, .ref S)]) hx hb dL_law_596 hl (by decide) rfl (fun ls hl => ?_)
  refine lv_iconst (v := 0) hx hb dL_law_598 (by decide) ?_
  refine lv_istore (lv' := [(21, .int 0), (20, .int 0), (19, .int (nI (z_mo g0 g1 g2 N (m_tn g0 g1 g2 N)))), (18, .int (nI (m_n g0 N))), (17, .int (nI (m_tn g0 g1 g2 N))), (14, .int (m_ss g0 N (m_n g0 N - 1))), (13, .int (m_ma g0 g1 g2 N (m_n g0 N - 1))), (12, .int (nI (ct (m_pol g0 g1 g2 N) (m_n g0 N - 1)))), (11, .int (nI (m_th g0 g1 g2 N (m_n g0 N - 1)))), (10, .int (nI (z_bt g0 N (m_n g0 N - 1)))), (9, .int (nI (N - m_n g0 N))), (6, .int (nI N)), (4, .int x), (5, .int (nI (m_n g0 N))), (7, .int (nI (m_n g0 N - 1))), (15, .ref a15), (16, .ref a16), (3, .int (nI T)), (0, .ref b), (1, .ref (ad 0)), (2, .ref S)]) hx hb dL_law_599 hl (by decide) rfl (fun ls hl => ?_)
  refine lv_iconst (v := 0) hx hb dL_law_601 (by decide) ?_
  refine lv_istore (lv' := [(22, .int 0), (21, .int 0), (20, .int 0), (19, .int (nI (z_mo g0 g1 g2 N (m_tn g0 g1 g2 N)))), (18, .int (nI (m_n g0 N))), (17, .int (nI (m_tn g0 g1 g2 N))), (14, .int (m_ss g0 N (m_n g0 N - 1))), (13, .int (m_ma g0 g1 g2 N (m_n g0 N - 1))), (12, .int (nI (ct (m_pol g0 g1 g2 N) (m_n g0 N - 1)))), (11, .int (nI (m_th g0 g1 g2 N (m_n g0 N - 1)))), (10, .int (nI (z_bt g0 N (m_n g0 N - 1)))), (9, .int (nI (N - m_n g0 N))), (6, .int (nI N)), (4, .int x), (5, .int (nI (m_n g0 N))), (7, .int (nI (m_n g0 N - 1))), (15, .ref a15), (16, .ref a16), (3, .int (nI T)), (0, .ref b), (1, .ref (ad 0)), (2, .ref S)]) hx hb dL_law_602 hl (by decide) rfl (fun ls hl => ?_)
  have lo_604 : ∀ (fu604 v : Nat), 6 - v < fu604 → v ≤ 6 → ∀ (H : Heap) (locs : List Loc) (ls : Array Slot), q_same Hb H → aI cI (m_n g0 N - 1) (fun k => if k < (m_n g0 N - 1) then m_st g0 N k else 0) a15 H → aI cZ (m_n g0 N - 1) (fun k => if k < (m_n g0 N - 1) then bI (m_br g0 g1 g2 N k) else 0) a16 H → va_S (lA s) s.heap H locs → lv_has ls 26 [(22, .int (nI v)), (21, .int (nI (sm (fun v => pcn (m_ts g0 g1 g2 N (nI v) (m_n g0 N))) v))), (20, .int (nI (sm (fun v => m_wos g0 g1 N v (m_n g0 N)) v))), (19, .int (nI (z_mo g0 g1 g2 N (m_tn g0 g1 g2 N)))), (18, .int (nI (m_n g0 N))), (17, .int (nI (m_tn g0 g1 g2 N))), (14, .int (m_ss g0 N (m_n g0 N - 1))), (13, .int (m_ma g0 g1 g2 N (m_n g0 N - 1))), (12, .int (nI (ct (m_pol g0 g1 g2 N) (m_n g0 N - 1)))), (11, .int (nI (m_th g0 g1 g2 N (m_n g0 N - 1)))), (10, .int (nI (z_bt g0 N (m_n g0 N - 1)))), (9, .int (nI (N - m_n g0 N))), (6, .int (nI N)), (4, .int x), (5, .int (nI (m_n g0 N))), (7, .int (nI (m_n g0 N - 1))), (15, .ref a15), (16, .ref a16), (3, .int (nI T)), (0, .ref b), (1, .ref (ad 0)), (2, .ref S)] → W p l e room_1 s m args below meth c H locs cells slots Q (F0 m 604 ls []) := by
    intro fu604
    induction fu604 with
    | zero => intro v hi; exact absurd hi (Nat.not_lt_zero _)
    | succ fu604 ih604 =>
      intro v hi604 hvN H locs ls hq h15 h16 hS hl
      refine lv_iload hx hb dL_law_604 (lv_at hl 0 rfl) ?_
      obtain ⟨-, HT, HP, -⟩ := hI.kept hq
      refine lv_bipush (v := 6) hx hb dL_law_606 (by decide) ?_
      refine lv_icmp_ge (tgt := 692) hx hb dL_law_608 (by decide) (fun c_608 => ?_) (fun c_608 => ?_)
      · have hi9 : v = 6 := nI_ge' hvN (by decide) c_608
        rw [hi9, wos_sum hR.2.2 _ (Nat.le_refl _)] at hl
        exact law_692 hC hI hb0 hcl hsl hx15 hx16 K H locs ls hq h15 h16 hS (lv_sub hl [1, 2, 3, 4, 5, 6, 7, 8, 9, 10, 11, 12, 13, 14, 15, 16, 17, 18, 19, 20, 21] rfl)
      · have hv9 : v < 6 := nI_lt' hvN (by decide) c_608
        have hp1 := ts_le (g0 := g0) (g1 := g1) (g2 := g2) hN24 v (m_n g0 N) (by omega)
        have hp2 := ts_tn (g0 := g0) (g1 := g1) (g2 := g2) hN24 (nI v)
        have hp3 : m_wos g0 g1 N v (m_n g0 N) ≤ m_n g0 N := ct_le _ _
        refine lv_iload hx hb dL_law_611 (lv_at hl 2 rfl) ?_
        refine lv_aload_n hx hb dL_law_613 rfl (lv_at hl 20 rfl) ?_
        refine lv_iload hx hb dL_law_614 (lv_at hl 0 rfl) ?_
        refine q_callV (As := [.int (nI v)]) (rest := [.int (nI (sm (fun v => m_wos g0 g1 N v (m_n g0 N)) v))]) ⟨hx, hb, hml, hown, hts⟩ (d_wordsOf l D cI ad N pa pe f0 f1 f2 f3 f4 g0 g1 g2 hR v hv9) (cwV 1 hts gL_law_X0_wordsOf rfl rfl rfl kv_X0_wordsOf ⟨Nat.le_of_ble_eq_true rfl, Nat.le_of_ble_eq_true rfl⟩) (va_recv hK HT (ci := 0) (q0 := 0) rfl rfl) HT (hK.sub [0] rfl) rfl hl.1 rfl (Nat.le_of_ble_eq_true rfl) dL_law_616 (by show cells ≤ 600172; omega) (by show slots ≤ 7300668; omega) hS (fun H locs hsm hS => ?_)
        have hq := hq.tr hsm
        obtain ⟨-, HT, HP, -⟩ := hI.kept hq
        have h15 := z_kp h15 hsm
        have h16 := z_kp h16 hsm
        refine lv_iadd hx hb dL_law_619 ?_
        refine lv_istore (lv' := [(20, .int (nI (sm (fun v => m_wos g0 g1 N v (m_n g0 N)) v) + nI (m_wos g0 g1 N v (m_n g0 N)))), (22, .int (nI v)), (21, .int (nI (sm (fun v => pcn (m_ts g0 g1 g2 N (nI v) (m_n g0 N))) v))), (19, .int (nI (z_mo g0 g1 g2 N (m_tn g0 g1 g2 N)))), (18, .int (nI (m_n g0 N))), (17, .int (nI (m_tn g0 g1 g2 N))), (14, .int (m_ss g0 N (m_n g0 N - 1))), (13, .int (m_ma g0 g1 g2 N (m_n g0 N - 1))), (12, .int (nI (ct (m_pol g0 g1 g2 N) (m_n g0 N - 1)))), (11, .int (nI (m_th g0 g1 g2 N (m_n g0 N - 1)))), (10, .int (nI (z_bt g0 N (m_n g0 N - 1)))), (9, .int (nI (N - m_n g0 N))), (6, .int (nI N)), (4, .int x), (5, .int (nI (m_n g0 N))), (7, .int (nI (m_n g0 N - 1))), (15, .ref a15), (16, .ref a16), (3, .int (nI T)), (0, .ref b), (1, .ref (ad 0)), (2, .ref S)]) hx hb dL_law_620 hl (by decide) rfl (fun ls hl => ?_)
        refine lv_iload hx hb dL_law_622 (lv_at hl 2 rfl) ?_
        refine lv_aload_n hx hb dL_law_624 rfl (lv_at hl 20 rfl) ?_
        refine lv_iload hx hb dL_law_625 (lv_at hl 1 rfl) ?_
        refine q_callV (As := [.int (nI v)]) (rest := [.int (nI (sm (fun v => pcn (m_ts g0 g1 g2 N (nI v) (m_n g0 N))) v))]) ⟨hx, hb, hml, hown, hts⟩ (d_threadsOf l D cI ad N pa pe f0 f1 f2 f3 f4 g0 g1 g2 hR v hv9) (cwV 1 hts gL_law_X0_threadsOf rfl rfl rfl kv_X0_threadsOf ⟨Nat.le_of_ble_eq_true rfl, Nat.le_of_ble_eq_true rfl⟩) (va_recv hK HT (ci := 0) (q0 := 0) rfl rfl) HT (hK.sub [0] rfl) rfl hl.1 rfl (Nat.le_of_ble_eq_true rfl) dL_law_627 (by show cells ≤ 600172; omega) (by show slots ≤ 7300668; omega) hS (fun H locs hsm hS => ?_)
        have hq := hq.tr hsm
        obtain ⟨-, HT, HP, -⟩ := hI.kept hq
        have h15 := z_kp h15 hsm
        have h16 := z_kp h16 hsm
        refine lv_iadd hx hb dL_law_630 ?_
        refine lv_istore (lv' := [(21, .int (nI (sm (fun v => pcn (m_ts g0 g1 g2 N (nI v) (m_n g0 N))) v) + nI (pcn (m_ts g0 g1 g2 N (nI v) (m_n g0 N))))), (20, .int (nI (sm (fun v => m_wos g0 g1 N v (m_n g0 N)) v) + nI (m_wos g0 g1 N v (m_n g0 N)))), (22, .int (nI v)), (19, .int (nI (z_mo g0 g1 g2 N (m_tn g0 g1 g2 N)))), (18, .int (nI (m_n g0 N))), (17, .int (nI (m_tn g0 g1 g2 N))), (14, .int (m_ss g0 N (m_n g0 N - 1))), (13, .int (m_ma g0 g1 g2 N (m_n g0 N - 1))), (12, .int (nI (ct (m_pol g0 g1 g2 N) (m_n g0 N - 1)))), (11, .int (nI (m_th g0 g1 g2 N (m_n g0 N - 1)))), (10, .int (nI (z_bt g0 N (m_n g0 N - 1)))), (9, .int (nI (N - m_n g0 N))), (6, .int (nI N)), (4, .int x), (5, .int (nI (m_n g0 N))), (7, .int (nI (m_n g0 N - 1))), (15, .ref a15), (16, .ref a16), (3, .int (nI T)), (0, .ref b), (1, .ref (ad 0)), (2, .ref S)]) hx hb dL_law_631 hl (by decide) rfl (fun ls hl => ?_)
        refine lv_aload_n hx hb dL_law_633 rfl (lv_at hl 20 rfl) ?_
        refine lv_iload hx hb dL_law_634 (lv_at hl 2 rfl) ?_
        refine q_callV (As := [.int (nI v)]) (rest := []) ⟨hx, hb, hml, hown, hts⟩ (d_threadsOf l D cI ad N pa pe f0 f1 f2 f3 f4 g0 g1 g2 hR v hv9) (cwV 1 hts gL_law_X0_threadsOf rfl rfl rfl kv_X0_threadsOf ⟨Nat.le_of_ble_eq_true rfl, Nat.le_of_ble_eq_true rfl⟩) (va_recv hK HT (ci := 0) (q0 := 0) rfl rfl) HT (hK.sub [0] rfl) rfl hl.1 rfl (Nat.le_of_ble_eq_true rfl) dL_law_636 (by show cells ≤ 600172; omega) (by show slots ≤ 7300668; omega) hS (fun H locs hsm hS => ?_)
        have hq := hq.tr hsm
        obtain ⟨-, HT, HP, -⟩ := hI.kept hq
        have h15 := z_kp h15 hsm
        have h16 := z_kp h16 hsm
        refine lv_iload hx hb dL_law_639 (lv_at hl 5 rfl) ?_
        refine lv_aload_n hx hb dL_law_641 rfl (lv_at hl 20 rfl) ?_
        refine lv_iload hx hb dL_law_642 (lv_at hl 2 rfl) ?_
        refine q_callV (As := [.int (nI v)]) (rest := [.int (nI (m_tn g0 g1 g2 N)), .int (nI (pcn (m_ts g0 g1 g2 N (nI v) (m_n g0 N))))]) ⟨hx, hb, hml, hown, hts⟩ (d_wordsOf l D cI ad N pa pe f0 f1 f2 f3 f4 g0 g1 g2 hR v hv9) (cwV 1 hts gL_law_X0_wordsOf rfl rfl rfl kv_X0_wordsOf ⟨Nat.le_of_ble_eq_true rfl, Nat.le_of_ble_eq_true rfl⟩) (va_recv hK HT (ci := 0) (q0 := 0) rfl rfl) HT (hK.sub [0] rfl) rfl hl.1 rfl (Nat.le_of_ble_eq_true rfl) dL_law_644 (by show cells ≤ 600172; omega) (by show slots ≤ 7300668; omega) hS (fun H locs hsm hS => ?_)
        have hq := hq.tr hsm
        obtain ⟨-, HT, HP, -⟩ := hI.kept hq
        have h15 := z_kp h15 hsm
        have h16 := z_kp h16 hsm
        refine va_mmin hx hb (hml.trans hl.1.symm) hown (hts (.methodLink RL 39 Lib.Math.min.name) (by decide +kernel)) (hts (.static Lib.Math.min.name) (by decide +kernel)) (hts (.initialized "java/lang/Math") (by decide +kernel)) (hts (.code Lib.Math.min.name Lib.Math.min.code 2 (some .int)) (by decide +kernel)) (Nat.le_of_ble_eq_true rfl) (Nat.le_of_ble_eq_true rfl) (by show cells ≤ 600172; omega) (by show slots ≤ 7300668; omega) dL_law_647 ?_
        refine lv_icmp_gt (tgt := 684) hx hb dL_law_650 (by decide) (fun c_650 => absurd c_650 (mn_nlt hp1 hp2 (by omega) (by omega))) (fun c_650 => ?_)
        refine lv_aload_n hx hb dL_law_653 rfl (lv_at hl 20 rfl) ?_
        refine lv_iload hx hb dL_law_654 (lv_at hl 2 rfl) ?_
        refine q_callV (As := [.int (nI v)]) (rest := []) ⟨hx, hb, hml, hown, hts⟩ (d_wordsOf l D cI ad N pa pe f0 f1 f2 f3 f4 g0 g1 g2 hR v hv9) (cwV 1 hts gL_law_X0_wordsOf rfl rfl rfl kv_X0_wordsOf ⟨Nat.le_of_ble_eq_true rfl, Nat.le_of_ble_eq_true rfl⟩) (va_recv hK HT (ci := 0) (q0 := 0) rfl rfl) HT (hK.sub [0] rfl) rfl hl.1 rfl (Nat.le_of_ble_eq_true rfl) dL_law_656 (by show cells ≤ 600172; omega) (by show slots ≤ 7300668; omega) hS (fun H locs hsm hS => ?_)
        have hq := hq.tr hsm
        obtain ⟨-, HT, HP, -⟩ := hI.kept hq
        have h15 := z_kp h15 hsm
        have h16 := z_kp h16 hsm
        suffices K_659 : ∀ v9 : Int32, v9 = bI (decide (0 < m_wos g0 g1 N v (m_n g0 N))) → W p l e room_1 s m args below meth c H locs cells slots Q (F0 m 667 ls [.int v9]) from by
          refine lv_if_le (tgt := 666) hx hb dL_law_659 (by decide) (fun c_659 => ?_) (fun c_659 => ?_)
          · refine lv_iconst (v := 0) hx hb dL_law_666 (by decide) ?_
            exact K_659 _ (bI_df (fun q => by have h := (nI_le0 (by omega)).mp c_659; omega))
          · refine lv_iconst (v := 1) hx hb dL_law_662 (by decide) ?_
            refine lv_goto (tgt := 667) hx hb dL_law_663 (by decide) ?_
            exact K_659 _ (bI_dt (Nat.pos_of_ne_zero (fun e => c_659 ((nI_le0 (by omega)).mpr e))))
        intro v9 hv9
        rw [hv9]; clear hv9
        refine lv_aload_n hx hb dL_law_667 rfl (lv_at hl 20 rfl) ?_
        refine lv_iload hx hb dL_law_668 (lv_at hl 2 rfl) ?_
        refine q_callV (As := [.int (nI v)]) (rest := [.int (bI (decide (0 < m_wos g0 g1 N v (m_n g0 N))))]) ⟨hx, hb, hml, hown, hts⟩ (d_threadsOf l D cI ad N pa pe f0 f1 f2 f3 f4 g0 g1 g2 hR v hv9) (cwV 1 hts gL_law_X0_threadsOf rfl rfl rfl kv_X0_threadsOf ⟨Nat.le_of_ble_eq_true rfl, Nat.le_of_ble_eq_true rfl⟩) (va_recv hK HT (ci := 0) (q0 := 0) rfl rfl) HT (hK.sub [0] rfl) rfl hl.1 rfl (Nat.le_of_ble_eq_true rfl) dL_law_670 (by show cells ≤ 600172; omega) (by show slots ≤ 7300668; omega) hS (fun H locs hsm hS => ?_)
        have hq := hq.tr hsm
        obtain ⟨-, HT, HP, -⟩ := hI.kept hq
        have h15 := z_kp h15 hsm
        have h16 := z_kp h16 hsm
        suffices K_673 : ∀ v9 : Int32, v9 = bI (decide (0 < m_wos g0 g1 N v (m_n g0 N))) → W p l e room_1 s m args below meth c H locs cells slots Q (F0 m 681 ls [.int v9, .int (bI (decide (0 < m_wos g0 g1 N v (m_n g0 N))))]) from by
          refine lv_if_le (tgt := 680) hx hb dL_law_673 (by decide) (fun c_673 => ?_) (fun c_673 => ?_)
          · refine lv_iconst (v := 0) hx hb dL_law_680 (by decide) ?_
            exact K_673 _ (bI_df (fun q => by have h := (nI_le0 (by omega)).mp c_673; have := ts_pos (g2 := g2) v _ (by omega) q; omega))
          · refine lv_iconst (v := 1) hx hb dL_law_676 (by decide) ?_
            refine lv_goto (tgt := 681) hx hb dL_law_677 (by decide) ?_
            exact K_673 _ (bI_dt (Nat.lt_of_lt_of_le (Nat.pos_of_ne_zero (fun e => c_673 ((nI_le0 (by omega)).mpr e))) hp1))
        intro v9 hv9
        rw [hv9]; clear hv9
        refine lv_icmp_eq (tgt := 686) hx hb dL_law_681 (by decide) (fun c_681 => ?_) (fun c_681 => absurd rfl c_681)
        refine lv_iinc (v := (nI v + 1)) (lv' := [(22, .int (nI v + 1)), (21, .int (nI (sm (fun v => pcn (m_ts g0 g1 g2 N (nI v) (m_n g0 N))) v) + nI (pcn (m_ts g0 g1 g2 N (nI v) (m_n g0 N))))), (20, .int (nI (sm (fun v => m_wos g0 g1 N v (m_n g0 N)) v) + nI (m_wos g0 g1 N v (m_n g0 N)))), (19, .int (nI (z_mo g0 g1 g2 N (m_tn g0 g1 g2 N)))), (18, .int (nI (m_n g0 N))), (17, .int (nI (m_tn g0 g1 g2 N))), (14, .int (m_ss g0 N (m_n g0 N - 1))), (13, .int (m_ma g0 g1 g2 N (m_n g0 N - 1))), (12, .int (nI (ct (m_pol g0 g1 g2 N) (m_n g0 N - 1)))), (11, .int (nI (m_th g0 g1 g2 N (m_n g0 N - 1)))), (10, .int (nI (z_bt g0 N (m_n g0 N - 1)))), (9, .int (nI (N - m_n g0 N))), (6, .int (nI N)), (4, .int x), (5, .int (nI (m_n g0 N))), (7, .int (nI (m_n g0 N - 1))), (15, .ref a15), (16, .ref a16), (3, .int (nI T)), (0, .ref b), (1, .ref (ad 0)), (2, .ref S)]) hx hb dL_law_686 hl (k := 2) rfl (by rfl) (by decide) rfl (fun ls hl => ?_)
        refine lv_goto (tgt := 604) hx hb dL_law_689 (by decide) ?_
        have e_22 : ((nI v + 1) : Int32) = nI (v + 1) := nI_1 v
        have e_21 : ((nI (sm (fun v => pcn (m_ts g0 g1 g2 N (nI v) (m_n g0 N))) v) + nI (pcn (m_ts g0 g1 g2 N (nI v) (m_n g0 N)))) : Int32) = nI (sm (fun v => pcn (m_ts g0 g1 g2 N (nI v) (m_n g0 N))) (v + 1)) := nI_add _ _
        have e_20 : ((nI (sm (fun v => m_wos g0 g1 N v (m_n g0 N)) v) + nI (m_wos g0 g1 N v (m_n g0 N))) : Int32) = nI (sm (fun v => m_wos g0 g1 N v (m_n g0 N)) (v + 1)) := nI_add _ _
        exact ih604 (v + 1) (by omega) (by omega) _ locs ls hq h15 h16 hS (lv_eq (lv_sub (l' := [(22, .int (nI v + 1)), (21, .int (nI (sm (fun v => pcn (m_ts g0 g1 g2 N (nI v) (m_n g0 N))) v) + nI (pcn (m_ts g0 g1 g2 N (nI v) (m_n g0 N))))), (20, .int (nI (sm (fun v => m_wos g0 g1 N v (m_n g0 N)) v) + nI (m_wos g0 g1 N v (m_n g0 N)))), (19, .int (nI (z_mo g0 g1 g2 N (m_tn g0 g1 g2 N)))), (18, .int (nI (m_n g0 N))), (17, .int (nI (m_tn g0 g1 g2 N))), (14, .int (m_ss g0 N (m_n g0 N - 1))), (13, .int (m_ma g0 g1 g2 N (m_n g0 N - 1))), (12, .int (nI (ct (m_pol g0 g1 g2 N) (m_n g0 N - 1)))), (11, .int (nI (m_th g0 g1 g2 N (m_n g0 N - 1)))), (10, .int (nI (z_bt g0 N (m_n g0 N - 1)))), (9, .int (nI (N - m_n g0 N))), (6, .int (nI N)), (4, .int x), (5, .int (nI (m_n g0 N))), (7, .int (nI (m_n g0 N - 1))), (15, .ref a15), (16, .ref a16), (3, .int (nI T)), (0, .ref b), (1, .ref (ad 0)), (2, .ref S)]) hl [0, 1, 2, 3, 4, 5, 6, 7, 8, 9, 10, 11, 12, 13, 14, 15, 16, 17, 18, 19, 20, 21] rfl) (by rw [e_21, e_20, e_22]))
  exact lo_604 (6 + 1) 0 (by omega) (by omega) _ locs ls hq h15 h16 hS (lv_sub hl [0, 1, 2, 3, 4, 5, 6, 7, 8, 9, 10, 11, 12, 13, 14, 15, 16, 17, 18, 19, 20, 21] rfl)

set_option maxHeartbeats 4000000 in
set_option maxRecDepth 100000 in
theorem law_509 {p : Program} {l : Launch} {e : Env} {s : State} {m : MethodId} {args : Array Value} {below : List Frame} {meth : Method} {c : Code} {Q : State → Prop} {b L : Nat} {xs : Nat → Int32} {Hb : Heap} {D : va_G} {cI cA cZ : ClassId} {ad : Nat → Nat} {S q0 N pa T cells slots : Nat} {pe : Int32} {f0 f1 f2 f3 f4 g0 g1 g2 : Nat → Int32} {O : Nat} {r : Nat → Nat} {a15 a16 : Nat} {x : Int32} (hC : lC p s m c args b L xs D cI cA cZ ad q0) (hI : lS D cI cA ad S q0 N pa pe f0 f1 f2 f3 f4 g0 g1 g2 O r Hb) (hb0 : s.heap.size ≤ Hb.size) (hcl : cells + 4 ≤ 600172) (hsl : slots + 60 ≤ 7300668) (hx15 : Hb.size ≤ a15) (hx16 : a15 < a16) (K : lK p l e s m args below meth c b D cI cA ad S q0 T cells slots Q) : ∀ (H : Heap) (locs : List Loc) (ls : Array Slot), q_same Hb H → aI cI (m_n g0 N - 1) (fun k => if k < (m_n g0 N - 1) then m_st g0 N k else 0) a15 H → aI cZ (m_n g0 N - 1) (fun k => if k < (m_n g0 N - 1) then bI (m_br g0 g1 g2 N k) else 0) a16 H → va_S (lA s) s.heap H locs → lv_has ls 26 [(14, .int (m_ss g0 N (m_n g0 N - 1))), (13, .int (m_ma g0 g1 g2 N (m_n g0 N - 1))), (12, .int (nI (ct (m_pol g0 g1 g2 N) (m_n g0 N - 1)))), (11, .int (nI (m_th g0 g1 g2 N (m_n g0 N - 1)))), (10, .int (nI (z_bt g0 N (m_n g0 N - 1)))), (9, .int (nI (N - m_n g0 N))), (6, .int (nI N)), (4, .int x), (5, .int (nI (m_n g0 N))), (7, .int (nI (m_n g0 N - 1))), (15, .ref a15), (16, .ref a16), (3, .int (nI T)), (0, .ref b), (1, .ref (ad 0)), (2, .ref S)] → W p l e room_1 s m args below meth c H locs cells slots Q (F0 m 509 ls []) := by
  intro H locs ls hq h15 h16 hS hl
  obtain ⟨hx, hb, hml, hts, hown, hK, hO, htX, hta, hq0, hXs, hbl, hL⟩ := id hC
  have hR := hI.1
  have hpa := hI.2.2.2.2
  obtain ⟨-, HT, HP, hX, -⟩ := hI.kept hq
  have hin : ∀ w ∈ wsX10, w ∈ wsL_law := inlX1
  have hN24 := hR.1.n
  have hm9 := m_n_le g0 N
  have hw := hR.1.ok
  have htn := tn_le (N := N) (g0 := g0) (g1 := g1) (g2 := g2)
  have hA9 : ∀ q : Nat, s.heap.size ≤ q → lA s q := fun q h => h
  refine lv_aload_n hx hb dL_law_509 rfl (lv_at hl 14 rfl) ?_
  refine q_callV (As := []) (rest := []) ⟨hx, hb, hml, hown, hts⟩ (d_threads l D cI ad N pa pe f0 f1 f2 f3 f4 g0 g1 g2 hR) (cwV 0 hts gL_law_X0_threads rfl rfl rfl kv_X0_threads ⟨Nat.le_of_ble_eq_true rfl, Nat.le_of_ble_eq_true rfl⟩) (va_recv hK HT (ci := 0) (q0 := 0) rfl rfl) HT (hK.sub [0] rfl) rfl hl.1 rfl (Nat.le_of_ble_eq_true rfl) dL_law_510 (by show cells ≤ 600172; omega) (by show slots ≤ 7300668; omega) hS (fun H locs hsm hS => ?_)
  have hq := hq.tr hsm
  obtain ⟨-, HT, HP, -⟩ := hI.kept hq
  have h15 := z_kp h15 hsm
  have h16 := z_kp h16 hsm
  refine lv_istore (lv' := [(17, .int (nI (m_tn g0 g1 g2 N))), (14, .int (m_ss g0 N (m_n g0 N - 1))), (13, .int (m_ma g0 g1 g2 N (m_n g0 N - 1))), (12, .int (nI (ct (m_pol g0 g1 g2 N) (m_n g0 N - 1)))), (11, .int (nI (m_th g0 g1 g2 N (m_n g0 N - 1)))), (10, .int (nI (z_bt g0 N (m_n g0 N - 1)))), (9, .int (nI (N - m_n g0 N))), (6, .int (nI N)), (4, .int x), (5, .int (nI (m_n g0 N))), (7, .int (nI (m_n g0 N - 1))), (15, .ref a15), (16, .ref a16), (3, .int (nI T)), (0, .ref b), (1, .ref (ad 0)), (2, .ref S)]) hx hb dL_law_513 hl (by decide) rfl (fun ls hl => ?_)
  refine lv_iconst (v := 0) hx hb dL_law_515 (by decide) ?_
  refine lv_istore (lv' := [(18, .int 0), (17, .int (nI (m_tn g0 g1 g2 N))), (14, .int (m_ss g0 N (m_n g0 N - 1))), (13, .int (m_ma g0 g1 g2 N (m_n g0 N - 1))), (12, .int (nI (ct (m_pol g0 g1 g2 N) (m_n g0 N - 1)))), (11, .int (nI (m_th g0 g1 g2 N (m_n g0 N - 1)))), (10, .int (nI (z_bt g0 N (m_n g0 N - 1)))), (9, .int (nI (N - m_n g0 N))), (6, .int (nI N)), (4, .int x), (5, .int (nI (m_n g0 N))), (7, .int (nI (m_n g0 N - 1))), (15, .ref a15), (16, .ref a16), (3, .int (nI T)), (0, .ref b), (1, .ref (ad 0)), (2, .ref S)]) hx hb dL_law_516 hl (by decide) rfl (fun ls hl => ?_)
  refine lv_iconst (v := 0) hx hb dL_law_518 (by decide) ?_
  refine lv_istore (lv' := [(19, .int 0), (18, .int 0), (17, .int (nI (m_tn g0 g1 g2 N))), (14, .int (m_ss g0 N (m_n g0 N - 1))), (13, .int (m_ma g0 g1 g2 N (m_n g0 N - 1))), (12, .int (nI (ct (m_pol g0 g1 g2 N) (m_n g0 N - 1)))), (11, .int (nI (m_th g0 g1 g2 N (m_n g0 N - 1)))), (10, .int (nI (z_bt g0 N (m_n g0 N - 1)))), (9, .int (nI (N - m_n g0 N))), (6, .int (nI N)), (4, .int x), (5, .int (nI (m_n g0 N))), (7, .int (nI (m_n g0 N - 1))), (15, .ref a15), (16, .ref a16), (3, .int (nI T)), (0, .ref b), (1, .ref (ad 0)), (2, .ref S)]) hx hb dL_law_519 hl (by decide) rfl (fun ls hl => ?_)
  refine lv_iconst (v := 0) hx hb dL_law_521 (by decide) ?_
  refine lv_istore (lv' := [(20, .int 0), (19, .int 0), (18, .int 0), (17, .int (nI (m_tn g0 g1 g2 N))), (14, .int (m_ss g0 N (m_n g0 N - 1))), (13, .int (m_ma g0 g1 g2 N (m_n g0 N - 1))), (12, .int (nI (ct (m_pol g0 g1 g2 N) (m_n g0 N - 1)))), (11, .int (nI (m_th g0 g1 g2 N (m_n g0 N - 1)))), (10, .int (nI (z_bt g0 N (m_n g0 N - 1)))), (9, .int (nI (N - m_n g0 N))), (6, .int (nI N)), (4, .int x), (5, .int (nI (m_n g0 N))), (7, .int (nI (m_n g0 N - 1))), (15, .ref a15), (16, .ref a16), (3, .int (nI T)), (0, .ref b), (1, .ref (ad 0)), (2, .ref S)]) hx hb dL_law_522 hl (by decide) rfl (fun ls hl => ?_)
  have lo_524 : ∀ (fu524 k : Nat), (m_tn g0 g1 g2 N) - k < fu524 → k ≤ (m_tn g0 g1 g2 N) → ∀ (H : Heap) (locs : List Loc) (ls : Array Slot), q_same Hb H → aI cI (m_n g0 N - 1) (fun k => if k < (m_n g0 N - 1) then m_st g0 N k else 0) a15 H → aI cZ (m_n g0 N - 1) (fun k => if k < (m_n g0 N - 1) then bI (m_br g0 g1 g2 N k) else 0) a16 H → va_S (lA s) s.heap H locs → lv_has ls 26 [(20, .int (nI k)), (19, .int (nI (z_mo g0 g1 g2 N k))), (18, .int (nI (sm (fun k => m_ln g0 g1 g2 N (nI k)) k))), (17, .int (nI (m_tn g0 g1 g2 N))), (14, .int (m_ss g0 N (m_n g0 N - 1))), (13, .int (m_ma g0 g1 g2 N (m_n g0 N - 1))), (12, .int (nI (ct (m_pol g0 g1 g2 N) (m_n g0 N - 1)))), (11, .int (nI (m_th g0 g1 g2 N (m_n g0 N - 1)))), (10, .int (nI (z_bt g0 N (m_n g0 N - 1)))), (9, .int (nI (N - m_n g0 N))), (6, .int (nI N)), (4, .int x), (5, .int (nI (m_n g0 N))), (7, .int (nI (m_n g0 N - 1))), (15, .ref a15), (16, .ref a16), (3, .int (nI T)), (0, .ref b), (1, .ref (ad 0)), (2, .ref S)] → W p l e room_1 s m args below meth c H locs cells slots Q (F0 m 524 ls []) := by
    intro fu524
    induction fu524 with
    | zero => intro k hi; exact absurd hi (Nat.not_lt_zero _)
    | succ fu524 ih524 =>
      intro k hi524 hkN H locs ls hq h15 h16 hS hl
      refine lv_iload hx hb dL_law_524 (lv_at hl 0 rfl) ?_
      obtain ⟨-, HT, HP, -⟩ := hI.kept hq
      refine lv_iload hx hb dL_law_526 (lv_at hl 3 rfl) ?_
      refine lv_icmp_ge (tgt := 595) hx hb dL_law_528 (by decide) (fun c_528 => ?_) (fun c_528 => ?_)
      · have hi9 : k = m_tn g0 g1 g2 N := nI_ge' hkN (by omega) c_528
        rw [hi9, sm_ln hN24] at hl
        exact law_595 hC hI hb0 hcl hsl hx15 hx16 K H locs ls hq h15 h16 hS (lv_sub hl [1, 2, 3, 4, 5, 6, 7, 8, 9, 10, 11, 12, 13, 14, 15, 16, 17, 18, 19] rfl)
      · have hk9 : k < m_tn g0 g1 g2 N := nI_lt' hkN (by omega) c_528
        have hp1 := ln_pos hk9
        have hp2 := tq_pos (g1 := g1) (g2 := g2) hw.2.1 (nI k) _ (Nat.le_refl _) hp1
        have hp3 := tq_10 (g1 := g1) (g2 := g2) hw.2.1 (nI k)
        have hp4 : pcn (m_tq g0 g1 g2 N (nI k) (m_n g0 N)) ≤ m_ln g0 g1 g2 N (nI k) := tq_le hw.2.1 (nI k) _ (Nat.le_refl _)
        have hp5 := ln_le (N := N) (g0 := g0) (g1 := g1) (g2 := g2) (nI k)
        refine lv_aload_n hx hb dL_law_531 rfl (lv_at hl 18 rfl) ?_
        refine lv_iload hx hb dL_law_532 (lv_at hl 0 rfl) ?_
        refine q_callV (As := [.int (nI k)]) (rest := []) ⟨hx, hb, hml, hown, hts⟩ (d_lengthOf l D cI ad N pa pe f0 f1 f2 f3 f4 g0 g1 g2 hR k hk9) (cwV 1 hts gL_law_X0_lengthOf rfl rfl rfl kv_X0_lengthOf ⟨Nat.le_of_ble_eq_true rfl, Nat.le_of_ble_eq_true rfl⟩) (va_recv hK HT (ci := 0) (q0 := 0) rfl rfl) HT (hK.sub [0] rfl) rfl hl.1 rfl (Nat.le_of_ble_eq_true rfl) dL_law_534 (by show cells ≤ 600172; omega) (by show slots ≤ 7300668; omega) hS (fun H locs hsm hS => ?_)
        have hq := hq.tr hsm
        obtain ⟨-, HT, HP, -⟩ := hI.kept hq
        have h15 := z_kp h15 hsm
        have h16 := z_kp h16 hsm
        refine lv_istore (lv' := [(21, .int (nI (m_ln g0 g1 g2 N (nI k)))), (20, .int (nI k)), (19, .int (nI (z_mo g0 g1 g2 N k))), (18, .int (nI (sm (fun k => m_ln g0 g1 g2 N (nI k)) k))), (17, .int (nI (m_tn g0 g1 g2 N))), (14, .int (m_ss g0 N (m_n g0 N - 1))), (13, .int (m_ma g0 g1 g2 N (m_n g0 N - 1))), (12, .int (nI (ct (m_pol g0 g1 g2 N) (m_n g0 N - 1)))), (11, .int (nI (m_th g0 g1 g2 N (m_n g0 N - 1)))), (10, .int (nI (z_bt g0 N (m_n g0 N - 1)))), (9, .int (nI (N - m_n g0 N))), (6, .int (nI N)), (4, .int x), (5, .int (nI (m_n g0 N))), (7, .int (nI (m_n g0 N - 1))), (15, .ref a15), (16, .ref a16), (3, .int (nI T)), (0, .ref b), (1, .ref (ad 0)), (2, .ref S)]) hx hb dL_law_537 hl (by decide) rfl (fun ls hl => ?_)
        refine lv_iload hx hb dL_law_539 (lv_at hl 3 rfl) ?_
        refine lv_iload hx hb dL_law_541 (lv_at hl 0 rfl) ?_
        refine lv_iadd hx hb dL_law_543 ?_
        refine lv_istore (lv' := [(18, .int (nI (sm (fun k => m_ln g0 g1 g2 N (nI k)) k) + nI (m_ln g0 g1 g2 N (nI k)))), (21, .int (nI (m_ln g0 g1 g2 N (nI k)))), (20, .int (nI k)), (19, .int (nI (z_mo g0 g1 g2 N k))), (17, .int (nI (m_tn g0 g1 g2 N))), (14, .int (m_ss g0 N (m_n g0 N - 1))), (13, .int (m_ma g0 g1 g2 N (m_n g0 N - 1))), (12, .int (nI (ct (m_pol g0 g1 g2 N) (m_n g0 N - 1)))), (11, .int (nI (m_th g0 g1 g2 N (m_n g0 N - 1)))), (10, .int (nI (z_bt g0 N (m_n g0 N - 1)))), (9, .int (nI (N - m_n g0 N))), (6, .int (nI N)), (4, .int x), (5, .int (nI (m_n g0 N))), (7, .int (nI (m_n g0 N - 1))), (15, .ref a15), (16, .ref a16), (3, .int (nI T)), (0, .ref b), (1, .ref (ad 0)), (2, .ref S)]) hx hb dL_law_544 hl (by decide) rfl (fun ls hl => ?_)
        refine lv_iload hx hb dL_law_546 (lv_at hl 3 rfl) ?_
        refine lv_iload hx hb dL_law_548 (lv_at hl 1 rfl) ?_
        refine va_mmax hx hb (hml.trans hl.1.symm) hown (hts (.methodLink RL 91 Lib.Math.max.name) (by decide +kernel)) (hts (.static Lib.Math.max.name) (by decide +kernel)) (hts (.initialized "java/lang/Math") (by decide +kernel)) (hts (.code Lib.Math.max.name Lib.Math.max.code 2 (some .int)) (by decide +kernel)) (Nat.le_of_ble_eq_true rfl) (Nat.le_of_ble_eq_true rfl) (by show cells ≤ 600172; omega) (by show slots ≤ 7300668; omega) dL_law_550 ?_
        rw [mo_s hN24 (by omega)]
        refine lv_istore (lv' := [(19, .int (nI (z_mo g0 g1 g2 N (k + 1)))), (18, .int (nI (sm (fun k => m_ln g0 g1 g2 N (nI k)) k) + nI (m_ln g0 g1 g2 N (nI k)))), (21, .int (nI (m_ln g0 g1 g2 N (nI k)))), (20, .int (nI k)), (17, .int (nI (m_tn g0 g1 g2 N))), (14, .int (m_ss g0 N (m_n g0 N - 1))), (13, .int (m_ma g0 g1 g2 N (m_n g0 N - 1))), (12, .int (nI (ct (m_pol g0 g1 g2 N) (m_n g0 N - 1)))), (11, .int (nI (m_th g0 g1 g2 N (m_n g0 N - 1)))), (10, .int (nI (z_bt g0 N (m_n g0 N - 1)))), (9, .int (nI (N - m_n g0 N))), (6, .int (nI N)), (4, .int x), (5, .int (nI (m_n g0 N))), (7, .int (nI (m_n g0 N - 1))), (15, .ref a15), (16, .ref a16), (3, .int (nI T)), (0, .ref b), (1, .ref (ad 0)), (2, .ref S)]) hx hb dL_law_553 hl (by decide) rfl (fun ls hl => ?_)
        refine lv_iload hx hb dL_law_555 (lv_at hl 2 rfl) ?_
        refine lv_iconst (v := 1) hx hb dL_law_557 (by decide) ?_
        refine lv_icmp_lt (tgt := 587) hx hb dL_law_558 (by decide) (fun c_558 => absurd c_558 (nI_nlt (b := 1) hp1 (by omega))) (fun c_558 => ?_)
        refine lv_aload_n hx hb dL_law_561 rfl (lv_at hl 19 rfl) ?_
        refine lv_iload hx hb dL_law_562 (lv_at hl 3 rfl) ?_
        refine q_callV (As := [.int (nI k)]) (rest := []) ⟨hx, hb, hml, hown, hts⟩ (d_topicsIn l D cI ad N pa pe f0 f1 f2 f3 f4 g0 g1 g2 hR k hk9) (cwV 1 hts gL_law_X0_topicsIn rfl rfl rfl kv_X0_topicsIn ⟨Nat.le_of_ble_eq_true rfl, Nat.le_of_ble_eq_true rfl⟩) (va_recv hK HT (ci := 0) (q0 := 0) rfl rfl) HT (hK.sub [0] rfl) rfl hl.1 rfl (Nat.le_of_ble_eq_true rfl) dL_law_564 (by show cells ≤ 600172; omega) (by show slots ≤ 7300668; omega) hS (fun H locs hsm hS => ?_)
        have hq := hq.tr hsm
        obtain ⟨-, HT, HP, -⟩ := hI.kept hq
        have h15 := z_kp h15 hsm
        have h16 := z_kp h16 hsm
        refine lv_iconst (v := 1) hx hb dL_law_567 (by decide) ?_
        refine lv_icmp_lt (tgt := 587) hx hb dL_law_568 (by decide) (fun c_568 => absurd c_568 (nI_nlt (b := 1) hp2 (by omega))) (fun c_568 => ?_)
        refine lv_aload_n hx hb dL_law_571 rfl (lv_at hl 19 rfl) ?_
        refine lv_iload hx hb dL_law_572 (lv_at hl 3 rfl) ?_
        refine q_callV (As := [.int (nI k)]) (rest := []) ⟨hx, hb, hml, hown, hts⟩ (d_topicsIn l D cI ad N pa pe f0 f1 f2 f3 f4 g0 g1 g2 hR k hk9) (cwV 1 hts gL_law_X0_topicsIn rfl rfl rfl kv_X0_topicsIn ⟨Nat.le_of_ble_eq_true rfl, Nat.le_of_ble_eq_true rfl⟩) (va_recv hK HT (ci := 0) (q0 := 0) rfl rfl) HT (hK.sub [0] rfl) rfl hl.1 rfl (Nat.le_of_ble_eq_true rfl) dL_law_574 (by show cells ≤ 600172; omega) (by show slots ≤ 7300668; omega) hS (fun H locs hsm hS => ?_)
        have hq := hq.tr hsm
        obtain ⟨-, HT, HP, -⟩ := hI.kept hq
        have h15 := z_kp h15 hsm
        have h16 := z_kp h16 hsm
        refine lv_bipush (v := 10) hx hb dL_law_577 (by decide) ?_
        refine lv_iload hx hb dL_law_579 (lv_at hl 2 rfl) ?_
        refine va_mmin hx hb (hml.trans hl.1.symm) hown (hts (.methodLink RL 39 Lib.Math.min.name) (by decide +kernel)) (hts (.static Lib.Math.min.name) (by decide +kernel)) (hts (.initialized "java/lang/Math") (by decide +kernel)) (hts (.code Lib.Math.min.name Lib.Math.min.code 2 (some .int)) (by decide +kernel)) (Nat.le_of_ble_eq_true rfl) (Nat.le_of_ble_eq_true rfl) (by show cells ≤ 600172; omega) (by show slots ≤ 7300668; omega) dL_law_581 ?_
        refine lv_icmp_le (tgt := 589) hx hb dL_law_584 (by decide) (fun c_584 => ?_) (fun c_584 => absurd (Int32.not_lt.mp (mn_nlt (a := m_ln g0 g1 g2 N (nI k)) (b := 10) hp4 hp3 (by omega) (by decide))) c_584)
        refine lv_iinc (v := (nI k + 1)) (lv' := [(20, .int (nI k + 1)), (19, .int (nI (z_mo g0 g1 g2 N (k + 1)))), (18, .int (nI (sm (fun k => m_ln g0 g1 g2 N (nI k)) k) + nI (m_ln g0 g1 g2 N (nI k)))), (21, .int (nI (m_ln g0 g1 g2 N (nI k)))), (17, .int (nI (m_tn g0 g1 g2 N))), (14, .int (m_ss g0 N (m_n g0 N - 1))), (13, .int (m_ma g0 g1 g2 N (m_n g0 N - 1))), (12, .int (nI (ct (m_pol g0 g1 g2 N) (m_n g0 N - 1)))), (11, .int (nI (m_th g0 g1 g2 N (m_n g0 N - 1)))), (10, .int (nI (z_bt g0 N (m_n g0 N - 1)))), (9, .int (nI (N - m_n g0 N))), (6, .int (nI N)), (4, .int x), (5, .int (nI (m_n g0 N))), (7, .int (nI (m_n g0 N - 1))), (15, .ref a15), (16, .ref a16), (3, .int (nI T)), (0, .ref b), (1, .ref (ad 0)), (2, .ref S)]) hx hb dL_law_589 hl (k := 3) rfl (by rfl) (by decide) rfl (fun ls hl => ?_)
        refine lv_goto (tgt := 524) hx hb dL_law_592 (by decide) ?_
        have e_20 : ((nI k + 1) : Int32) = nI (k + 1) := nI_1 k
        have e_18 : ((nI (sm (fun k => m_ln g0 g1 g2 N (nI k)) k) + nI (m_ln g0 g1 g2 N (nI k))) : Int32) = nI (sm (fun k => m_ln g0 g1 g2 N (nI k)) (k + 1)) := nI_add _ _
        exact ih524 (k + 1) (by omega) (by omega) _ locs ls hq h15 h16 hS (lv_eq (lv_sub (l' := [(20, .int (nI k + 1)), (19, .int (nI (z_mo g0 g1 g2 N (k + 1)))), (18, .int (nI (sm (fun k => m_ln g0 g1 g2 N (nI k)) k) + nI (m_ln g0 g1 g2 N (nI k)))), (17, .int (nI (m_tn g0 g1 g2 N))), (14, .int (m_ss g0 N (m_n g0 N - 1))), (13, .int (m_ma g0 g1 g2 N (m_n g0 N - 1))), (12, .int (nI (ct (m_pol g0 g1 g2 N) (m_n g0 N - 1)))), (11, .int (nI (m_th g0 g1 g2 N (m_n g0 N - 1)))), (10, .int (nI (z_bt g0 N (m_n g0 N - 1)))), (9, .int (nI (N - m_n g0 N))), (6, .int (nI N)), (4, .int x), (5, .int (nI (m_n g0 N))), (7, .int (nI (m_n g0 N - 1))), (15, .ref a15), (16, .ref a16), (3, .int (nI T)), (0, .ref b), (1, .ref (ad 0)), (2, .ref S)]) hl [0, 1, 2, 4, 5, 6, 7, 8, 9, 10, 11, 12, 13, 14, 15, 16, 17, 18, 19, 20] rfl) (by rw [e_18, e_20]))
  exact lo_524 ((m_tn g0 g1 g2 N) + 1) 0 (by omega) (by omega) _ locs ls hq h15 h16 hS (lv_sub hl [0, 1, 2, 3, 4, 5, 6, 7, 8, 9, 10, 11, 12, 13, 14, 15, 16, 17, 18, 19] rfl)
