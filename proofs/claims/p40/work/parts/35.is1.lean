/-! own rows: isSame, from its end to its start -/
set_option maxHeartbeats 4000000 in
set_option maxRecDepth 100000 in
theorem is_715 {p : Program} {l : Launch} {e : Env} {s : State} {m : MethodId} {args : Array Value} {below : List Frame} {meth : Method} {c : Code} {Hb : Heap} {D : va_G} {cI cA : ClassId} {ad : Nat → Nat} {S N pa : Nat} {pe : Int32} {f0 f1 f2 f3 f4 g0 g1 g2 : Nat → Int32} {O : Nat} {r : Nat → Nat} {rw : Nat → Nat} {O2 : Nat}  (hC : iC p s m meth c args D cI cA) (hI : iS D cI cA ad S N pa pe f0 f1 f2 f3 f4 g0 g1 g2 O r rw O2 Hb) (hb0 : s.heap.size ≤ Hb.size)  : ∀ (H : Heap) (locs : List Loc) (ls : Array Slot), q_same Hb H → va_S (e_F q_no s.heap.size) s.heap H locs → lv_has ls 20 [(13, .int (m_lg g0 g1 g2 N (m_tn g0 g1 g2 N))), (12, .int (nI (m_tn g0 g1 g2 N))), (7, .int (m_ss g0 N (m_n g0 N - 1))), (6, .int (m_ma g0 g1 g2 N (m_n g0 N - 1))), (5, .int (nI (ct (m_pol g0 g1 g2 N) (m_n g0 N - 1)))), (3, .int (nI (m_n g0 N))), (2, .ref O2), (0, .ref S), (1, .ref (ad 0))] → W p l e iRm s m args below meth c H locs 70 700 (iQ below args s) (F0 m 715 ls []) := by
  intro H locs ls hq  hS hl
  obtain ⟨hx, hb, hml, hr, hts, hown, hlocks, hK, hO⟩ := id hC
  have hR := hI.1
  obtain ⟨-, HT, HP, HG⟩ := hI.kept hq
  have hin : ∀ w ∈ wsX10, w ∈ wsX1_isSame := by decide +kernel
  have hN24 := hR.1.n
  have hm9 := m_n_le g0 N
  have hw := hR.1.ok
  refine lv_aload_n hx hb dX1_isSame_715 rfl (lv_at hl 8 rfl) ?_
  refine q_callV (As := []) (rest := []) ⟨hx, hb, hml, hown, hts⟩ (d_politeGaps l D cI ad N pa pe f0 f1 f2 f3 f4 g0 g1 g2 hR) (cwV 0 hts gX1_isSame_X0_politeGaps rfl rfl rfl kv_X0_politeGaps ⟨Nat.le_of_ble_eq_true rfl, Nat.le_of_ble_eq_true rfl⟩) (va_recv hK HT (ci := 0) (q0 := 0) rfl rfl) HT (hK.sub [0] rfl) rfl hl.1 rfl (Nat.le_of_ble_eq_true rfl) dX1_isSame_716 (by show 70 ≤ 70; omega) (by show 700 ≤ 700; omega) hS (fun H locs hsm hS => ?_)
  have hq := hq.tr hsm
  obtain ⟨-, HT, HP, HG⟩ := hI.kept hq
  refine lv_iload hx hb dX1_isSame_719 (lv_at hl 4 rfl) ?_
  refine lv_icmp_ne (tgt := 780) hx hb dX1_isSame_721 (by decide) (fun c_721 => absurd rfl c_721) (fun c_721 => ?_)
  refine lv_aload_n hx hb dX1_isSame_724 rfl (lv_at hl 8 rfl) ?_
  refine q_callV (As := []) (rest := []) ⟨hx, hb, hml, hown, hts⟩ (d_threads l D cI ad N pa pe f0 f1 f2 f3 f4 g0 g1 g2 hR) (cwV 0 hts gX1_isSame_X0_threads rfl rfl rfl kv_X0_threads ⟨Nat.le_of_ble_eq_true rfl, Nat.le_of_ble_eq_true rfl⟩) (va_recv hK HT (ci := 0) (q0 := 0) rfl rfl) HT (hK.sub [0] rfl) rfl hl.1 rfl (Nat.le_of_ble_eq_true rfl) dX1_isSame_725 (by show 70 ≤ 70; omega) (by show 700 ≤ 700; omega) hS (fun H locs hsm hS => ?_)
  have hq := hq.tr hsm
  obtain ⟨-, HT, HP, HG⟩ := hI.kept hq
  refine lv_iload hx hb dX1_isSame_728 (lv_at hl 1 rfl) ?_
  refine lv_icmp_ne (tgt := 780) hx hb dX1_isSame_730 (by decide) (fun c_730 => absurd rfl c_730) (fun c_730 => ?_)
  refine lv_aload_n hx hb dX1_isSame_733 rfl (lv_at hl 8 rfl) ?_
  refine q_callV (As := []) (rest := []) ⟨hx, hb, hml, hown, hts⟩ (d_longestThread l D cI ad N pa pe f0 f1 f2 f3 f4 g0 g1 g2 hR) (cwV 0 hts gX1_isSame_X0_longestThread rfl rfl rfl kv_X0_longestThread ⟨Nat.le_of_ble_eq_true rfl, Nat.le_of_ble_eq_true rfl⟩) (va_recv hK HT (ci := 0) (q0 := 0) rfl rfl) HT (hK.sub [0] rfl) rfl hl.1 rfl (Nat.le_of_ble_eq_true rfl) dX1_isSame_734 (by show 70 ≤ 70; omega) (by show 700 ≤ 700; omega) hS (fun H locs hsm hS => ?_)
  have hq := hq.tr hsm
  obtain ⟨-, HT, HP, HG⟩ := hI.kept hq
  refine lv_iload hx hb dX1_isSame_737 (lv_at hl 0 rfl) ?_
  refine lv_icmp_ne (tgt := 780) hx hb dX1_isSame_739 (by decide) (fun c_739 => absurd rfl c_739) (fun c_739 => ?_)
  refine lv_aload_n hx hb dX1_isSame_742 rfl (lv_at hl 8 rfl) ?_
  refine q_callV (As := []) (rest := []) ⟨hx, hb, hml, hown, hts⟩ (d_costOfAll l D cI ad N pa pe f0 f1 f2 f3 f4 g0 g1 g2 hR) (cwV 0 hts gX1_isSame_X0_costOfAll rfl rfl rfl kv_X0_costOfAll ⟨Nat.le_of_ble_eq_true rfl, Nat.le_of_ble_eq_true rfl⟩) (va_recv hK HT (ci := 0) (q0 := 0) rfl rfl) HT (hK.sub [0] rfl) rfl hl.1 rfl (Nat.le_of_ble_eq_true rfl) dX1_isSame_743 (by show 70 ≤ 70; omega) (by show 700 ≤ 700; omega) hS (fun H locs hsm hS => ?_)
  have hq := hq.tr hsm
  obtain ⟨-, HT, HP, HG⟩ := hI.kept hq
  refine lv_iload hx hb dX1_isSame_746 (lv_at hl 3 rfl) ?_
  refine lv_icmp_ne (tgt := 780) hx hb dX1_isSame_748 (by decide) (fun c_748 => absurd rfl c_748) (fun c_748 => ?_)
  refine lv_aload_n hx hb dX1_isSame_751 rfl (lv_at hl 8 rfl) ?_
  refine q_callVF (As := []) (rest := []) ⟨hx, hb, hml, hown, hts⟩ (d_meanStrain l D cI ad N pa pe f0 f1 f2 f3 f4 g0 g1 g2 hR) (cwV 0 hts gX1_isSame_X0_meanStrain rfl rfl rfl kv_X0_meanStrain ⟨Nat.le_of_ble_eq_true rfl, Nat.le_of_ble_eq_true rfl⟩) (va_recv hK HT (ci := 0) (q0 := 0) rfl rfl) HT (hK.sub [0] rfl) rfl hl.1 rfl (Nat.le_of_ble_eq_true rfl) dX1_isSame_752 (by show 70 ≤ 70; omega) (by show 700 ≤ 700; omega) hS (fun H locs hsm hS => ?_)
  have hq := hq.tr hsm
  obtain ⟨-, HT, HP, HG⟩ := hI.kept hq
  refine lv_iload_n hx hb dX1_isSame_755 rfl (lv_at hl 5 rfl) ?_
  refine lv_iconst (v := 2) hx hb dX1_isSame_756 (by decide) ?_
  suffices K_757 : ∀ v9 : UInt64, v9 = (m_ms g0 N) → W p l e iRm s m args below meth c H locs 70 700 (iQ below args s) (F0 m 772 ls [.double v9, .double (m_ms g0 N)]) from by
    refine lv_icmp_ge (tgt := 764) hx hb dX1_isSame_757 (by decide) (fun c_757 => ?_) (fun c_757 => ?_)
    · have h757 : 2 ≤ m_n g0 N := by
        have h := c_757
        rwa [show (2 : Int32) = nI 2 from rfl, nI_leI (by decide) (by omega)] at h
      have hm1 : nI (m_n g0 N) - 1 = nI (m_n g0 N - 1) := nI_m1 (by omega)
      refine lv_iload hx hb dX1_isSame_764 (lv_at hl 2 rfl) ?_
      refine lv_i2d hx hb dX1_isSame_766 ?_
      refine lv_iload_n hx hb dX1_isSame_767 rfl (lv_at hl 5 rfl) ?_
      refine lv_iconst (v := 1) hx hb dX1_isSame_768 (by decide) ?_
      refine lv_isub hx hb dX1_isSame_769 ?_
      refine lv_i2d hx hb dX1_isSame_770 ?_
      refine lv_ddiv hx hb dX1_isSame_771 (by rw [hm1]; exact hR.1.hnn (by omega)) ?_
      exact K_757 _ (by rw [hm1]; unfold m_ms; rw [if_neg (by omega)])
    · have h757 : m_n g0 N < 2 := by
        rcases Nat.lt_or_ge (m_n g0 N) 2 with q | q
        · exact q
        · exact absurd (nI_le (a := 2) q (by omega)) c_757
      refine lv_dconst0 hx hb dX1_isSame_760 ?_
      refine lv_goto (tgt := 772) hx hb dX1_isSame_761 (by decide) ?_
      exact K_757 _ (by unfold m_ms; rw [if_pos (by omega)])
  intro v9 hv9
  rw [hv9]; clear hv9
  refine lv_dcmp hx hb dX1_isSame_772 ?_
  rw [m_ms_c hR.1]
  refine W.eq (g2 := F0 m 773 ls [.int 0]) rfl ?_
  refine lv_if_ne (tgt := 780) hx hb dX1_isSame_773 (by decide) (fun h9 => absurd (by decide) h9) (fun _ => ?_)
  refine lv_iconst (v := 1) hx hb dX1_isSame_776 (by decide) ?_
  refine lv_goto (tgt := 781) hx hb dX1_isSame_777 (by decide) ?_
  exact e_retZ () hx hb hr hlocks hS trivial rfl (Or.inr rfl) (by show 70 ≤ 70; omega) (by show 700 ≤ 700; omega) dX1_isSame_781

set_option maxHeartbeats 4000000 in
set_option maxRecDepth 100000 in
theorem is_627 {p : Program} {l : Launch} {e : Env} {s : State} {m : MethodId} {args : Array Value} {below : List Frame} {meth : Method} {c : Code} {Hb : Heap} {D : va_G} {cI cA : ClassId} {ad : Nat → Nat} {S N pa : Nat} {pe : Int32} {f0 f1 f2 f3 f4 g0 g1 g2 : Nat → Int32} {O : Nat} {r : Nat → Nat} {rw : Nat → Nat} {O2 : Nat} {a8 a9 a10 a11 : Nat} (hC : iC p s m meth c args D cI cA) (hI : iS D cI cA ad S N pa pe f0 f1 f2 f3 f4 g0 g1 g2 O r rw O2 Hb) (hb0 : s.heap.size ≤ Hb.size) (hX : iX Hb.size a8 a9 a10 a11) : ∀ (H : Heap) (locs : List Loc) (ls : Array Slot), q_same Hb H → iA cI cA g0 g1 g2 N a8 a9 a10 a11 (m_n g0 N) H → va_S (e_F q_no s.heap.size) s.heap H locs → lv_has ls 20 [(13, .int (m_lg g0 g1 g2 N (m_tn g0 g1 g2 N))), (12, .int (nI (m_tn g0 g1 g2 N))), (11, .ref a11), (10, .ref a10), (9, .ref a9), (8, .ref a8), (7, .int (m_ss g0 N (m_n g0 N - 1))), (6, .int (m_ma g0 g1 g2 N (m_n g0 N - 1))), (5, .int (nI (ct (m_pol g0 g1 g2 N) (m_n g0 N - 1)))), (3, .int (nI (m_n g0 N))), (2, .ref O2), (0, .ref S), (1, .ref (ad 0))] → W p l e iRm s m args below meth c H locs 70 700 (iQ below args s) (F0 m 627 ls []) := by
  intro H locs ls hq hA hS hl
  obtain ⟨hx, hb, hml, hr, hts, hown, hlocks, hK, hO⟩ := id hC
  have hR := hI.1
  obtain ⟨-, HT, HP, HG⟩ := hI.kept hq
  have hin : ∀ w ∈ wsX10, w ∈ wsX1_isSame := by decide +kernel
  have hN24 := hR.1.n
  have hm9 := m_n_le g0 N
  have hw := hR.1.ok
  refine lv_iconst (v := 0) hx hb dX1_isSame_627 (by decide) ?_
  refine lv_istore (lv' := [(14, .int 0), (13, .int (m_lg g0 g1 g2 N (m_tn g0 g1 g2 N))), (12, .int (nI (m_tn g0 g1 g2 N))), (11, .ref a11), (10, .ref a10), (9, .ref a9), (8, .ref a8), (7, .int (m_ss g0 N (m_n g0 N - 1))), (6, .int (m_ma g0 g1 g2 N (m_n g0 N - 1))), (5, .int (nI (ct (m_pol g0 g1 g2 N) (m_n g0 N - 1)))), (3, .int (nI (m_n g0 N))), (2, .ref O2), (0, .ref S), (1, .ref (ad 0))]) hx hb dX1_isSame_628 hl (by decide) rfl (fun ls hl => ?_)
  have lo_630 : ∀ (fu630 v : Nat), 6 - v < fu630 → v ≤ 6 → ∀ (H : Heap) (locs : List Loc) (ls : Array Slot), q_same Hb H → iA cI cA g0 g1 g2 N a8 a9 a10 a11 (m_n g0 N) H → va_S (e_F q_no s.heap.size) s.heap H locs → lv_has ls 20 [(14, .int (nI v)), (13, .int (m_lg g0 g1 g2 N (m_tn g0 g1 g2 N))), (12, .int (nI (m_tn g0 g1 g2 N))), (11, .ref a11), (10, .ref a10), (9, .ref a9), (8, .ref a8), (7, .int (m_ss g0 N (m_n g0 N - 1))), (6, .int (m_ma g0 g1 g2 N (m_n g0 N - 1))), (5, .int (nI (ct (m_pol g0 g1 g2 N) (m_n g0 N - 1)))), (3, .int (nI (m_n g0 N))), (2, .ref O2), (0, .ref S), (1, .ref (ad 0))] → W p l e iRm s m args below meth c H locs 70 700 (iQ below args s) (F0 m 630 ls []) := by
    intro fu630
    induction fu630 with
    | zero => intro v hi; exact absurd hi (Nat.not_lt_zero _)
    | succ fu630 ih630 =>
      intro v hi630 hvN H locs ls hq hA hS hl
      refine lv_iload hx hb dX1_isSame_630 (lv_at hl 0 rfl) ?_
      obtain ⟨-, HT, HP, HG⟩ := hI.kept hq
      refine lv_bipush (v := 6) hx hb dX1_isSame_632 (by decide) ?_
      refine lv_icmp_ge (tgt := 715) hx hb dX1_isSame_634 (by decide) (fun c_634 => ?_) (fun c_634 => ?_)
      · exact is_715 hC hI hb0 H locs ls hq  hS (lv_sub hl [1, 2, 7, 8, 9, 10, 11, 12, 13] rfl)
      · have hv9 : v < 6 := nI_lt' hvN (by decide) c_634
        refine lv_iconst (v := 0) hx hb dX1_isSame_637 (by decide) ?_
        refine lv_istore (lv' := [(15, .int 0), (14, .int (nI v)), (13, .int (m_lg g0 g1 g2 N (m_tn g0 g1 g2 N))), (12, .int (nI (m_tn g0 g1 g2 N))), (11, .ref a11), (10, .ref a10), (9, .ref a9), (8, .ref a8), (7, .int (m_ss g0 N (m_n g0 N - 1))), (6, .int (m_ma g0 g1 g2 N (m_n g0 N - 1))), (5, .int (nI (ct (m_pol g0 g1 g2 N) (m_n g0 N - 1)))), (3, .int (nI (m_n g0 N))), (2, .ref O2), (0, .ref S), (1, .ref (ad 0))]) hx hb dX1_isSame_638 hl (by decide) rfl (fun ls hl => ?_)
        refine lv_aload hx hb dX1_isSame_640 (lv_at hl 5 rfl) ?_
        refine lv_iload hx hb dX1_isSame_642 (lv_at hl 1 rfl) ?_
        refine z_gal hx hb hK 1 rfl hA.2.2.1 v (hv9) (by omega) rfl dX1_isSame_644 ?_
        refine lv_astore (lv' := [(16, .ref (a10 + 1 + v)), (15, .int 0), (14, .int (nI v)), (13, .int (m_lg g0 g1 g2 N (m_tn g0 g1 g2 N))), (12, .int (nI (m_tn g0 g1 g2 N))), (11, .ref a11), (10, .ref a10), (9, .ref a9), (8, .ref a8), (7, .int (m_ss g0 N (m_n g0 N - 1))), (6, .int (m_ma g0 g1 g2 N (m_n g0 N - 1))), (5, .int (nI (ct (m_pol g0 g1 g2 N) (m_n g0 N - 1)))), (3, .int (nI (m_n g0 N))), (2, .ref O2), (0, .ref S), (1, .ref (ad 0))]) hx hb dX1_isSame_645 hl (by decide) rfl (fun ls hl => ?_)
        refine lv_aload hx hb dX1_isSame_647 (lv_at hl 0 rfl) ?_
        obtain ⟨f9, hf9, -⟩ := hA.2.2.1.2 v hv9
        refine z_iln hx hb hK 0 rfl hf9 dX1_isSame_649 ?_
        refine lv_istore (lv' := [(17, .int (nI (m_n g0 N + 1))), (16, .ref (a10 + 1 + v)), (15, .int 0), (14, .int (nI v)), (13, .int (m_lg g0 g1 g2 N (m_tn g0 g1 g2 N))), (12, .int (nI (m_tn g0 g1 g2 N))), (11, .ref a11), (10, .ref a10), (9, .ref a9), (8, .ref a8), (7, .int (m_ss g0 N (m_n g0 N - 1))), (6, .int (m_ma g0 g1 g2 N (m_n g0 N - 1))), (5, .int (nI (ct (m_pol g0 g1 g2 N) (m_n g0 N - 1)))), (3, .int (nI (m_n g0 N))), (2, .ref O2), (0, .ref S), (1, .ref (ad 0))]) hx hb dX1_isSame_650 hl (by decide) rfl (fun ls hl => ?_)
        refine lv_iconst (v := 0) hx hb dX1_isSame_652 (by decide) ?_
        refine lv_istore (lv' := [(18, .int 0), (17, .int (nI (m_n g0 N + 1))), (16, .ref (a10 + 1 + v)), (15, .int 0), (14, .int (nI v)), (13, .int (m_lg g0 g1 g2 N (m_tn g0 g1 g2 N))), (12, .int (nI (m_tn g0 g1 g2 N))), (11, .ref a11), (10, .ref a10), (9, .ref a9), (8, .ref a8), (7, .int (m_ss g0 N (m_n g0 N - 1))), (6, .int (m_ma g0 g1 g2 N (m_n g0 N - 1))), (5, .int (nI (ct (m_pol g0 g1 g2 N) (m_n g0 N - 1)))), (3, .int (nI (m_n g0 N))), (2, .ref O2), (0, .ref S), (1, .ref (ad 0))]) hx hb dX1_isSame_653 hl (by decide) rfl (fun ls hl => ?_)
        have lo_655 : ∀ (fu655 i : Nat), (m_n g0 N + 1) - i < fu655 → i ≤ (m_n g0 N + 1) → ∀ (H : Heap) (locs : List Loc) (ls : Array Slot), q_same Hb H → iA cI cA g0 g1 g2 N a8 a9 a10 a11 (m_n g0 N) H → va_S (e_F q_no s.heap.size) s.heap H locs → lv_has ls 20 [(18, .int (nI i)), (15, .int (nI (ct (fun j => (m_ts g0 g1 g2 N (nI v) (m_n g0 N)).testBit j) i))), (17, .int (nI (m_n g0 N + 1))), (16, .ref (a10 + 1 + v)), (14, .int (nI v)), (13, .int (m_lg g0 g1 g2 N (m_tn g0 g1 g2 N))), (12, .int (nI (m_tn g0 g1 g2 N))), (11, .ref a11), (10, .ref a10), (9, .ref a9), (8, .ref a8), (7, .int (m_ss g0 N (m_n g0 N - 1))), (6, .int (m_ma g0 g1 g2 N (m_n g0 N - 1))), (5, .int (nI (ct (m_pol g0 g1 g2 N) (m_n g0 N - 1)))), (3, .int (nI (m_n g0 N))), (2, .ref O2), (0, .ref S), (1, .ref (ad 0))] → W p l e iRm s m args below meth c H locs 70 700 (iQ below args s) (F0 m 655 ls []) := by
          intro fu655
          induction fu655 with
          | zero => intro i hi; exact absurd hi (Nat.not_lt_zero _)
          | succ fu655 ih655 =>
            intro i hi655 hiN H locs ls hq hA hS hl
            refine lv_iload hx hb dX1_isSame_655 (lv_at hl 0 rfl) ?_
            obtain ⟨-, HT, HP, HG⟩ := hI.kept hq
            refine lv_iload hx hb dX1_isSame_657 (lv_at hl 2 rfl) ?_
            refine lv_icmp_ge (tgt := 682) hx hb dX1_isSame_659 (by decide) (fun c_659 => ?_) (fun c_659 => ?_)
            · have hi8 : i = m_n g0 N + 1 := nI_ge' hiN (by omega) c_659
              refine lv_aload_n hx hb dX1_isSame_682 rfl (lv_at hl 17 rfl) ?_
              refine lv_iload hx hb dX1_isSame_683 (lv_at hl 4 rfl) ?_
              refine q_callV (As := [.int (nI v)]) (rest := []) ⟨hx, hb, hml, hown, hts⟩ (d_wordsOf l D cI ad N pa pe f0 f1 f2 f3 f4 g0 g1 g2 hR v hv9) (cwV 1 hts gX1_isSame_X0_wordsOf rfl rfl rfl kv_X0_wordsOf ⟨Nat.le_of_ble_eq_true rfl, Nat.le_of_ble_eq_true rfl⟩) (va_recv hK HT (ci := 0) (q0 := 0) rfl rfl) HT (hK.sub [0] rfl) rfl hl.1 rfl (Nat.le_of_ble_eq_true rfl) dX1_isSame_685 (by show 70 ≤ 70; omega) (by show 700 ≤ 700; omega) hS (fun H locs hsm hS => ?_)
              have hq := hq.tr hsm
              obtain ⟨-, HT, HP, HG⟩ := hI.kept hq
              have hA := hA.kept hsm
              refine lv_aload hx hb dX1_isSame_688 (lv_at hl 9 rfl) ?_
              refine lv_iload hx hb dX1_isSame_690 (lv_at hl 4 rfl) ?_
              refine z_iald hx hb hK 0 rfl hA.2.1 v rfl (hv9) (by decide) dX1_isSame_692 ?_
              refine lv_icmp_ne (tgt := 707) hx hb dX1_isSame_693 (by decide) (fun c_693 => absurd rfl c_693) (fun c_693 => ?_)
              refine lv_aload_n hx hb dX1_isSame_696 rfl (lv_at hl 17 rfl) ?_
              refine lv_iload hx hb dX1_isSame_697 (lv_at hl 4 rfl) ?_
              refine q_callV (As := [.int (nI v)]) (rest := []) ⟨hx, hb, hml, hown, hts⟩ (d_threadsOf l D cI ad N pa pe f0 f1 f2 f3 f4 g0 g1 g2 hR v hv9) (cwV 1 hts gX1_isSame_X0_threadsOf rfl rfl rfl kv_X0_threadsOf ⟨Nat.le_of_ble_eq_true rfl, Nat.le_of_ble_eq_true rfl⟩) (va_recv hK HT (ci := 0) (q0 := 0) rfl rfl) HT (hK.sub [0] rfl) rfl hl.1 rfl (Nat.le_of_ble_eq_true rfl) dX1_isSame_699 (by show 70 ≤ 70; omega) (by show 700 ≤ 700; omega) hS (fun H locs hsm hS => ?_)
              have hq := hq.tr hsm
              obtain ⟨-, HT, HP, HG⟩ := hI.kept hq
              have hA := hA.kept hsm
              refine lv_iload hx hb dX1_isSame_702 (lv_at hl 1 rfl) ?_
              refine lv_icmp_eq (tgt := 709) hx hb dX1_isSame_704 (by decide) (fun c_704 => ?_) (fun c_704 => absurd (by rw [hi8, pcn_tail (a := m_n g0 N + 1) (fun j hj => m_ts_hi g0 g1 g2 N _ _ j (by omega)) (by omega)]) c_704)
              refine lv_iinc (v := (nI v + 1)) (lv' := [(14, .int (nI v + 1)), (18, .int (nI i)), (15, .int (nI (ct (fun j => (m_ts g0 g1 g2 N (nI v) (m_n g0 N)).testBit j) i))), (17, .int (nI (m_n g0 N + 1))), (16, .ref (a10 + 1 + v)), (13, .int (m_lg g0 g1 g2 N (m_tn g0 g1 g2 N))), (12, .int (nI (m_tn g0 g1 g2 N))), (11, .ref a11), (10, .ref a10), (9, .ref a9), (8, .ref a8), (7, .int (m_ss g0 N (m_n g0 N - 1))), (6, .int (m_ma g0 g1 g2 N (m_n g0 N - 1))), (5, .int (nI (ct (m_pol g0 g1 g2 N) (m_n g0 N - 1)))), (3, .int (nI (m_n g0 N))), (2, .ref O2), (0, .ref S), (1, .ref (ad 0))]) hx hb dX1_isSame_709 hl (k := 4) rfl (by rfl) (by decide) rfl (fun ls hl => ?_)
              refine lv_goto (tgt := 630) hx hb dX1_isSame_712 (by decide) ?_
              have e_14 : ((nI v + 1) : Int32) = nI (v + 1) := nI_1 v
              exact ih630 (v + 1) (by omega) (by omega) _ locs ls hq hA hS (lv_eq (lv_sub (l' := [(14, .int (nI v + 1)), (13, .int (m_lg g0 g1 g2 N (m_tn g0 g1 g2 N))), (12, .int (nI (m_tn g0 g1 g2 N))), (11, .ref a11), (10, .ref a10), (9, .ref a9), (8, .ref a8), (7, .int (m_ss g0 N (m_n g0 N - 1))), (6, .int (m_ma g0 g1 g2 N (m_n g0 N - 1))), (5, .int (nI (ct (m_pol g0 g1 g2 N) (m_n g0 N - 1)))), (3, .int (nI (m_n g0 N))), (2, .ref O2), (0, .ref S), (1, .ref (ad 0))]) hl [0, 5, 6, 7, 8, 9, 10, 11, 12, 13, 14, 15, 16, 17] rfl) (by rw [e_14]))
            · have hi8 : i < m_n g0 N + 1 := nI_lt' hiN (by omega) c_659
              refine lv_aload hx hb dX1_isSame_662 (lv_at hl 3 rfl) ?_
              refine lv_iload hx hb dX1_isSame_664 (lv_at hl 0 rfl) ?_
              refine z_gil hx hb hK 0 rfl hA.2.2.1 v (hv9) i (hi8) (by omega) (v := bI ((m_ts g0 g1 g2 N (nI v) (m_n g0 N)).testBit i)) rfl rfl dX1_isSame_666 ?_
              refine lv_istore (lv' := [(19, .int (bI ((m_ts g0 g1 g2 N (nI v) (m_n g0 N)).testBit i))), (18, .int (nI i)), (15, .int (nI (ct (fun j => (m_ts g0 g1 g2 N (nI v) (m_n g0 N)).testBit j) i))), (17, .int (nI (m_n g0 N + 1))), (16, .ref (a10 + 1 + v)), (14, .int (nI v)), (13, .int (m_lg g0 g1 g2 N (m_tn g0 g1 g2 N))), (12, .int (nI (m_tn g0 g1 g2 N))), (11, .ref a11), (10, .ref a10), (9, .ref a9), (8, .ref a8), (7, .int (m_ss g0 N (m_n g0 N - 1))), (6, .int (m_ma g0 g1 g2 N (m_n g0 N - 1))), (5, .int (nI (ct (m_pol g0 g1 g2 N) (m_n g0 N - 1)))), (3, .int (nI (m_n g0 N))), (2, .ref O2), (0, .ref S), (1, .ref (ad 0))]) hx hb dX1_isSame_667 hl (by decide) rfl (fun ls hl => ?_)
              refine lv_iload hx hb dX1_isSame_669 (lv_at hl 2 rfl) ?_
              refine lv_iload hx hb dX1_isSame_671 (lv_at hl 0 rfl) ?_
              refine lv_iadd hx hb dX1_isSame_673 ?_
              refine lv_istore (lv' := [(15, .int (nI (ct (fun j => (m_ts g0 g1 g2 N (nI v) (m_n g0 N)).testBit j) i) + bI ((m_ts g0 g1 g2 N (nI v) (m_n g0 N)).testBit i))), (19, .int (bI ((m_ts g0 g1 g2 N (nI v) (m_n g0 N)).testBit i))), (18, .int (nI i)), (17, .int (nI (m_n g0 N + 1))), (16, .ref (a10 + 1 + v)), (14, .int (nI v)), (13, .int (m_lg g0 g1 g2 N (m_tn g0 g1 g2 N))), (12, .int (nI (m_tn g0 g1 g2 N))), (11, .ref a11), (10, .ref a10), (9, .ref a9), (8, .ref a8), (7, .int (m_ss g0 N (m_n g0 N - 1))), (6, .int (m_ma g0 g1 g2 N (m_n g0 N - 1))), (5, .int (nI (ct (m_pol g0 g1 g2 N) (m_n g0 N - 1)))), (3, .int (nI (m_n g0 N))), (2, .ref O2), (0, .ref S), (1, .ref (ad 0))]) hx hb dX1_isSame_674 hl (by decide) rfl (fun ls hl => ?_)
              refine lv_iinc (v := (nI i + 1)) (lv' := [(18, .int (nI i + 1)), (15, .int (nI (ct (fun j => (m_ts g0 g1 g2 N (nI v) (m_n g0 N)).testBit j) i) + bI ((m_ts g0 g1 g2 N (nI v) (m_n g0 N)).testBit i))), (19, .int (bI ((m_ts g0 g1 g2 N (nI v) (m_n g0 N)).testBit i))), (17, .int (nI (m_n g0 N + 1))), (16, .ref (a10 + 1 + v)), (14, .int (nI v)), (13, .int (m_lg g0 g1 g2 N (m_tn g0 g1 g2 N))), (12, .int (nI (m_tn g0 g1 g2 N))), (11, .ref a11), (10, .ref a10), (9, .ref a9), (8, .ref a8), (7, .int (m_ss g0 N (m_n g0 N - 1))), (6, .int (m_ma g0 g1 g2 N (m_n g0 N - 1))), (5, .int (nI (ct (m_pol g0 g1 g2 N) (m_n g0 N - 1)))), (3, .int (nI (m_n g0 N))), (2, .ref O2), (0, .ref S), (1, .ref (ad 0))]) hx hb dX1_isSame_676 hl (k := 2) rfl (by rfl) (by decide) rfl (fun ls hl => ?_)
              refine lv_goto (tgt := 655) hx hb dX1_isSame_679 (by decide) ?_
              have e_18 : ((nI i + 1) : Int32) = nI (i + 1) := nI_1 i
              have e_15 : ((nI (ct (fun j => (m_ts g0 g1 g2 N (nI v) (m_n g0 N)).testBit j) i) + bI ((m_ts g0 g1 g2 N (nI v) (m_n g0 N)).testBit i)) : Int32) = nI (ct (fun j => (m_ts g0 g1 g2 N (nI v) (m_n g0 N)).testBit j) (i + 1)) := bI_ct _ i
              exact ih655 (i + 1) (by omega) (by omega) _ locs ls hq hA hS (lv_eq (lv_sub (l' := [(18, .int (nI i + 1)), (15, .int (nI (ct (fun j => (m_ts g0 g1 g2 N (nI v) (m_n g0 N)).testBit j) i) + bI ((m_ts g0 g1 g2 N (nI v) (m_n g0 N)).testBit i))), (17, .int (nI (m_n g0 N + 1))), (16, .ref (a10 + 1 + v)), (14, .int (nI v)), (13, .int (m_lg g0 g1 g2 N (m_tn g0 g1 g2 N))), (12, .int (nI (m_tn g0 g1 g2 N))), (11, .ref a11), (10, .ref a10), (9, .ref a9), (8, .ref a8), (7, .int (m_ss g0 N (m_n g0 N - 1))), (6, .int (m_ma g0 g1 g2 N (m_n g0 N - 1))), (5, .int (nI (ct (m_pol g0 g1 g2 N) (m_n g0 N - 1)))), (3, .int (nI (m_n g0 N))), (2, .ref O2), (0, .ref S), (1, .ref (ad 0))]) hl [0, 1, 3, 4, 5, 6, 7, 8, 9, 10, 11, 12, 13, 14, 15, 16, 17, 18] rfl) (by rw [e_15, e_18]))
        exact lo_655 ((m_n g0 N + 1) + 1) 0 (by omega) (by omega) _ locs ls hq hA hS (lv_sub hl [0, 3, 1, 2, 4, 5, 6, 7, 8, 9, 10, 11, 12, 13, 14, 15, 16, 17] rfl)
  exact lo_630 (6 + 1) 0 (by omega) (by omega) _ locs ls hq hA hS (lv_sub hl [0, 1, 2, 3, 4, 5, 6, 7, 8, 9, 10, 11, 12, 13] rfl)

theorem lg_t {g0 g1 g2 : Nat → Int32} {N k : Nat} (hk : k ≤ 24) (h : m_lg g0 g1 g2 N k < 0) : m_lg g0 g1 g2 N (k + 1) = nI k := by
  show (if m_lg g0 g1 g2 N k = -1 then nI k else _) = _
  by_cases z : k = 0
  · subst z
    rfl
  · obtain ⟨j, hj, e⟩ := m_lg_b g0 g1 g2 N k hk (by omega)
    rw [e] at h
    exact absurd h (nI_pos (by omega))
theorem lg_n {g0 g1 g2 : Nat → Int32} {N k j : Nat} (e : m_lg g0 g1 g2 N k = nI j) (hj : j < 24) (h : ¬ nI (m_ln g0 g1 g2 N (nI k)) ≤ nI (m_ln g0 g1 g2 N (nI j))) : m_lg g0 g1 g2 N (k + 1) = nI k := by
  show (if m_lg g0 g1 g2 N k = -1 then nI k else if nI (m_ln g0 g1 g2 N (m_lg g0 g1 g2 N k)) < nI (m_ln g0 g1 g2 N (nI k)) then nI k else _) = _
  rw [e, if_neg (nI_m1n j hj), if_pos (Int32.not_le.mp h)]
theorem lg_k {g0 g1 g2 : Nat → Int32} {N k j : Nat} (e : m_lg g0 g1 g2 N k = nI j) (hj : j < 24) (h : nI (m_ln g0 g1 g2 N (nI k)) ≤ nI (m_ln g0 g1 g2 N (nI j))) : m_lg g0 g1 g2 N (k + 1) = m_lg g0 g1 g2 N k := by
  show (if m_lg g0 g1 g2 N k = -1 then nI k else if nI (m_ln g0 g1 g2 N (m_lg g0 g1 g2 N k)) < nI (m_ln g0 g1 g2 N (nI k)) then nI k else m_lg g0 g1 g2 N k) = m_lg g0 g1 g2 N k
  rw [e, if_neg (nI_m1n j hj), if_neg (Int32.not_lt.mpr h)]
theorem m_kd0 (g0 g1 g2 : Nat → Int32) (N g : Nat) : decide (m_kd g0 g1 g2 N g = 0) = m_so g0 g2 N g := k_0 _ _ _
theorem m_kd1 (g0 g1 g2 : Nat → Int32) (N g : Nat) : decide (m_kd g0 g1 g2 N g = 1) = m_pol g0 g1 g2 N g := by
  unfold m_pol
  rw [← m_kd0 g0 g1 g2 N g, ← m_kd2]
  exact k_1 _ _ _
set_option maxHeartbeats 4000000 in
set_option maxRecDepth 100000 in
theorem is_500 {p : Program} {l : Launch} {e : Env} {s : State} {m : MethodId} {args : Array Value} {below : List Frame} {meth : Method} {c : Code} {Hb : Heap} {D : va_G} {cI cA : ClassId} {ad : Nat → Nat} {S N pa : Nat} {pe : Int32} {f0 f1 f2 f3 f4 g0 g1 g2 : Nat → Int32} {O : Nat} {r : Nat → Nat} {rw : Nat → Nat} {O2 : Nat} {a8 a9 a10 a11 : Nat} (hC : iC p s m meth c args D cI cA) (hI : iS D cI cA ad S N pa pe f0 f1 f2 f3 f4 g0 g1 g2 O r rw O2 Hb) (hb0 : s.heap.size ≤ Hb.size) (hX : iX Hb.size a8 a9 a10 a11) : ∀ (H : Heap) (locs : List Loc) (ls : Array Slot), q_same Hb H → iA cI cA g0 g1 g2 N a8 a9 a10 a11 (m_n g0 N) H → va_S (e_F q_no s.heap.size) s.heap H locs → lv_has ls 20 [(4, .int (nI (m_th g0 g1 g2 N (m_n g0 N - 1)))), (7, .int (m_ss g0 N (m_n g0 N - 1))), (6, .int (m_ma g0 g1 g2 N (m_n g0 N - 1))), (5, .int (nI (ct (m_pol g0 g1 g2 N) (m_n g0 N - 1)))), (11, .ref a11), (10, .ref a10), (9, .ref a9), (8, .ref a8), (3, .int (nI (m_n g0 N))), (2, .ref O2), (0, .ref S), (1, .ref (ad 0))] → W p l e iRm s m args below meth c H locs 70 700 (iQ below args s) (F0 m 500 ls []) := by
  intro H locs ls hq hA hS hl
  obtain ⟨hx, hb, hml, hr, hts, hown, hlocks, hK, hO⟩ := id hC
  have hR := hI.1
  obtain ⟨-, HT, HP, HG⟩ := hI.kept hq
  have hin : ∀ w ∈ wsX10, w ∈ wsX1_isSame := by decide +kernel
  have hN24 := hR.1.n
  have hm9 := m_n_le g0 N
  have hw := hR.1.ok
  have htn := m_tn_le g0 g1 g2 N
  have htn2 : m_tn g0 g1 g2 N ≤ m_n g0 N := by
    unfold m_tn m_ab
    split
    · omega
    · have := ct_le (m_br g0 g1 g2 N) (m_n g0 N - 1)
      omega
  refine lv_iload_n hx hb dX1_isSame_500 rfl (lv_at hl 8 rfl) ?_
  suffices K_501 : ∀ v9 : Int32, v9 = (nI (m_tn g0 g1 g2 N)) → W p l e iRm s m args below meth c H locs 70 700 (iQ below args s) (F0 m 512 ls [.int v9]) from by
    refine lv_if_ne (tgt := 508) hx hb dX1_isSame_501 (by decide) (fun c_501 => ?_) (fun c_501 => ?_)
    · refine lv_iload hx hb dX1_isSame_508 (lv_at hl 0 rfl) ?_
      refine lv_iconst (v := 1) hx hb dX1_isSame_510 (by decide) ?_
      refine lv_iadd hx hb dX1_isSame_511 ?_
      exact K_501 _ (by rw [nI_1]; unfold m_tn; rw [if_neg (fun e => c_501 (by rw [e]; rfl))]; rfl)
    · refine lv_iconst (v := 0) hx hb dX1_isSame_504 (by decide) ?_
      refine lv_goto (tgt := 512) hx hb dX1_isSame_505 (by decide) ?_
      exact K_501 _ (by unfold m_tn; rw [if_pos (nI_z (by omega) c_501)]; rfl)
  intro v9 hv9
  rw [hv9]; clear hv9
  refine lv_istore (lv' := [(12, .int (nI (m_tn g0 g1 g2 N))), (4, .int (nI (m_th g0 g1 g2 N (m_n g0 N - 1)))), (7, .int (m_ss g0 N (m_n g0 N - 1))), (6, .int (m_ma g0 g1 g2 N (m_n g0 N - 1))), (5, .int (nI (ct (m_pol g0 g1 g2 N) (m_n g0 N - 1)))), (11, .ref a11), (10, .ref a10), (9, .ref a9), (8, .ref a8), (3, .int (nI (m_n g0 N))), (2, .ref O2), (0, .ref S), (1, .ref (ad 0))]) hx hb dX1_isSame_512 hl (by decide) rfl (fun ls hl => ?_)
  refine lv_iconst (v := -1) hx hb dX1_isSame_514 (by decide) ?_
  refine lv_istore (lv' := [(13, .int (-1)), (12, .int (nI (m_tn g0 g1 g2 N))), (4, .int (nI (m_th g0 g1 g2 N (m_n g0 N - 1)))), (7, .int (m_ss g0 N (m_n g0 N - 1))), (6, .int (m_ma g0 g1 g2 N (m_n g0 N - 1))), (5, .int (nI (ct (m_pol g0 g1 g2 N) (m_n g0 N - 1)))), (11, .ref a11), (10, .ref a10), (9, .ref a9), (8, .ref a8), (3, .int (nI (m_n g0 N))), (2, .ref O2), (0, .ref S), (1, .ref (ad 0))]) hx hb dX1_isSame_515 hl (by decide) rfl (fun ls hl => ?_)
  refine lv_iconst (v := 0) hx hb dX1_isSame_517 (by decide) ?_
  refine lv_istore (lv' := [(14, .int 0), (13, .int (-1)), (12, .int (nI (m_tn g0 g1 g2 N))), (4, .int (nI (m_th g0 g1 g2 N (m_n g0 N - 1)))), (7, .int (m_ss g0 N (m_n g0 N - 1))), (6, .int (m_ma g0 g1 g2 N (m_n g0 N - 1))), (5, .int (nI (ct (m_pol g0 g1 g2 N) (m_n g0 N - 1)))), (11, .ref a11), (10, .ref a10), (9, .ref a9), (8, .ref a8), (3, .int (nI (m_n g0 N))), (2, .ref O2), (0, .ref S), (1, .ref (ad 0))]) hx hb dX1_isSame_518 hl (by decide) rfl (fun ls hl => ?_)
  have lo_520 : ∀ (fu520 k : Nat), (m_tn g0 g1 g2 N) - k < fu520 → k ≤ (m_tn g0 g1 g2 N) → ∀ (H : Heap) (locs : List Loc) (ls : Array Slot), q_same Hb H → iA cI cA g0 g1 g2 N a8 a9 a10 a11 (m_n g0 N) H → va_S (e_F q_no s.heap.size) s.heap H locs → lv_has ls 20 [(14, .int (nI k)), (13, .int (m_lg g0 g1 g2 N k)), (12, .int (nI (m_tn g0 g1 g2 N))), (7, .int (m_ss g0 N (m_n g0 N - 1))), (6, .int (m_ma g0 g1 g2 N (m_n g0 N - 1))), (5, .int (nI (ct (m_pol g0 g1 g2 N) (m_n g0 N - 1)))), (11, .ref a11), (10, .ref a10), (9, .ref a9), (8, .ref a8), (3, .int (nI (m_n g0 N))), (2, .ref O2), (0, .ref S), (1, .ref (ad 0))] → W p l e iRm s m args below meth c H locs 70 700 (iQ below args s) (F0 m 520 ls []) := by
    intro fu520
    induction fu520 with
    | zero => intro k hi; exact absurd hi (Nat.not_lt_zero _)
    | succ fu520 ih520 =>
      intro k hi520 hkN H locs ls hq hA hS hl
      refine lv_iload hx hb dX1_isSame_520 (lv_at hl 0 rfl) ?_
      obtain ⟨-, HT, HP, HG⟩ := hI.kept hq
      refine lv_iload hx hb dX1_isSame_522 (lv_at hl 2 rfl) ?_
      refine lv_icmp_ge (tgt := 627) hx hb dX1_isSame_524 (by decide) (fun c_524 => ?_) (fun c_524 => ?_)
      · have hi9 : k = m_tn g0 g1 g2 N := nI_ge' hkN (by omega) c_524
        rw [hi9] at hl
        exact is_627 hC hI hb0 hX H locs ls hq hA hS (lv_sub hl [1, 2, 6, 7, 8, 9, 3, 4, 5, 10, 11, 12, 13] rfl)
      · have hk9 : k < m_tn g0 g1 g2 N := nI_lt' hkN (by omega) c_524
        refine lv_iconst (v := 0) hx hb dX1_isSame_527 (by decide) ?_
        refine lv_istore (lv' := [(15, .int 0), (14, .int (nI k)), (13, .int (m_lg g0 g1 g2 N k)), (12, .int (nI (m_tn g0 g1 g2 N))), (7, .int (m_ss g0 N (m_n g0 N - 1))), (6, .int (m_ma g0 g1 g2 N (m_n g0 N - 1))), (5, .int (nI (ct (m_pol g0 g1 g2 N) (m_n g0 N - 1)))), (11, .ref a11), (10, .ref a10), (9, .ref a9), (8, .ref a8), (3, .int (nI (m_n g0 N))), (2, .ref O2), (0, .ref S), (1, .ref (ad 0))]) hx hb dX1_isSame_528 hl (by decide) rfl (fun ls hl => ?_)
        refine lv_aload hx hb dX1_isSame_530 (lv_at hl 7 rfl) ?_
        refine lv_iload hx hb dX1_isSame_532 (lv_at hl 1 rfl) ?_
        refine z_gal hx hb hK 1 rfl hA.2.2.2 k (by omega) (by omega) rfl dX1_isSame_534 ?_
        refine lv_astore (lv' := [(16, .ref (a11 + 1 + k)), (15, .int 0), (14, .int (nI k)), (13, .int (m_lg g0 g1 g2 N k)), (12, .int (nI (m_tn g0 g1 g2 N))), (7, .int (m_ss g0 N (m_n g0 N - 1))), (6, .int (m_ma g0 g1 g2 N (m_n g0 N - 1))), (5, .int (nI (ct (m_pol g0 g1 g2 N) (m_n g0 N - 1)))), (11, .ref a11), (10, .ref a10), (9, .ref a9), (8, .ref a8), (3, .int (nI (m_n g0 N))), (2, .ref O2), (0, .ref S), (1, .ref (ad 0))]) hx hb dX1_isSame_535 hl (by decide) rfl (fun ls hl => ?_)
        refine lv_aload hx hb dX1_isSame_537 (lv_at hl 0 rfl) ?_
        obtain ⟨f9, hf9, -⟩ := hA.2.2.2.2 k (by omega)
        refine z_iln hx hb hK 0 rfl hf9 dX1_isSame_539 ?_
        refine lv_istore (lv' := [(17, .int (nI 10)), (16, .ref (a11 + 1 + k)), (15, .int 0), (14, .int (nI k)), (13, .int (m_lg g0 g1 g2 N k)), (12, .int (nI (m_tn g0 g1 g2 N))), (7, .int (m_ss g0 N (m_n g0 N - 1))), (6, .int (m_ma g0 g1 g2 N (m_n g0 N - 1))), (5, .int (nI (ct (m_pol g0 g1 g2 N) (m_n g0 N - 1)))), (11, .ref a11), (10, .ref a10), (9, .ref a9), (8, .ref a8), (3, .int (nI (m_n g0 N))), (2, .ref O2), (0, .ref S), (1, .ref (ad 0))]) hx hb dX1_isSame_540 hl (by decide) rfl (fun ls hl => ?_)
        refine lv_iconst (v := 0) hx hb dX1_isSame_542 (by decide) ?_
        refine lv_istore (lv' := [(18, .int 0), (17, .int (nI 10)), (16, .ref (a11 + 1 + k)), (15, .int 0), (14, .int (nI k)), (13, .int (m_lg g0 g1 g2 N k)), (12, .int (nI (m_tn g0 g1 g2 N))), (7, .int (m_ss g0 N (m_n g0 N - 1))), (6, .int (m_ma g0 g1 g2 N (m_n g0 N - 1))), (5, .int (nI (ct (m_pol g0 g1 g2 N) (m_n g0 N - 1)))), (11, .ref a11), (10, .ref a10), (9, .ref a9), (8, .ref a8), (3, .int (nI (m_n g0 N))), (2, .ref O2), (0, .ref S), (1, .ref (ad 0))]) hx hb dX1_isSame_543 hl (by decide) rfl (fun ls hl => ?_)
        have lo_545 : ∀ (fu545 i : Nat), 10 - i < fu545 → i ≤ 10 → ∀ (H : Heap) (locs : List Loc) (ls : Array Slot), q_same Hb H → iA cI cA g0 g1 g2 N a8 a9 a10 a11 (m_n g0 N) H → va_S (e_F q_no s.heap.size) s.heap H locs → lv_has ls 20 [(18, .int (nI i)), (15, .int (nI (ct (fun j => (m_tq g0 g1 g2 N (nI k) (m_n g0 N)).testBit j) i))), (17, .int (nI 10)), (16, .ref (a11 + 1 + k)), (14, .int (nI k)), (13, .int (m_lg g0 g1 g2 N k)), (12, .int (nI (m_tn g0 g1 g2 N))), (7, .int (m_ss g0 N (m_n g0 N - 1))), (6, .int (m_ma g0 g1 g2 N (m_n g0 N - 1))), (5, .int (nI (ct (m_pol g0 g1 g2 N) (m_n g0 N - 1)))), (11, .ref a11), (10, .ref a10), (9, .ref a9), (8, .ref a8), (3, .int (nI (m_n g0 N))), (2, .ref O2), (0, .ref S), (1, .ref (ad 0))] → W p l e iRm s m args below meth c H locs 70 700 (iQ below args s) (F0 m 545 ls []) := by
          intro fu545
          induction fu545 with
          | zero => intro i hi; exact absurd hi (Nat.not_lt_zero _)
          | succ fu545 ih545 =>
            intro i hi545 hiN H locs ls hq hA hS hl
            refine lv_iload hx hb dX1_isSame_545 (lv_at hl 0 rfl) ?_
            obtain ⟨-, HT, HP, HG⟩ := hI.kept hq
            refine lv_iload hx hb dX1_isSame_547 (lv_at hl 2 rfl) ?_
            refine lv_icmp_ge (tgt := 572) hx hb dX1_isSame_549 (by decide) (fun c_549 => ?_) (fun c_549 => ?_)
            · have hi8 : i = 10 := nI_ge' hiN (by decide) c_549
              refine lv_aload_n hx hb dX1_isSame_572 rfl (lv_at hl 17 rfl) ?_
              refine lv_iload hx hb dX1_isSame_573 (lv_at hl 4 rfl) ?_
              refine q_callV (As := [.int (nI k)]) (rest := []) ⟨hx, hb, hml, hown, hts⟩ (d_lengthOf l D cI ad N pa pe f0 f1 f2 f3 f4 g0 g1 g2 hR k hk9) (cwV 1 hts gX1_isSame_X0_lengthOf rfl rfl rfl kv_X0_lengthOf ⟨Nat.le_of_ble_eq_true rfl, Nat.le_of_ble_eq_true rfl⟩) (va_recv hK HT (ci := 0) (q0 := 0) rfl rfl) HT (hK.sub [0] rfl) rfl hl.1 rfl (Nat.le_of_ble_eq_true rfl) dX1_isSame_575 (by show 70 ≤ 70; omega) (by show 700 ≤ 700; omega) hS (fun H locs hsm hS => ?_)
              have hq := hq.tr hsm
              obtain ⟨-, HT, HP, HG⟩ := hI.kept hq
              have hA := hA.kept hsm
              refine lv_aload hx hb dX1_isSame_578 (lv_at hl 13 rfl) ?_
              refine lv_iload hx hb dX1_isSame_580 (lv_at hl 4 rfl) ?_
              refine z_iald hx hb hK 0 rfl hA.1 k rfl (by omega) (by omega) dX1_isSame_582 ?_
              refine lv_icmp_ne (tgt := 597) hx hb dX1_isSame_583 (by decide) (fun c_583 => absurd rfl c_583) (fun c_583 => ?_)
              refine lv_aload_n hx hb dX1_isSame_586 rfl (lv_at hl 17 rfl) ?_
              refine lv_iload hx hb dX1_isSame_587 (lv_at hl 4 rfl) ?_
              refine q_callV (As := [.int (nI k)]) (rest := []) ⟨hx, hb, hml, hown, hts⟩ (d_topicsIn l D cI ad N pa pe f0 f1 f2 f3 f4 g0 g1 g2 hR k hk9) (cwV 1 hts gX1_isSame_X0_topicsIn rfl rfl rfl kv_X0_topicsIn ⟨Nat.le_of_ble_eq_true rfl, Nat.le_of_ble_eq_true rfl⟩) (va_recv hK HT (ci := 0) (q0 := 0) rfl rfl) HT (hK.sub [0] rfl) rfl hl.1 rfl (Nat.le_of_ble_eq_true rfl) dX1_isSame_589 (by show 70 ≤ 70; omega) (by show 700 ≤ 700; omega) hS (fun H locs hsm hS => ?_)
              have hq := hq.tr hsm
              obtain ⟨-, HT, HP, HG⟩ := hI.kept hq
              have hA := hA.kept hsm
              refine lv_iload hx hb dX1_isSame_592 (lv_at hl 1 rfl) ?_
              refine lv_icmp_eq (tgt := 599) hx hb dX1_isSame_594 (by decide) (fun c_594 => ?_) (fun c_594 => absurd (by rw [hi8, pcn_tail (a := 10) (fun j hj => tb_lt (k := 10) (m_tq_lt g1 g2 (nI k) hw.2.1 _ (Nat.le_refl _)) hj) (by decide)]) c_594)
              refine lv_iload hx hb dX1_isSame_599 (lv_at hl 5 rfl) ?_
              refine lv_if_lt (tgt := 617) hx hb dX1_isSame_601 (by decide) (fun c_601 => ?_) (fun c_601 => ?_)
              · refine lv_iload hx hb dX1_isSame_617 (lv_at hl 4 rfl) ?_
                refine lv_istore (lv' := [(13, .int (nI k)), (18, .int (nI i)), (15, .int (nI (ct (fun j => (m_tq g0 g1 g2 N (nI k) (m_n g0 N)).testBit j) i))), (17, .int (nI 10)), (16, .ref (a11 + 1 + k)), (14, .int (nI k)), (12, .int (nI (m_tn g0 g1 g2 N))), (7, .int (m_ss g0 N (m_n g0 N - 1))), (6, .int (m_ma g0 g1 g2 N (m_n g0 N - 1))), (5, .int (nI (ct (m_pol g0 g1 g2 N) (m_n g0 N - 1)))), (11, .ref a11), (10, .ref a10), (9, .ref a9), (8, .ref a8), (3, .int (nI (m_n g0 N))), (2, .ref O2), (0, .ref S), (1, .ref (ad 0))]) hx hb dX1_isSame_619 hl (by decide) rfl (fun ls hl => ?_)
                refine lv_iinc (v := (nI k + 1)) (lv' := [(14, .int (nI k + 1)), (13, .int (nI k)), (18, .int (nI i)), (15, .int (nI (ct (fun j => (m_tq g0 g1 g2 N (nI k) (m_n g0 N)).testBit j) i))), (17, .int (nI 10)), (16, .ref (a11 + 1 + k)), (12, .int (nI (m_tn g0 g1 g2 N))), (7, .int (m_ss g0 N (m_n g0 N - 1))), (6, .int (m_ma g0 g1 g2 N (m_n g0 N - 1))), (5, .int (nI (ct (m_pol g0 g1 g2 N) (m_n g0 N - 1)))), (11, .ref a11), (10, .ref a10), (9, .ref a9), (8, .ref a8), (3, .int (nI (m_n g0 N))), (2, .ref O2), (0, .ref S), (1, .ref (ad 0))]) hx hb dX1_isSame_621 hl (k := 5) rfl (by rfl) (by decide) rfl (fun ls hl => ?_)
                refine lv_goto (tgt := 520) hx hb dX1_isSame_624 (by decide) ?_
                have e_14 : ((nI k + 1) : Int32) = nI (k + 1) := nI_1 k
                have e_13 : (nI k : Int32) = m_lg g0 g1 g2 N (k + 1) := (lg_t (by omega) c_601).symm
                exact ih520 (k + 1) (by omega) (by omega) _ locs ls hq hA hS (lv_eq (lv_sub (l' := [(14, .int (nI k + 1)), (13, .int (nI k)), (12, .int (nI (m_tn g0 g1 g2 N))), (7, .int (m_ss g0 N (m_n g0 N - 1))), (6, .int (m_ma g0 g1 g2 N (m_n g0 N - 1))), (5, .int (nI (ct (m_pol g0 g1 g2 N) (m_n g0 N - 1)))), (11, .ref a11), (10, .ref a10), (9, .ref a9), (8, .ref a8), (3, .int (nI (m_n g0 N))), (2, .ref O2), (0, .ref S), (1, .ref (ad 0))]) hl [0, 1, 6, 7, 8, 9, 10, 11, 12, 13, 14, 15, 16, 17] rfl) (by rw [e_14, e_13]))
              · obtain ⟨j, hj, ej⟩ := m_lg_b g0 g1 g2 N k (by omega) (Nat.pos_of_ne_zero (fun e => c_601 (by rw [e]; show (-1 : Int32) < 0; decide)))
                refine lv_aload hx hb dX1_isSame_604 (lv_at hl 13 rfl) ?_
                refine lv_iload hx hb dX1_isSame_606 (lv_at hl 4 rfl) ?_
                refine z_iald hx hb hK 0 rfl hA.1 k rfl (by omega) (by omega) dX1_isSame_608 ?_
                refine lv_aload hx hb dX1_isSame_609 (lv_at hl 13 rfl) ?_
                refine lv_iload hx hb dX1_isSame_611 (lv_at hl 5 rfl) ?_
                refine z_iald hx hb hK 0 rfl hA.1 j ej (by omega) (by omega) dX1_isSame_613 ?_
                refine lv_icmp_le (tgt := 621) hx hb dX1_isSame_614 (by decide) (fun c_614 => ?_) (fun c_614 => ?_)
                · refine lv_iinc (v := (nI k + 1)) (lv' := [(14, .int (nI k + 1)), (18, .int (nI i)), (15, .int (nI (ct (fun j => (m_tq g0 g1 g2 N (nI k) (m_n g0 N)).testBit j) i))), (17, .int (nI 10)), (16, .ref (a11 + 1 + k)), (13, .int (m_lg g0 g1 g2 N k)), (12, .int (nI (m_tn g0 g1 g2 N))), (7, .int (m_ss g0 N (m_n g0 N - 1))), (6, .int (m_ma g0 g1 g2 N (m_n g0 N - 1))), (5, .int (nI (ct (m_pol g0 g1 g2 N) (m_n g0 N - 1)))), (11, .ref a11), (10, .ref a10), (9, .ref a9), (8, .ref a8), (3, .int (nI (m_n g0 N))), (2, .ref O2), (0, .ref S), (1, .ref (ad 0))]) hx hb dX1_isSame_621 hl (k := 4) rfl (by rfl) (by decide) rfl (fun ls hl => ?_)
                  refine lv_goto (tgt := 520) hx hb dX1_isSame_624 (by decide) ?_
                  have e_14 : ((nI k + 1) : Int32) = nI (k + 1) := nI_1 k
                  have e_13 : (m_lg g0 g1 g2 N k : Int32) = m_lg g0 g1 g2 N (k + 1) := (lg_k ej (by omega) c_614).symm
                  exact ih520 (k + 1) (by omega) (by omega) _ locs ls hq hA hS (lv_eq (lv_sub (l' := [(14, .int (nI k + 1)), (13, .int (m_lg g0 g1 g2 N k)), (12, .int (nI (m_tn g0 g1 g2 N))), (7, .int (m_ss g0 N (m_n g0 N - 1))), (6, .int (m_ma g0 g1 g2 N (m_n g0 N - 1))), (5, .int (nI (ct (m_pol g0 g1 g2 N) (m_n g0 N - 1)))), (11, .ref a11), (10, .ref a10), (9, .ref a9), (8, .ref a8), (3, .int (nI (m_n g0 N))), (2, .ref O2), (0, .ref S), (1, .ref (ad 0))]) hl [0, 5, 6, 7, 8, 9, 10, 11, 12, 13, 14, 15, 16, 17] rfl) (by rw [e_13, e_14]))
                · refine lv_iload hx hb dX1_isSame_617 (lv_at hl 4 rfl) ?_
                  refine lv_istore (lv' := [(13, .int (nI k)), (18, .int (nI i)), (15, .int (nI (ct (fun j => (m_tq g0 g1 g2 N (nI k) (m_n g0 N)).testBit j) i))), (17, .int (nI 10)), (16, .ref (a11 + 1 + k)), (14, .int (nI k)), (12, .int (nI (m_tn g0 g1 g2 N))), (7, .int (m_ss g0 N (m_n g0 N - 1))), (6, .int (m_ma g0 g1 g2 N (m_n g0 N - 1))), (5, .int (nI (ct (m_pol g0 g1 g2 N) (m_n g0 N - 1)))), (11, .ref a11), (10, .ref a10), (9, .ref a9), (8, .ref a8), (3, .int (nI (m_n g0 N))), (2, .ref O2), (0, .ref S), (1, .ref (ad 0))]) hx hb dX1_isSame_619 hl (by decide) rfl (fun ls hl => ?_)
                  refine lv_iinc (v := (nI k + 1)) (lv' := [(14, .int (nI k + 1)), (13, .int (nI k)), (18, .int (nI i)), (15, .int (nI (ct (fun j => (m_tq g0 g1 g2 N (nI k) (m_n g0 N)).testBit j) i))), (17, .int (nI 10)), (16, .ref (a11 + 1 + k)), (12, .int (nI (m_tn g0 g1 g2 N))), (7, .int (m_ss g0 N (m_n g0 N - 1))), (6, .int (m_ma g0 g1 g2 N (m_n g0 N - 1))), (5, .int (nI (ct (m_pol g0 g1 g2 N) (m_n g0 N - 1)))), (11, .ref a11), (10, .ref a10), (9, .ref a9), (8, .ref a8), (3, .int (nI (m_n g0 N))), (2, .ref O2), (0, .ref S), (1, .ref (ad 0))]) hx hb dX1_isSame_621 hl (k := 5) rfl (by rfl) (by decide) rfl (fun ls hl => ?_)
                  refine lv_goto (tgt := 520) hx hb dX1_isSame_624 (by decide) ?_
                  have e_14 : ((nI k + 1) : Int32) = nI (k + 1) := nI_1 k
                  have e_13 : (nI k : Int32) = m_lg g0 g1 g2 N (k + 1) := (lg_n ej (by omega) c_614).symm
                  exact ih520 (k + 1) (by omega) (by omega) _ locs ls hq hA hS (lv_eq (lv_sub (l' := [(14, .int (nI k + 1)), (13, .int (nI k)), (12, .int (nI (m_tn g0 g1 g2 N))), (7, .int (m_ss g0 N (m_n g0 N - 1))), (6, .int (m_ma g0 g1 g2 N (m_n g0 N - 1))), (5, .int (nI (ct (m_pol g0 g1 g2 N) (m_n g0 N - 1)))), (11, .ref a11), (10, .ref a10), (9, .ref a9), (8, .ref a8), (3, .int (nI (m_n g0 N))), (2, .ref O2), (0, .ref S), (1, .ref (ad 0))]) hl [0, 1, 6, 7, 8, 9, 10, 11, 12, 13, 14, 15, 16, 17] rfl) (by rw [e_14, e_13]))
            · have hi8 : i < 10 := nI_lt' hiN (by decide) c_549
              refine lv_aload hx hb dX1_isSame_552 (lv_at hl 3 rfl) ?_
              refine lv_iload hx hb dX1_isSame_554 (lv_at hl 0 rfl) ?_
              refine z_gil hx hb hK 0 rfl hA.2.2.2 k (by omega) i (hi8) (by decide) (v := bI ((m_tq g0 g1 g2 N (nI k) (m_n g0 N)).testBit i)) rfl rfl dX1_isSame_556 ?_
              refine lv_istore (lv' := [(19, .int (bI ((m_tq g0 g1 g2 N (nI k) (m_n g0 N)).testBit i))), (18, .int (nI i)), (15, .int (nI (ct (fun j => (m_tq g0 g1 g2 N (nI k) (m_n g0 N)).testBit j) i))), (17, .int (nI 10)), (16, .ref (a11 + 1 + k)), (14, .int (nI k)), (13, .int (m_lg g0 g1 g2 N k)), (12, .int (nI (m_tn g0 g1 g2 N))), (7, .int (m_ss g0 N (m_n g0 N - 1))), (6, .int (m_ma g0 g1 g2 N (m_n g0 N - 1))), (5, .int (nI (ct (m_pol g0 g1 g2 N) (m_n g0 N - 1)))), (11, .ref a11), (10, .ref a10), (9, .ref a9), (8, .ref a8), (3, .int (nI (m_n g0 N))), (2, .ref O2), (0, .ref S), (1, .ref (ad 0))]) hx hb dX1_isSame_557 hl (by decide) rfl (fun ls hl => ?_)
              refine lv_iload hx hb dX1_isSame_559 (lv_at hl 2 rfl) ?_
              refine lv_iload hx hb dX1_isSame_561 (lv_at hl 0 rfl) ?_
              refine lv_iadd hx hb dX1_isSame_563 ?_
              refine lv_istore (lv' := [(15, .int (nI (ct (fun j => (m_tq g0 g1 g2 N (nI k) (m_n g0 N)).testBit j) i) + bI ((m_tq g0 g1 g2 N (nI k) (m_n g0 N)).testBit i))), (19, .int (bI ((m_tq g0 g1 g2 N (nI k) (m_n g0 N)).testBit i))), (18, .int (nI i)), (17, .int (nI 10)), (16, .ref (a11 + 1 + k)), (14, .int (nI k)), (13, .int (m_lg g0 g1 g2 N k)), (12, .int (nI (m_tn g0 g1 g2 N))), (7, .int (m_ss g0 N (m_n g0 N - 1))), (6, .int (m_ma g0 g1 g2 N (m_n g0 N - 1))), (5, .int (nI (ct (m_pol g0 g1 g2 N) (m_n g0 N - 1)))), (11, .ref a11), (10, .ref a10), (9, .ref a9), (8, .ref a8), (3, .int (nI (m_n g0 N))), (2, .ref O2), (0, .ref S), (1, .ref (ad 0))]) hx hb dX1_isSame_564 hl (by decide) rfl (fun ls hl => ?_)
              refine lv_iinc (v := (nI i + 1)) (lv' := [(18, .int (nI i + 1)), (15, .int (nI (ct (fun j => (m_tq g0 g1 g2 N (nI k) (m_n g0 N)).testBit j) i) + bI ((m_tq g0 g1 g2 N (nI k) (m_n g0 N)).testBit i))), (19, .int (bI ((m_tq g0 g1 g2 N (nI k) (m_n g0 N)).testBit i))), (17, .int (nI 10)), (16, .ref (a11 + 1 + k)), (14, .int (nI k)), (13, .int (m_lg g0 g1 g2 N k)), (12, .int (nI (m_tn g0 g1 g2 N))), (7, .int (m_ss g0 N (m_n g0 N - 1))), (6, .int (m_ma g0 g1 g2 N (m_n g0 N - 1))), (5, .int (nI (ct (m_pol g0 g1 g2 N) (m_n g0 N - 1)))), (11, .ref a11), (10, .ref a10), (9, .ref a9), (8, .ref a8), (3, .int (nI (m_n g0 N))), (2, .ref O2), (0, .ref S), (1, .ref (ad 0))]) hx hb dX1_isSame_566 hl (k := 2) rfl (by rfl) (by decide) rfl (fun ls hl => ?_)
              refine lv_goto (tgt := 545) hx hb dX1_isSame_569 (by decide) ?_
              have e_18 : ((nI i + 1) : Int32) = nI (i + 1) := nI_1 i
              have e_15 : ((nI (ct (fun j => (m_tq g0 g1 g2 N (nI k) (m_n g0 N)).testBit j) i) + bI ((m_tq g0 g1 g2 N (nI k) (m_n g0 N)).testBit i)) : Int32) = nI (ct (fun j => (m_tq g0 g1 g2 N (nI k) (m_n g0 N)).testBit j) (i + 1)) := bI_ct _ i
              exact ih545 (i + 1) (by omega) (by omega) _ locs ls hq hA hS (lv_eq (lv_sub (l' := [(18, .int (nI i + 1)), (15, .int (nI (ct (fun j => (m_tq g0 g1 g2 N (nI k) (m_n g0 N)).testBit j) i) + bI ((m_tq g0 g1 g2 N (nI k) (m_n g0 N)).testBit i))), (17, .int (nI 10)), (16, .ref (a11 + 1 + k)), (14, .int (nI k)), (13, .int (m_lg g0 g1 g2 N k)), (12, .int (nI (m_tn g0 g1 g2 N))), (7, .int (m_ss g0 N (m_n g0 N - 1))), (6, .int (m_ma g0 g1 g2 N (m_n g0 N - 1))), (5, .int (nI (ct (m_pol g0 g1 g2 N) (m_n g0 N - 1)))), (11, .ref a11), (10, .ref a10), (9, .ref a9), (8, .ref a8), (3, .int (nI (m_n g0 N))), (2, .ref O2), (0, .ref S), (1, .ref (ad 0))]) hl [0, 1, 3, 4, 5, 6, 7, 8, 9, 10, 11, 12, 13, 14, 15, 16, 17, 18] rfl) (by rw [e_15, e_18]))
        exact lo_545 (10 + 1) 0 (by omega) (by omega) _ locs ls hq hA hS (lv_sub hl [0, 3, 1, 2, 4, 5, 6, 7, 8, 9, 10, 11, 12, 13, 14, 15, 16, 17] rfl)
  exact lo_520 ((m_tn g0 g1 g2 N) + 1) 0 (by omega) (by omega) _ locs ls hq hA hS (lv_sub hl [0, 1, 2, 4, 5, 6, 7, 8, 9, 10, 11, 12, 13, 14] rfl)

set_option maxHeartbeats 4000000 in
set_option maxRecDepth 100000 in
theorem is_189 {p : Program} {l : Launch} {e : Env} {s : State} {m : MethodId} {args : Array Value} {below : List Frame} {meth : Method} {c : Code} {Hb : Heap} {D : va_G} {cI cA : ClassId} {ad : Nat → Nat} {S N pa : Nat} {pe : Int32} {f0 f1 f2 f3 f4 g0 g1 g2 : Nat → Int32} {O : Nat} {r : Nat → Nat} {rw : Nat → Nat} {O2 : Nat} {a8 a9 a10 a11 : Nat} (hC : iC p s m meth c args D cI cA) (hI : iS D cI cA ad S N pa pe f0 f1 f2 f3 f4 g0 g1 g2 O r rw O2 Hb) (hb0 : s.heap.size ≤ Hb.size) (hX : iX Hb.size a8 a9 a10 a11) : ∀ (H : Heap) (locs : List Loc) (ls : Array Slot), q_same Hb H → iA cI cA g0 g1 g2 N a8 a9 a10 a11 0 H → va_S (e_F q_no s.heap.size) s.heap H locs → lv_has ls 20 [(4, .int 0), (5, .int 0), (6, .int 0), (7, .int 0), (11, .ref a11), (10, .ref a10), (9, .ref a9), (8, .ref a8), (3, .int (nI (m_n g0 N))), (2, .ref O2), (0, .ref S), (1, .ref (ad 0))] → W p l e iRm s m args below meth c H locs 70 700 (iQ below args s) (F0 m 189 ls []) := by
  intro H locs ls hq hA hS hl
  obtain ⟨hx, hb, hml, hr, hts, hown, hlocks, hK, hO⟩ := id hC
  have hR := hI.1
  obtain ⟨-, HT, HP, HG⟩ := hI.kept hq
  have hin : ∀ w ∈ wsX10, w ∈ wsX1_isSame := by decide +kernel
  have hN24 := hR.1.n
  have hm9 := m_n_le g0 N
  have hw := hR.1.ok
  obtain ⟨x1, x2, x3, x4⟩ := id hX
  refine lv_iconst (v := 0) hx hb dX1_isSame_189 (by decide) ?_
  refine lv_istore (lv' := [(12, .int 0), (4, .int 0), (5, .int 0), (6, .int 0), (7, .int 0), (11, .ref a11), (10, .ref a10), (9, .ref a9), (8, .ref a8), (3, .int (nI (m_n g0 N))), (2, .ref O2), (0, .ref S), (1, .ref (ad 0))]) hx hb dX1_isSame_190 hl (by decide) rfl (fun ls hl => ?_)
  have lo_192 : ∀ (fu192 w : Nat), (m_n g0 N - 1) - w < fu192 → w ≤ (m_n g0 N - 1) → ∀ (H : Heap) (locs : List Loc) (ls : Array Slot), q_same Hb H → iA cI cA g0 g1 g2 N a8 a9 a10 a11 w H → va_S (e_F q_no s.heap.size) s.heap H locs → lv_has ls 20 [(12, .int (nI w)), (4, .int (nI (m_th g0 g1 g2 N w))), (5, .int (nI (ct (m_pol g0 g1 g2 N) w))), (6, .int (m_ma g0 g1 g2 N w)), (7, .int (m_ss g0 N w)), (11, .ref a11), (10, .ref a10), (9, .ref a9), (8, .ref a8), (3, .int (nI (m_n g0 N))), (2, .ref O2), (0, .ref S), (1, .ref (ad 0))] → W p l e iRm s m args below meth c H locs 70 700 (iQ below args s) (F0 m 192 ls []) := by
    intro fu192
    induction fu192 with
    | zero => intro w hi; exact absurd hi (Nat.not_lt_zero _)
    | succ fu192 ih192 =>
      intro w hi192 hwN H locs ls hq hA hS hl
      refine lv_iload hx hb dX1_isSame_192 (lv_at hl 0 rfl) ?_
      obtain ⟨-, HT, HP, HG⟩ := hI.kept hq
      refine lv_iload_n hx hb dX1_isSame_194 rfl (lv_at hl 9 rfl) ?_
      refine lv_icmp_ge (tgt := 500) hx hb dX1_isSame_195 (by decide) (fun c_195 => ?_) (fun c_195 => ?_)
      · have hwn : w = m_n g0 N - 1 := by
          have h := c_195
          rw [nI_leI (by omega) (by omega)] at h
          omega
        have hwn2 : w = m_n g0 N := by
          have h := c_195
          rw [nI_leI (by omega) (by omega)] at h
          omega
        rw [hwn2] at hA
        rw [hwn] at hl
        exact is_500 hC hI hb0 hX H locs ls hq hA hS (lv_sub hl [1, 4, 3, 2, 5, 6, 7, 8, 9, 10, 11, 12] rfl)
      · have hwl : w < m_n g0 N := by
          have h := c_195
          rw [nI_leI (by omega) (by omega)] at h
          omega
        have hth := m_th_le g0 g1 g2 N w
        obtain ⟨v, hv6, ev⟩ := hR.2.2 _ (m_P_lt hwl)
        obtain ⟨t, ht10, et⟩ := hw.2.1 w hwl
        have hti := m_tiB (hw.2.2 _ (m_P_lt hwl))
        refine lv_aload_n hx hb dX1_isSame_198 rfl (lv_at hl 12 rfl) ?_
        refine lv_iload hx hb dX1_isSame_199 (lv_at hl 0 rfl) ?_
        refine q_callV (As := [.int (nI w)]) (rest := []) ⟨hx, hb, hml, hown, hts⟩ (d_placeOf l D cI ad N pa pe f0 f1 f2 f3 f4 g0 g1 g2 hR w hwl) (cwV 1 hts gX1_isSame_X0_placeOf rfl rfl rfl kv_X0_placeOf ⟨Nat.le_of_ble_eq_true rfl, Nat.le_of_ble_eq_true rfl⟩) (va_recv hK HT (ci := 0) (q0 := 0) rfl rfl) HT (hK.sub [0] rfl) rfl hl.1 rfl (Nat.le_of_ble_eq_true rfl) dX1_isSame_201 (by show 70 ≤ 70; omega) (by show 700 ≤ 700; omega) hS (fun H locs hsm hS => ?_)
        have hq := hq.tr hsm
        obtain ⟨-, HT, HP, HG⟩ := hI.kept hq
        have hA := hA.kept hsm
        refine lv_aload_n hx hb dX1_isSame_204 rfl (lv_at hl 10 rfl) ?_
        refine lv_iload hx hb dX1_isSame_205 (lv_at hl 0 rfl) ?_
        refine z_gal hx hb hK 1 rfl HG w hwl (by omega) rfl dX1_isSame_207 ?_
        refine lv_iconst (v := 4) hx hb dX1_isSame_208 (by decide) ?_
        refine z_gil hx hb hK 0 rfl HG w hwl 4 (by decide) (by decide) (v := nI (m_P g0 N w)) rfl rfl dX1_isSame_209 ?_
        refine lv_icmp_ne (tgt := 239) hx hb dX1_isSame_210 (by decide) (fun c_210 => absurd rfl c_210) (fun c_210 => ?_)
        refine lv_aload_n hx hb dX1_isSame_213 rfl (lv_at hl 12 rfl) ?_
        refine lv_iload hx hb dX1_isSame_214 (lv_at hl 0 rfl) ?_
        refine q_callV (As := [.int (nI w)]) (rest := []) ⟨hx, hb, hml, hown, hts⟩ (d_topicOf l D cI ad N pa pe f0 f1 f2 f3 f4 g0 g1 g2 hR w hwl) (cwV 1 hts gX1_isSame_X0_topicOf rfl rfl rfl kv_X0_topicOf ⟨Nat.le_of_ble_eq_true rfl, Nat.le_of_ble_eq_true rfl⟩) (va_recv hK HT (ci := 0) (q0 := 0) rfl rfl) HT (hK.sub [0] rfl) rfl hl.1 rfl (Nat.le_of_ble_eq_true rfl) dX1_isSame_216 (by show 70 ≤ 70; omega) (by show 700 ≤ 700; omega) hS (fun H locs hsm hS => ?_)
        have hq := hq.tr hsm
        obtain ⟨-, HT, HP, HG⟩ := hI.kept hq
        have hA := hA.kept hsm
        refine lv_aload_n hx hb dX1_isSame_219 rfl (lv_at hl 10 rfl) ?_
        refine lv_iload hx hb dX1_isSame_220 (lv_at hl 0 rfl) ?_
        refine z_gal hx hb hK 1 rfl HG w hwl (by omega) rfl dX1_isSame_222 ?_
        refine lv_iconst (v := 1) hx hb dX1_isSame_223 (by decide) ?_
        refine z_gil hx hb hK 0 rfl HG w hwl 1 (by decide) (by decide) (v := g0 (m_P g0 N w)) rfl rfl dX1_isSame_224 ?_
        refine lv_icmp_ne (tgt := 239) hx hb dX1_isSame_225 (by decide) (fun c_225 => absurd rfl c_225) (fun c_225 => ?_)
        refine lv_aload_n hx hb dX1_isSame_228 rfl (lv_at hl 12 rfl) ?_
        refine lv_iload hx hb dX1_isSame_229 (lv_at hl 0 rfl) ?_
        refine q_callV (As := [.int (nI w)]) (rest := []) ⟨hx, hb, hml, hown, hts⟩ (d_threadOf l D cI ad N pa pe f0 f1 f2 f3 f4 g0 g1 g2 hR w hwl) (cwV 1 hts gX1_isSame_X0_threadOf rfl rfl rfl kv_X0_threadOf ⟨Nat.le_of_ble_eq_true rfl, Nat.le_of_ble_eq_true rfl⟩) (va_recv hK HT (ci := 0) (q0 := 0) rfl rfl) HT (hK.sub [0] rfl) rfl hl.1 rfl (Nat.le_of_ble_eq_true rfl) dX1_isSame_231 (by show 70 ≤ 70; omega) (by show 700 ≤ 700; omega) hS (fun H locs hsm hS => ?_)
        have hq := hq.tr hsm
        obtain ⟨-, HT, HP, HG⟩ := hI.kept hq
        have hA := hA.kept hsm
        refine lv_iload hx hb dX1_isSame_234 (lv_at hl 1 rfl) ?_
        refine lv_icmp_eq (tgt := 241) hx hb dX1_isSame_236 (by decide) (fun c_236 => ?_) (fun c_236 => absurd rfl c_236)
        obtain ⟨h8, h9, h10, h11⟩ := hA
        refine lv_aload hx hb dX1_isSame_241 (lv_at hl 8 rfl) ?_
        refine lv_iload hx hb dX1_isSame_243 (lv_at hl 1 rfl) ?_
        refine lv_dup2_11 hx hb dX1_isSame_245 rfl rfl ?_
        refine z_iald hx hb hK 0 rfl h8 (m_th g0 g1 g2 N w) rfl (by omega) (by omega) dX1_isSame_246 ?_
        refine lv_iconst (v := 1) hx hb dX1_isSame_247 (by decide) ?_
        refine lv_iadd hx hb dX1_isSame_248 ?_
        refine z_iast hx hb hK 0 rfl h8 hS (Or.inr (show s.heap.size ≤ a8 by omega)) (m_th g0 g1 g2 N w) rfl (by omega) (by omega) dX1_isSame_249 (fun H locs h0 z9 o9 hS => ?_)
        have hq := hq.st (show Hb.size ≤ a8 by omega) z9 o9
        obtain ⟨-, HT, HP, HG⟩ := hI.kept hq
        have o9 : ∀ q : Nat, q ≠ a8 → _ := o9
        have h9 := (o9 a9 (by omega)).trans h9
        have h10 := h10.to o9 (by omega) (fun i hi => (show a10 + 1 + i ≠ a8 by omega))
        have h11 := h11.to o9 (by omega) (fun i hi => (show a11 + 1 + i ≠ a8 by omega))
        have h8 : aI cI (m_n g0 N + 1) (fun k => nI (m_lnw g0 g1 g2 N k (w + 1))) a8 H := h0.cg fun k hk => by
          rw [ln_s (by omega) k (by omega)]
          by_cases c : k = m_th g0 g1 g2 N w
          · rw [if_pos c, c, upd_e]
          · rw [if_neg c, upd_n c]
        refine lv_aload hx hb dX1_isSame_250 (lv_at hl 7 rfl) ?_
        refine lv_aload_n hx hb dX1_isSame_252 rfl (lv_at hl 10 rfl) ?_
        refine lv_iload hx hb dX1_isSame_253 (lv_at hl 0 rfl) ?_
        refine z_gal hx hb hK 1 rfl HG w hwl (by omega) rfl dX1_isSame_255 ?_
        refine lv_iconst (v := 0) hx hb dX1_isSame_256 (by decide) ?_
        refine z_gil hx hb hK 0 rfl HG w hwl 0 (by decide) (by decide) (v := nI v) rfl ev dX1_isSame_257 ?_
        refine lv_dup2_11 hx hb dX1_isSame_258 rfl rfl ?_
        refine z_iald hx hb hK 0 rfl h9 v rfl (hv6) (by decide) dX1_isSame_259 ?_
        refine lv_iconst (v := 1) hx hb dX1_isSame_260 (by decide) ?_
        refine lv_iadd hx hb dX1_isSame_261 ?_
        refine z_iast hx hb hK 0 rfl h9 hS (Or.inr (show s.heap.size ≤ a9 by omega)) v rfl (hv6) (by decide) dX1_isSame_262 (fun H locs h0 z9 o9 hS => ?_)
        have hq := hq.st (show Hb.size ≤ a9 by omega) z9 o9
        obtain ⟨-, HT, HP, HG⟩ := hI.kept hq
        have o9 : ∀ q : Nat, q ≠ a9 → _ := o9
        have h8 := (o9 a8 (by omega)).trans h8
        have h10 := h10.to o9 (by omega) (fun i hi => (show a10 + 1 + i ≠ a9 by omega))
        have h11 := h11.to o9 (by omega) (fun i hi => (show a11 + 1 + i ≠ a9 by omega))
        have h9 : aI cI 6 (fun v => nI (m_wos g0 g1 N v (w + 1))) a9 H := h0.cg fun k hk => by
          show _ = nI (m_wos g0 g1 N k (w + 1))
          rw [m_wos_s, ev]
          by_cases c : k = v
          · rw [c, upd_e, if_pos rfl, nI_1]
          · rw [upd_n c, if_neg (fun x => c ((nI_eq (by omega) (by omega)).mp x).symm), Nat.add_zero]
        refine lv_aload hx hb dX1_isSame_263 (lv_at hl 6 rfl) ?_
        refine lv_aload_n hx hb dX1_isSame_265 rfl (lv_at hl 10 rfl) ?_
        refine lv_iload hx hb dX1_isSame_266 (lv_at hl 0 rfl) ?_
        refine z_gal hx hb hK 1 rfl HG w hwl (by omega) rfl dX1_isSame_268 ?_
        refine lv_iconst (v := 0) hx hb dX1_isSame_269 (by decide) ?_
        refine z_gil hx hb hK 0 rfl HG w hwl 0 (by decide) (by decide) (v := nI v) rfl ev dX1_isSame_270 ?_
        refine z_gal hx hb hK 1 rfl h10 v (hv6) (by omega) rfl dX1_isSame_271 ?_
        refine lv_iload hx hb dX1_isSame_272 (lv_at hl 1 rfl) ?_
        obtain ⟨f10, hf10, ef10⟩ := h10.2 v hv6
        refine lv_iconst (v := 1) hx hb dX1_isSame_274 (by decide) ?_
        refine z_iast hx hb hK 0 rfl hf10 hS (Or.inr (show s.heap.size ≤ a10 + 1 + v by omega)) (m_th g0 g1 g2 N w) rfl (by omega) (by omega) dX1_isSame_275 (fun H locs h0 z9 o9 hS => ?_)
        have hq := hq.st (show Hb.size ≤ a10 + 1 + v by omega) z9 o9
        obtain ⟨-, HT, HP, HG⟩ := hI.kept hq
        have o9 : ∀ q : Nat, q ≠ a10 + 1 + v → _ := o9
        have h9 := (o9 a9 (by omega)).trans h9
        have h8 := (o9 a8 (by omega)).trans h8
        have h11 := h11.to o9 (by omega) (fun i hi => (show a11 + 1 + i ≠ a10 + 1 + v by omega))
        have h10 := gG_put h10 (show a10 ≠ a10 + 1 + v by omega) (fun i hi e => by have h : a10 + 1 + i = a10 + 1 + v := e; omega) ef10 h0 o9 (fun i j hi hj => in_s (g2 := g2) hv6 ev i j hi)
        refine lv_aload hx hb dX1_isSame_276 (lv_at hl 5 rfl) ?_
        refine lv_iload hx hb dX1_isSame_278 (lv_at hl 1 rfl) ?_
        refine z_gal hx hb hK 1 rfl h11 (m_th g0 g1 g2 N w) (by omega) (by omega) rfl dX1_isSame_280 ?_
        refine lv_aload_n hx hb dX1_isSame_281 rfl (lv_at hl 10 rfl) ?_
        refine lv_iload hx hb dX1_isSame_282 (lv_at hl 0 rfl) ?_
        refine z_gal hx hb hK 1 rfl HG w hwl (by omega) rfl dX1_isSame_284 ?_
        refine lv_iconst (v := 1) hx hb dX1_isSame_285 (by decide) ?_
        refine z_gil hx hb hK 0 rfl HG w hwl 1 (by decide) (by decide) (v := nI t) rfl et dX1_isSame_286 ?_
        obtain ⟨f11, hf11, ef11⟩ := h11.2 (m_th g0 g1 g2 N w) (by omega)
        refine lv_iconst (v := 1) hx hb dX1_isSame_287 (by decide) ?_
        refine z_iast hx hb hK 0 rfl hf11 hS (Or.inr (show s.heap.size ≤ a11 + 1 + m_th g0 g1 g2 N w by omega)) t rfl (ht10) (by decide) dX1_isSame_288 (fun H locs h0 z9 o9 hS => ?_)
        have hq := hq.st (show Hb.size ≤ a11 + 1 + m_th g0 g1 g2 N w by omega) z9 o9
        obtain ⟨-, HT, HP, HG⟩ := hI.kept hq
        have o9 : ∀ q : Nat, q ≠ a11 + 1 + m_th g0 g1 g2 N w → _ := o9
        have h9 := (o9 a9 (by omega)).trans h9
        have h8 := (o9 a8 (by omega)).trans h8
        have h10 := h10.to o9 (by omega) (fun i hi => (show a10 + 1 + i ≠ a11 + 1 + m_th g0 g1 g2 N w by omega))
        have h11 := gG_put h11 (show a11 ≠ a11 + 1 + m_th g0 g1 g2 N w by omega) (fun i hi e => by have h : a11 + 1 + i = a11 + 1 + m_th g0 g1 g2 N w := e; omega) ef11 h0 o9 (fun i j hi hj => tq_s ht10 (by omega) et i j (by omega))
        have hA : iA cI cA g0 g1 g2 N a8 a9 a10 a11 (w + 1) H := ⟨h8, h9, h10, h11⟩
        refine lv_iload hx hb dX1_isSame_289 (lv_at hl 0 rfl) ?_
        refine lv_iload_n hx hb dX1_isSame_291 rfl (lv_at hl 9 rfl) ?_
        refine lv_iconst (v := 1) hx hb dX1_isSame_292 (by decide) ?_
        refine lv_isub hx hb dX1_isSame_293 ?_
        rw [nI_m1 (show 0 < m_n g0 N by omega)]
        refine lv_icmp_ne (tgt := 300) hx hb dX1_isSame_294 (by decide) (fun c_294 => ?_) (fun c_294 => ?_)
        · have hg : w + 1 < m_n g0 N := by
            have h : ¬ w = m_n g0 N - 1 := fun e => c_294 (congrArg nI e)
            omega
          refine lv_aload_n hx hb dX1_isSame_300 rfl (lv_at hl 10 rfl) ?_
          refine lv_iload hx hb dX1_isSame_301 (lv_at hl 0 rfl) ?_
          refine p_callS (As := [.ref O2, .int (nI w)]) (rest := []) ⟨hx, hb, hml, hown, hts⟩ (c_X1_sort_ l D cI cA g0 g1 g2 N rw O2 w hw hg) (va_cwS 2 hts gX1_isSame_X1_sort_ rfl rfl rfl ks_X1_sort_ ⟨Nat.le_of_ble_eq_true rfl, Nat.le_of_ble_eq_true rfl⟩) pH.mv (p_at (Z := gW cI cA g0 g1 g2 N rw O2) HG) hK rfl hl.1 rfl (Nat.le_of_ble_eq_true rfl) dX1_isSame_303 (by show 70 ≤ 70; omega) (by show 700 ≤ 700; omega) hS (fun H locs hsm hS => ?_)
          have hq := hq.tr hsm
          obtain ⟨-, HT, HP, HG⟩ := hI.kept hq
          have hA := hA.kept hsm
          refine lv_istore (lv' := [(13, .int (m_kd g0 g1 g2 N w)), (12, .int (nI w)), (4, .int (nI (m_th g0 g1 g2 N w))), (5, .int (nI (ct (m_pol g0 g1 g2 N) w))), (6, .int (m_ma g0 g1 g2 N w)), (7, .int (m_ss g0 N w)), (11, .ref a11), (10, .ref a10), (9, .ref a9), (8, .ref a8), (3, .int (nI (m_n g0 N))), (2, .ref O2), (0, .ref S), (1, .ref (ad 0))]) hx hb dX1_isSame_306 hl (by decide) rfl (fun ls hl => ?_)
          refine lv_aload_n hx hb dX1_isSame_308 rfl (lv_at hl 13 rfl) ?_
          refine lv_iload hx hb dX1_isSame_309 (lv_at hl 1 rfl) ?_
          refine q_callV (As := [.int (nI w)]) (rest := []) ⟨hx, hb, hml, hown, hts⟩ (d_coughsIn l D cI ad N pa pe f0 f1 f2 f3 f4 g0 g1 g2 hR w hg) (cwV 1 hts gX1_isSame_X0_coughsIn rfl rfl rfl kv_X0_coughsIn ⟨Nat.le_of_ble_eq_true rfl, Nat.le_of_ble_eq_true rfl⟩) (va_recv hK HT (ci := 0) (q0 := 0) rfl rfl) HT (hK.sub [0] rfl) rfl hl.1 rfl (Nat.le_of_ble_eq_true rfl) dX1_isSame_311 (by show 70 ≤ 70; omega) (by show 700 ≤ 700; omega) hS (fun H locs hsm hS => ?_)
          have hq := hq.tr hsm
          obtain ⟨-, HT, HP, HG⟩ := hI.kept hq
          have hA := hA.kept hsm
          refine lv_aload_n hx hb dX1_isSame_314 rfl (lv_at hl 11 rfl) ?_
          refine lv_iload hx hb dX1_isSame_315 (lv_at hl 1 rfl) ?_
          refine z_gal hx hb hK 1 rfl HG w hwl (by omega) rfl dX1_isSame_317 ?_
          refine lv_iconst (v := 2) hx hb dX1_isSame_318 (by decide) ?_
          refine z_gil hx hb hK 0 rfl HG w hwl 2 (by decide) (by decide) (v := nI (m_cN g0 N w)) rfl ((w_cg hg).trans (m_cg_N hg)) dX1_isSame_319 ?_
          refine lv_icmp_ne (tgt := 437) hx hb dX1_isSame_320 (by decide) (fun c_320 => absurd rfl c_320) (fun c_320 => ?_)
          refine lv_aload_n hx hb dX1_isSame_323 rfl (lv_at hl 13 rfl) ?_
          refine lv_iload hx hb dX1_isSame_324 (lv_at hl 1 rfl) ?_
          refine q_callV (As := [.int (nI w)]) (rest := []) ⟨hx, hb, hml, hown, hts⟩ (d_strainOf l D cI ad N pa pe f0 f1 f2 f3 f4 g0 g1 g2 hR w hg) (cwV 1 hts gX1_isSame_X0_strainOf rfl rfl rfl kv_X0_strainOf ⟨Nat.le_of_ble_eq_true rfl, Nat.le_of_ble_eq_true rfl⟩) (va_recv hK HT (ci := 0) (q0 := 0) rfl rfl) HT (hK.sub [0] rfl) rfl hl.1 rfl (Nat.le_of_ble_eq_true rfl) dX1_isSame_326 (by show 70 ≤ 70; omega) (by show 700 ≤ 700; omega) hS (fun H locs hsm hS => ?_)
          have hq := hq.tr hsm
          obtain ⟨-, HT, HP, HG⟩ := hI.kept hq
          have hA := hA.kept hsm
          refine lv_aload_n hx hb dX1_isSame_329 rfl (lv_at hl 11 rfl) ?_
          refine lv_iload hx hb dX1_isSame_330 (lv_at hl 1 rfl) ?_
          refine p_callS (As := [.ref O2, .int (nI w)]) (rest := [.int (m_st g0 N w)]) ⟨hx, hb, hml, hown, hts⟩ (c_X1_strain l D cI cA g0 g1 g2 N rw O2 w hw hg) (va_cwS 2 hts gX1_isSame_X1_strain rfl rfl rfl ks_X1_strain ⟨Nat.le_of_ble_eq_true rfl, Nat.le_of_ble_eq_true rfl⟩) pH.mv (p_at (Z := gW cI cA g0 g1 g2 N rw O2) HG) hK rfl hl.1 rfl (Nat.le_of_ble_eq_true rfl) dX1_isSame_332 (by show 70 ≤ 70; omega) (by show 700 ≤ 700; omega) hS (fun H locs hsm hS => ?_)
          have hq := hq.tr hsm
          obtain ⟨-, HT, HP, HG⟩ := hI.kept hq
          have hA := hA.kept hsm
          refine lv_icmp_ne (tgt := 437) hx hb dX1_isSame_335 (by decide) (fun c_335 => absurd rfl c_335) (fun c_335 => ?_)
          refine lv_aload_n hx hb dX1_isSame_338 rfl (lv_at hl 13 rfl) ?_
          refine lv_iload hx hb dX1_isSame_339 (lv_at hl 1 rfl) ?_
          refine q_callV (As := [.int (nI w)]) (rest := []) ⟨hx, hb, hml, hown, hts⟩ (d_isTied l D cI ad N pa pe f0 f1 f2 f3 f4 g0 g1 g2 hR w hg) (cwV 1 hts gX1_isSame_X0_isTied rfl rfl rfl kv_X0_isTied ⟨Nat.le_of_ble_eq_true rfl, Nat.le_of_ble_eq_true rfl⟩) (va_recv hK HT (ci := 0) (q0 := 0) rfl rfl) HT (hK.sub [0] rfl) rfl hl.1 rfl (Nat.le_of_ble_eq_true rfl) dX1_isSame_341 (by show 70 ≤ 70; omega) (by show 700 ≤ 700; omega) hS (fun H locs hsm hS => ?_)
          have hq := hq.tr hsm
          obtain ⟨-, HT, HP, HG⟩ := hI.kept hq
          have hA := hA.kept hsm
          refine lv_aload_n hx hb dX1_isSame_344 rfl (lv_at hl 11 rfl) ?_
          refine lv_iload hx hb dX1_isSame_345 (lv_at hl 1 rfl) ?_
          refine z_gal hx hb hK 1 rfl HG w hwl (by omega) rfl dX1_isSame_347 ?_
          refine lv_iconst (v := 3) hx hb dX1_isSame_348 (by decide) ?_
          refine z_gil hx hb hK 0 rfl HG w hwl 3 (by decide) (by decide) (v := g2 (m_P g0 N w)) rfl rfl dX1_isSame_349 ?_
          refine lv_iconst (v := 1) hx hb dX1_isSame_350 (by decide) ?_
          suffices K_351 : ∀ v9 : Int32, v9 = bI (m_ti g0 g2 N w) → W p l e iRm s m args below meth c H locs 70 700 (iQ below args s) (F0 m 359 ls [.int v9, .int (bI (m_ti g0 g2 N w))]) from by
            refine lv_icmp_ne (tgt := 358) hx hb dX1_isSame_351 (by decide) (fun c_351 => ?_) (fun c_351 => ?_)
            · refine lv_iconst (v := 0) hx hb dX1_isSame_358 (by decide) ?_
              exact K_351 _ (by rw [← hti]; exact bI_df c_351)
            · refine lv_iconst (v := 1) hx hb dX1_isSame_354 (by decide) ?_
              refine lv_goto (tgt := 359) hx hb dX1_isSame_355 (by decide) ?_
              exact K_351 _ (by rw [← hti]; exact bI_dt c_351)
          intro v9 hv9
          rw [hv9]; clear hv9
          refine lv_icmp_ne (tgt := 437) hx hb dX1_isSame_359 (by decide) (fun c_359 => absurd rfl c_359) (fun c_359 => ?_)
          refine lv_aload_n hx hb dX1_isSame_362 rfl (lv_at hl 13 rfl) ?_
          refine lv_iload hx hb dX1_isSame_363 (lv_at hl 1 rfl) ?_
          refine q_callV (As := [.int (nI w)]) (rest := []) ⟨hx, hb, hml, hown, hts⟩ (d_isSmooth l D cI ad N pa pe f0 f1 f2 f3 f4 g0 g1 g2 hR w hg) (cwV 1 hts gX1_isSame_X0_isSmooth rfl rfl rfl kv_X0_isSmooth ⟨Nat.le_of_ble_eq_true rfl, Nat.le_of_ble_eq_true rfl⟩) (va_recv hK HT (ci := 0) (q0 := 0) rfl rfl) HT (hK.sub [0] rfl) rfl hl.1 rfl (Nat.le_of_ble_eq_true rfl) dX1_isSame_365 (by show 70 ≤ 70; omega) (by show 700 ≤ 700; omega) hS (fun H locs hsm hS => ?_)
          have hq := hq.tr hsm
          obtain ⟨-, HT, HP, HG⟩ := hI.kept hq
          have hA := hA.kept hsm
          refine lv_iload hx hb dX1_isSame_368 (lv_at hl 0 rfl) ?_
          suffices K_370 : ∀ v9 : Int32, v9 = bI (m_so g0 g2 N w) → W p l e iRm s m args below meth c H locs 70 700 (iQ below args s) (F0 m 378 ls [.int v9, .int (bI (m_so g0 g2 N w))]) from by
            refine lv_if_ne (tgt := 377) hx hb dX1_isSame_370 (by decide) (fun c_370 => ?_) (fun c_370 => ?_)
            · refine lv_iconst (v := 0) hx hb dX1_isSame_377 (by decide) ?_
              exact K_370 _ (by rw [← m_kd0 g0 g1 g2 N w]; exact bI_df c_370)
            · refine lv_iconst (v := 1) hx hb dX1_isSame_373 (by decide) ?_
              refine lv_goto (tgt := 378) hx hb dX1_isSame_374 (by decide) ?_
              exact K_370 _ (by rw [← m_kd0 g0 g1 g2 N w]; exact bI_dt c_370)
          intro v9 hv9
          rw [hv9]; clear hv9
          refine lv_icmp_ne (tgt := 437) hx hb dX1_isSame_378 (by decide) (fun c_378 => absurd rfl c_378) (fun c_378 => ?_)
          refine lv_aload_n hx hb dX1_isSame_381 rfl (lv_at hl 13 rfl) ?_
          refine lv_iload hx hb dX1_isSame_382 (lv_at hl 1 rfl) ?_
          refine q_callV (As := [.int (nI w)]) (rest := []) ⟨hx, hb, hml, hown, hts⟩ (d_isPolite l D cI ad N pa pe f0 f1 f2 f3 f4 g0 g1 g2 hR w hg) (cwV 1 hts gX1_isSame_X0_isPolite rfl rfl rfl kv_X0_isPolite ⟨Nat.le_of_ble_eq_true rfl, Nat.le_of_ble_eq_true rfl⟩) (va_recv hK HT (ci := 0) (q0 := 0) rfl rfl) HT (hK.sub [0] rfl) rfl hl.1 rfl (Nat.le_of_ble_eq_true rfl) dX1_isSame_384 (by show 70 ≤ 70; omega) (by show 700 ≤ 700; omega) hS (fun H locs hsm hS => ?_)
          have hq := hq.tr hsm
          obtain ⟨-, HT, HP, HG⟩ := hI.kept hq
          have hA := hA.kept hsm
          refine lv_iload hx hb dX1_isSame_387 (lv_at hl 0 rfl) ?_
          refine lv_iconst (v := 1) hx hb dX1_isSame_389 (by decide) ?_
          suffices K_390 : ∀ v9 : Int32, v9 = bI (m_pol g0 g1 g2 N w) → W p l e iRm s m args below meth c H locs 70 700 (iQ below args s) (F0 m 398 ls [.int v9, .int (bI (m_pol g0 g1 g2 N w))]) from by
            refine lv_icmp_ne (tgt := 397) hx hb dX1_isSame_390 (by decide) (fun c_390 => ?_) (fun c_390 => ?_)
            · refine lv_iconst (v := 0) hx hb dX1_isSame_397 (by decide) ?_
              exact K_390 _ (by rw [← m_kd1]; exact bI_df c_390)
            · refine lv_iconst (v := 1) hx hb dX1_isSame_393 (by decide) ?_
              refine lv_goto (tgt := 398) hx hb dX1_isSame_394 (by decide) ?_
              exact K_390 _ (by rw [← m_kd1]; exact bI_dt c_390)
          intro v9 hv9
          rw [hv9]; clear hv9
          refine lv_icmp_ne (tgt := 437) hx hb dX1_isSame_398 (by decide) (fun c_398 => absurd rfl c_398) (fun c_398 => ?_)
          refine lv_aload_n hx hb dX1_isSame_401 rfl (lv_at hl 13 rfl) ?_
          refine lv_iload hx hb dX1_isSame_402 (lv_at hl 1 rfl) ?_
          refine q_callV (As := [.int (nI w)]) (rest := []) ⟨hx, hb, hml, hown, hts⟩ (d_isBroken l D cI ad N pa pe f0 f1 f2 f3 f4 g0 g1 g2 hR w hg) (cwV 1 hts gX1_isSame_X0_isBroken rfl rfl rfl kv_X0_isBroken ⟨Nat.le_of_ble_eq_true rfl, Nat.le_of_ble_eq_true rfl⟩) (va_recv hK HT (ci := 0) (q0 := 0) rfl rfl) HT (hK.sub [0] rfl) rfl hl.1 rfl (Nat.le_of_ble_eq_true rfl) dX1_isSame_404 (by show 70 ≤ 70; omega) (by show 700 ≤ 700; omega) hS (fun H locs hsm hS => ?_)
          have hq := hq.tr hsm
          obtain ⟨-, HT, HP, HG⟩ := hI.kept hq
          have hA := hA.kept hsm
          refine lv_iload hx hb dX1_isSame_407 (lv_at hl 0 rfl) ?_
          refine lv_iconst (v := 2) hx hb dX1_isSame_409 (by decide) ?_
          suffices K_410 : ∀ v9 : Int32, v9 = bI (m_br g0 g1 g2 N w) → W p l e iRm s m args below meth c H locs 70 700 (iQ below args s) (F0 m 418 ls [.int v9, .int (bI (m_br g0 g1 g2 N w))]) from by
            refine lv_icmp_ne (tgt := 417) hx hb dX1_isSame_410 (by decide) (fun c_410 => ?_) (fun c_410 => ?_)
            · refine lv_iconst (v := 0) hx hb dX1_isSame_417 (by decide) ?_
              exact K_410 _ (by rw [← m_kd2]; exact bI_df c_410)
            · refine lv_iconst (v := 1) hx hb dX1_isSame_413 (by decide) ?_
              refine lv_goto (tgt := 418) hx hb dX1_isSame_414 (by decide) ?_
              exact K_410 _ (by rw [← m_kd2]; exact bI_dt c_410)
          intro v9 hv9
          rw [hv9]; clear hv9
          refine lv_icmp_ne (tgt := 437) hx hb dX1_isSame_418 (by decide) (fun c_418 => absurd rfl c_418) (fun c_418 => ?_)
          refine lv_aload_n hx hb dX1_isSame_421 rfl (lv_at hl 13 rfl) ?_
          refine lv_iload hx hb dX1_isSame_422 (lv_at hl 1 rfl) ?_
          refine q_callV (As := [.int (nI w)]) (rest := []) ⟨hx, hb, hml, hown, hts⟩ (d_costOfMending l D cI ad N pa pe f0 f1 f2 f3 f4 g0 g1 g2 hR w hg) (cwV 1 hts gX1_isSame_X0_costOfMending rfl rfl rfl kv_X0_costOfMending ⟨Nat.le_of_ble_eq_true rfl, Nat.le_of_ble_eq_true rfl⟩) (va_recv hK HT (ci := 0) (q0 := 0) rfl rfl) HT (hK.sub [0] rfl) rfl hl.1 rfl (Nat.le_of_ble_eq_true rfl) dX1_isSame_424 (by show 70 ≤ 70; omega) (by show 700 ≤ 700; omega) hS (fun H locs hsm hS => ?_)
          have hq := hq.tr hsm
          obtain ⟨-, HT, HP, HG⟩ := hI.kept hq
          have hA := hA.kept hsm
          refine lv_aload_n hx hb dX1_isSame_427 rfl (lv_at hl 12 rfl) ?_
          refine lv_aload_n hx hb dX1_isSame_428 rfl (lv_at hl 11 rfl) ?_
          refine lv_iload hx hb dX1_isSame_429 (lv_at hl 1 rfl) ?_
          refine p_callV (As := [.ref O2, .int (nI w)]) (rest := [.int (m_md g0 g1 g2 N w)]) ⟨hx, hb, hml, hown, hts⟩ (c_X1_mends l D S cI cA g0 g1 g2 N rw O2 w hw hg) (cwV 2 hts gX1_isSame_X1_mends rfl rfl rfl kv_X1_mends ⟨Nat.le_of_ble_eq_true rfl, Nat.le_of_ble_eq_true rfl⟩) pH.mv (va_recv hK (z_one HP.cell) (ci := 1) (q0 := 0) rfl rfl) (p_at (Z := gW cI cA g0 g1 g2 N rw O2) HG) hK rfl hl.1 rfl (Nat.le_of_ble_eq_true rfl) dX1_isSame_431 (by show 70 ≤ 70; omega) (by show 700 ≤ 700; omega) hS (fun H locs hsm hS => ?_)
          have hq := hq.tr hsm
          obtain ⟨-, HT, HP, HG⟩ := hI.kept hq
          have hA := hA.kept hsm
          refine lv_icmp_eq (tgt := 439) hx hb dX1_isSame_434 (by decide) (fun c_434 => ?_) (fun c_434 => absurd rfl c_434)
          refine lv_iload hx hb dX1_isSame_439 (lv_at hl 3 rfl) ?_
          refine lv_iload hx hb dX1_isSame_441 (lv_at hl 0 rfl) ?_
          refine lv_iconst (v := 1) hx hb dX1_isSame_443 (by decide) ?_
          suffices K_444 : ∀ v9 : Int32, v9 = bI (m_pol g0 g1 g2 N w) → W p l e iRm s m args below meth c H locs 70 700 (iQ below args s) (F0 m 452 ls [.int v9, .int (nI (ct (m_pol g0 g1 g2 N) w))]) from by
            refine lv_icmp_ne (tgt := 451) hx hb dX1_isSame_444 (by decide) (fun c_444 => ?_) (fun c_444 => ?_)
            · refine lv_iconst (v := 0) hx hb dX1_isSame_451 (by decide) ?_
              exact K_444 _ (by rw [← m_kd1]; exact bI_df c_444)
            · refine lv_iconst (v := 1) hx hb dX1_isSame_447 (by decide) ?_
              refine lv_goto (tgt := 452) hx hb dX1_isSame_448 (by decide) ?_
              exact K_444 _ (by rw [← m_kd1]; exact bI_dt c_444)
          intro v9 hv9
          rw [hv9]; clear hv9
          refine lv_iadd hx hb dX1_isSame_452 ?_
          refine lv_istore (lv' := [(5, .int (nI (ct (m_pol g0 g1 g2 N) w) + bI (m_pol g0 g1 g2 N w))), (13, .int (m_kd g0 g1 g2 N w)), (12, .int (nI w)), (4, .int (nI (m_th g0 g1 g2 N w))), (6, .int (m_ma g0 g1 g2 N w)), (7, .int (m_ss g0 N w)), (11, .ref a11), (10, .ref a10), (9, .ref a9), (8, .ref a8), (3, .int (nI (m_n g0 N))), (2, .ref O2), (0, .ref S), (1, .ref (ad 0))]) hx hb dX1_isSame_453 hl (by decide) rfl (fun ls hl => ?_)
          refine lv_iload hx hb dX1_isSame_455 (lv_at hl 4 rfl) ?_
          refine lv_aload_n hx hb dX1_isSame_457 rfl (lv_at hl 12 rfl) ?_
          refine lv_aload_n hx hb dX1_isSame_458 rfl (lv_at hl 11 rfl) ?_
          refine lv_iload hx hb dX1_isSame_459 (lv_at hl 2 rfl) ?_
          refine p_callV (As := [.ref O2, .int (nI w)]) (rest := [.int (m_ma g0 g1 g2 N w)]) ⟨hx, hb, hml, hown, hts⟩ (c_X1_mends l D S cI cA g0 g1 g2 N rw O2 w hw hg) (cwV 2 hts gX1_isSame_X1_mends rfl rfl rfl kv_X1_mends ⟨Nat.le_of_ble_eq_true rfl, Nat.le_of_ble_eq_true rfl⟩) pH.mv (va_recv hK (z_one HP.cell) (ci := 1) (q0 := 0) rfl rfl) (p_at (Z := gW cI cA g0 g1 g2 N rw O2) HG) hK rfl hl.1 rfl (Nat.le_of_ble_eq_true rfl) dX1_isSame_461 (by show 70 ≤ 70; omega) (by show 700 ≤ 700; omega) hS (fun H locs hsm hS => ?_)
          have hq := hq.tr hsm
          obtain ⟨-, HT, HP, HG⟩ := hI.kept hq
          have hA := hA.kept hsm
          refine lv_iadd hx hb dX1_isSame_464 ?_
          refine lv_istore (lv' := [(6, .int (m_ma g0 g1 g2 N w + m_md g0 g1 g2 N w)), (5, .int (nI (ct (m_pol g0 g1 g2 N) w) + bI (m_pol g0 g1 g2 N w))), (13, .int (m_kd g0 g1 g2 N w)), (12, .int (nI w)), (4, .int (nI (m_th g0 g1 g2 N w))), (7, .int (m_ss g0 N w)), (11, .ref a11), (10, .ref a10), (9, .ref a9), (8, .ref a8), (3, .int (nI (m_n g0 N))), (2, .ref O2), (0, .ref S), (1, .ref (ad 0))]) hx hb dX1_isSame_465 hl (by decide) rfl (fun ls hl => ?_)
          refine lv_iload hx hb dX1_isSame_467 (lv_at hl 5 rfl) ?_
          refine lv_aload_n hx hb dX1_isSame_469 rfl (lv_at hl 11 rfl) ?_
          refine lv_iload hx hb dX1_isSame_470 (lv_at hl 3 rfl) ?_
          refine p_callS (As := [.ref O2, .int (nI w)]) (rest := [.int (m_ss g0 N w)]) ⟨hx, hb, hml, hown, hts⟩ (c_X1_strain l D cI cA g0 g1 g2 N rw O2 w hw hg) (va_cwS 2 hts gX1_isSame_X1_strain rfl rfl rfl ks_X1_strain ⟨Nat.le_of_ble_eq_true rfl, Nat.le_of_ble_eq_true rfl⟩) pH.mv (p_at (Z := gW cI cA g0 g1 g2 N rw O2) HG) hK rfl hl.1 rfl (Nat.le_of_ble_eq_true rfl) dX1_isSame_472 (by show 70 ≤ 70; omega) (by show 700 ≤ 700; omega) hS (fun H locs hsm hS => ?_)
          have hq := hq.tr hsm
          obtain ⟨-, HT, HP, HG⟩ := hI.kept hq
          have hA := hA.kept hsm
          refine lv_iadd hx hb dX1_isSame_475 ?_
          refine lv_istore (lv' := [(7, .int (m_ss g0 N w + m_st g0 N w)), (6, .int (m_ma g0 g1 g2 N w + m_md g0 g1 g2 N w)), (5, .int (nI (ct (m_pol g0 g1 g2 N) w) + bI (m_pol g0 g1 g2 N w))), (13, .int (m_kd g0 g1 g2 N w)), (12, .int (nI w)), (4, .int (nI (m_th g0 g1 g2 N w))), (11, .ref a11), (10, .ref a10), (9, .ref a9), (8, .ref a8), (3, .int (nI (m_n g0 N))), (2, .ref O2), (0, .ref S), (1, .ref (ad 0))]) hx hb dX1_isSame_476 hl (by decide) rfl (fun ls hl => ?_)
          refine lv_iload hx hb dX1_isSame_478 (lv_at hl 5 rfl) ?_
          refine lv_iload hx hb dX1_isSame_480 (lv_at hl 3 rfl) ?_
          refine lv_iconst (v := 2) hx hb dX1_isSame_482 (by decide) ?_
          suffices K_483 : ∀ v9 : Int32, v9 = bI (m_br g0 g1 g2 N w) → W p l e iRm s m args below meth c H locs 70 700 (iQ below args s) (F0 m 491 ls [.int v9, .int (nI (m_th g0 g1 g2 N w))]) from by
            refine lv_icmp_ne (tgt := 490) hx hb dX1_isSame_483 (by decide) (fun c_483 => ?_) (fun c_483 => ?_)
            · refine lv_iconst (v := 0) hx hb dX1_isSame_490 (by decide) ?_
              exact K_483 _ (by rw [← m_kd2]; exact bI_df c_483)
            · refine lv_iconst (v := 1) hx hb dX1_isSame_486 (by decide) ?_
              refine lv_goto (tgt := 491) hx hb dX1_isSame_487 (by decide) ?_
              exact K_483 _ (by rw [← m_kd2]; exact bI_dt c_483)
          intro v9 hv9
          rw [hv9]; clear hv9
          refine lv_iadd hx hb dX1_isSame_491 ?_
          refine lv_istore (lv' := [(4, .int (nI (m_th g0 g1 g2 N w) + bI (m_br g0 g1 g2 N w))), (7, .int (m_ss g0 N w + m_st g0 N w)), (6, .int (m_ma g0 g1 g2 N w + m_md g0 g1 g2 N w)), (5, .int (nI (ct (m_pol g0 g1 g2 N) w) + bI (m_pol g0 g1 g2 N w))), (13, .int (m_kd g0 g1 g2 N w)), (12, .int (nI w)), (11, .ref a11), (10, .ref a10), (9, .ref a9), (8, .ref a8), (3, .int (nI (m_n g0 N))), (2, .ref O2), (0, .ref S), (1, .ref (ad 0))]) hx hb dX1_isSame_492 hl (by decide) rfl (fun ls hl => ?_)
          refine lv_iinc (v := (nI w + 1)) (lv' := [(12, .int (nI w + 1)), (4, .int (nI (m_th g0 g1 g2 N w) + bI (m_br g0 g1 g2 N w))), (7, .int (m_ss g0 N w + m_st g0 N w)), (6, .int (m_ma g0 g1 g2 N w + m_md g0 g1 g2 N w)), (5, .int (nI (ct (m_pol g0 g1 g2 N) w) + bI (m_pol g0 g1 g2 N w))), (13, .int (m_kd g0 g1 g2 N w)), (11, .ref a11), (10, .ref a10), (9, .ref a9), (8, .ref a8), (3, .int (nI (m_n g0 N))), (2, .ref O2), (0, .ref S), (1, .ref (ad 0))]) hx hb dX1_isSame_494 hl (k := 5) rfl (by rfl) (by decide) rfl (fun ls hl => ?_)
          refine lv_goto (tgt := 192) hx hb dX1_isSame_497 (by decide) ?_
          have e_12 : ((nI w + 1) : Int32) = nI (w + 1) := nI_1 w
          have e_4 : ((nI (m_th g0 g1 g2 N w) + bI (m_br g0 g1 g2 N w)) : Int32) = nI (m_th g0 g1 g2 N (w + 1)) := bI_ct _ w
          have e_5 : ((nI (ct (m_pol g0 g1 g2 N) w) + bI (m_pol g0 g1 g2 N w)) : Int32) = nI (ct (m_pol g0 g1 g2 N) (w + 1)) := bI_ct _ w
          exact ih192 (w + 1) (by omega) (by omega) _ locs ls hq hA hS (lv_eq (lv_sub (l' := [(12, .int (nI w + 1)), (4, .int (nI (m_th g0 g1 g2 N w) + bI (m_br g0 g1 g2 N w))), (5, .int (nI (ct (m_pol g0 g1 g2 N) w) + bI (m_pol g0 g1 g2 N w))), (6, .int (m_ma g0 g1 g2 N (w + 1))), (7, .int (m_ss g0 N (w + 1))), (11, .ref a11), (10, .ref a10), (9, .ref a9), (8, .ref a8), (3, .int (nI (m_n g0 N))), (2, .ref O2), (0, .ref S), (1, .ref (ad 0))]) hl [0, 1, 4, 3, 2, 6, 7, 8, 9, 10, 11, 12, 13] rfl) (by rw [e_5, e_4, e_12]))
        · have hwn : w = m_n g0 N - 1 := (nI_eq (by omega) (by omega)).mp c_294
          refine lv_goto (tgt := 500) hx hb dX1_isSame_297 (by decide) ?_
          rw [show w + 1 = m_n g0 N by omega] at hA
          rw [hwn] at hl
          exact is_500 hC hI hb0 hX H locs ls hq hA hS (lv_sub hl [1, 4, 3, 2, 5, 6, 7, 8, 9, 10, 11, 12] rfl)
  exact lo_192 ((m_n g0 N - 1) + 1) 0 (by omega) (by omega) _ locs ls hq hA hS (lv_sub hl [0, 1, 2, 3, 4, 5, 6, 7, 8, 9, 10, 11, 12] rfl)

set_option maxHeartbeats 4000000 in
set_option maxRecDepth 100000 in
theorem is_142 {p : Program} {l : Launch} {e : Env} {s : State} {m : MethodId} {args : Array Value} {below : List Frame} {meth : Method} {c : Code} {Hb : Heap} {D : va_G} {cI cA : ClassId} {ad : Nat → Nat} {S N pa : Nat} {pe : Int32} {f0 f1 f2 f3 f4 g0 g1 g2 : Nat → Int32} {O : Nat} {r : Nat → Nat} {rw : Nat → Nat} {O2 : Nat}  (hC : iC p s m meth c args D cI cA) (hI : iS D cI cA ad S N pa pe f0 f1 f2 f3 f4 g0 g1 g2 O r rw O2 Hb) (hb0 : s.heap.size ≤ Hb.size)  : ∀ (H : Heap) (locs : List Loc) (ls : Array Slot), q_same Hb H → va_S (e_F q_no s.heap.size) s.heap H locs → lv_has ls 20 [(3, .int (nI (m_n g0 N))), (2, .ref O2), (0, .ref S), (1, .ref (ad 0))] → W p l e iRm s m args below meth c H locs 25 144 (iQ below args s) (F0 m 142 ls []) := by
  intro H locs ls hq  hS hl
  obtain ⟨hx, hb, hml, hr, hts, hown, hlocks, hK, hO⟩ := id hC
  have hR := hI.1
  obtain ⟨-, HT, HP, HG⟩ := hI.kept hq
  have hin : ∀ w ∈ wsX10, w ∈ wsX1_isSame := by decide +kernel
  have hN24 := hR.1.n
  have hm9 := m_n_le g0 N
  have hw := hR.1.ok
  have hnb : m_n g0 N ≤ 24 := by omega
  refine lv_iconst (v := 0) hx hb dX1_isSame_142 (by decide) ?_
  refine lv_istore (lv' := [(4, .int 0), (3, .int (nI (m_n g0 N))), (2, .ref O2), (0, .ref S), (1, .ref (ad 0))]) hx hb dX1_isSame_143 hl (by decide) rfl (fun ls hl => ?_)
  refine lv_iconst (v := 0) hx hb dX1_isSame_145 (by decide) ?_
  refine lv_istore (lv' := [(5, .int 0), (4, .int 0), (3, .int (nI (m_n g0 N))), (2, .ref O2), (0, .ref S), (1, .ref (ad 0))]) hx hb dX1_isSame_146 hl (by decide) rfl (fun ls hl => ?_)
  refine lv_iconst (v := 0) hx hb dX1_isSame_148 (by decide) ?_
  refine lv_istore (lv' := [(6, .int 0), (5, .int 0), (4, .int 0), (3, .int (nI (m_n g0 N))), (2, .ref O2), (0, .ref S), (1, .ref (ad 0))]) hx hb dX1_isSame_149 hl (by decide) rfl (fun ls hl => ?_)
  refine lv_iconst (v := 0) hx hb dX1_isSame_151 (by decide) ?_
  refine lv_istore (lv' := [(7, .int 0), (6, .int 0), (5, .int 0), (4, .int 0), (3, .int (nI (m_n g0 N))), (2, .ref O2), (0, .ref S), (1, .ref (ad 0))]) hx hb dX1_isSame_152 hl (by decide) rfl (fun ls hl => ?_)
  refine lv_iload_n hx hb dX1_isSame_154 rfl (lv_at hl 4 rfl) ?_
  refine lv_iconst (v := 1) hx hb dX1_isSame_155 (by decide) ?_
  refine lv_iadd hx hb dX1_isSame_156 ?_
  rw [nI_1]
  refine z_newi hx hb (hts (.arrayClass .int) (by decide +kernel)) hK 0 rfl hS (n := (m_n g0 N + 1)) rfl (by first | decide | omega) (by show 25 + 1 ≤ 70; omega) (by show 144 + (m_n g0 N + 1) ≤ 700; omega) dX1_isSame_157 (fun a8 H ha8E ha8 hqr hS => ?_)
  have h8z := z_lt ha8
  have hb8 : Hb.size ≤ a8 := by rw [ha8E]; exact hq.1
  have hq := hq.tr hqr
  refine lv_astore (lv' := [(8, .ref a8), (7, .int 0), (6, .int 0), (5, .int 0), (4, .int 0), (3, .int (nI (m_n g0 N))), (2, .ref O2), (0, .ref S), (1, .ref (ad 0))]) hx hb dX1_isSame_159 hl (by decide) rfl (fun ls hl => ?_)
  refine lv_bipush (v := 6) hx hb dX1_isSame_161 (by decide) ?_
  refine z_newi hx hb (hts (.arrayClass .int) (by decide +kernel)) hK 0 rfl hS (n := 6) rfl (by first | decide | omega) (by show 25 + 1 + 1 ≤ 70; omega) (by show 144 + (m_n g0 N + 1) + 6 ≤ 700; omega) dX1_isSame_163 (fun a9 H ha9E ha9 hqr hS => ?_)
  have h89 : a8 < a9 := by rw [ha9E]; exact h8z
  have ha8 := z_kp ha8 hqr
  have h9z := z_lt ha9
  have hq := hq.tr hqr
  refine lv_astore (lv' := [(9, .ref a9), (8, .ref a8), (7, .int 0), (6, .int 0), (5, .int 0), (4, .int 0), (3, .int (nI (m_n g0 N))), (2, .ref O2), (0, .ref S), (1, .ref (ad 0))]) hx hb dX1_isSame_165 hl (by decide) rfl (fun ls hl => ?_)
  refine lv_bipush (v := 6) hx hb dX1_isSame_167 (by decide) ?_
  refine lv_iload_n hx hb dX1_isSame_169 rfl (lv_at hl 6 rfl) ?_
  refine lv_iconst (v := 1) hx hb dX1_isSame_170 (by decide) ?_
  refine lv_iadd hx hb dX1_isSame_171 ?_
  rw [nI_1]
  refine z_mna hx hb hown (hts (.classLink RX1 82 "[[I") (by decide +kernel)) hO (hts (.arrayClass .int) (by decide +kernel)) hK 1 0 rfl rfl hS (6) (m_n g0 N + 1) rfl rfl (by omega) (by omega) (by show 25 + 1 + 1 + (1 + (6)) ≤ 70; omega) (by show 144 + (m_n g0 N + 1) + 6 + ((6) + (6) * (m_n g0 N + 1)) ≤ 700; omega) dX1_isSame_172 (fun a10 H ha10E ha10 hqr hS ha10Z => ?_)
  have h910 : a9 < a10 := by rw [ha10E]; exact h9z
  have ha8 := z_kp ha8 hqr
  have ha9 := z_kp ha9 hqr
  have hq := hq.tr hqr
  refine lv_astore (lv' := [(10, .ref a10), (9, .ref a9), (8, .ref a8), (7, .int 0), (6, .int 0), (5, .int 0), (4, .int 0), (3, .int (nI (m_n g0 N))), (2, .ref O2), (0, .ref S), (1, .ref (ad 0))]) hx hb dX1_isSame_176 hl (by decide) rfl (fun ls hl => ?_)
  refine lv_iload_n hx hb dX1_isSame_178 rfl (lv_at hl 7 rfl) ?_
  refine lv_iconst (v := 1) hx hb dX1_isSame_179 (by decide) ?_
  refine lv_iadd hx hb dX1_isSame_180 ?_
  rw [nI_1]
  refine lv_bipush (v := 10) hx hb dX1_isSame_181 (by decide) ?_
  refine z_mna hx hb hown (hts (.classLink RX1 82 "[[I") (by decide +kernel)) hO (hts (.arrayClass .int) (by decide +kernel)) hK 1 0 rfl rfl hS (m_n g0 N + 1) (10) rfl rfl (by omega) (by omega) (by show 25 + 1 + 1 + 1 + (6) + (1 + (m_n g0 N + 1)) ≤ 70; omega) (by show 144 + (m_n g0 N + 1) + 6 + (6) + (6) * (m_n g0 N + 1) + ((m_n g0 N + 1) + (m_n g0 N + 1) * (10)) ≤ 700; omega) dX1_isSame_183 (fun a11 H ha11E ha11 hqr hS ha11Z => ?_)
  have h1011 : a10 + 6 < a11 := by omega
  have ha8 := z_kp ha8 hqr
  have ha9 := z_kp ha9 hqr
  have ha10 := ha10.kept hqr
  have hq := hq.tr hqr
  refine lv_astore (lv' := [(11, .ref a11), (10, .ref a10), (9, .ref a9), (8, .ref a8), (7, .int 0), (6, .int 0), (5, .int 0), (4, .int 0), (3, .int (nI (m_n g0 N))), (2, .ref O2), (0, .ref S), (1, .ref (ad 0))]) hx hb dX1_isSame_187 hl (by decide) rfl (fun ls hl => ?_)
  refine W.widen (k := 70) (n := 700) (by omega) (by omega) ?_
  have hA : iA cI cA g0 g1 g2 N a8 a9 a10 a11 0 H := ⟨aI.cg ha8 (fun k _ => nI_0.symm), aI.cg ha9 (fun k _ => nI_0.symm), ha10.cg (fun i j _ _ => by show (0 : Int32) = bI (Nat.testBit 0 j); rw [Nat.zero_testBit]; rfl), ha11.cg (fun i j _ _ => by show (0 : Int32) = bI (Nat.testBit 0 j); rw [Nat.zero_testBit]; rfl)⟩
  exact is_189 hC hI hb0 ⟨hb8, h89, h910, h1011⟩ H locs ls hq hA hS (lv_sub hl [7, 6, 5, 4, 0, 1, 2, 3, 8, 9, 10, 11] rfl)

set_option maxHeartbeats 4000000 in
set_option maxRecDepth 100000 in
theorem is_77 {p : Program} {l : Launch} {e : Env} {s : State} {m : MethodId} {args : Array Value} {below : List Frame} {meth : Method} {c : Code} {Hb : Heap} {D : va_G} {cI cA : ClassId} {ad : Nat → Nat} {S N pa : Nat} {pe : Int32} {f0 f1 f2 f3 f4 g0 g1 g2 : Nat → Int32} {O : Nat} {r : Nat → Nat} {rw : Nat → Nat} {O2 : Nat}  (hC : iC p s m meth c args D cI cA) (hI : iS D cI cA ad S N pa pe f0 f1 f2 f3 f4 g0 g1 g2 O r rw O2 Hb) (hb0 : s.heap.size ≤ Hb.size)  : ∀ (H : Heap) (locs : List Loc) (ls : Array Slot), q_same Hb H → va_S (e_F q_no s.heap.size) s.heap H locs → lv_has ls 20 [(3, .int (nI (m_n g0 N))), (2, .ref O2), (0, .ref S), (1, .ref (ad 0))] → W p l e iRm s m args below meth c H locs 25 144 (iQ below args s) (F0 m 77 ls []) := by
  intro H locs ls hq  hS hl
  obtain ⟨hx, hb, hml, hr, hts, hown, hlocks, hK, hO⟩ := id hC
  have hR := hI.1
  obtain ⟨-, HT, HP, HG⟩ := hI.kept hq
  have hin : ∀ w ∈ wsX10, w ∈ wsX1_isSame := by decide +kernel
  have hN24 := hR.1.n
  have hm9 := m_n_le g0 N
  have hw := hR.1.ok
  refine lv_iconst (v := 0) hx hb dX1_isSame_77 (by decide) ?_
  refine lv_istore (lv' := [(4, .int 0), (3, .int (nI (m_n g0 N))), (2, .ref O2), (0, .ref S), (1, .ref (ad 0))]) hx hb dX1_isSame_78 hl (by decide) rfl (fun ls hl => ?_)
  have lo_80 : ∀ (fu80 k : Nat), N - k < fu80 → k ≤ N → ∀ (H : Heap) (locs : List Loc) (ls : Array Slot), q_same Hb H → va_S (e_F q_no s.heap.size) s.heap H locs → lv_has ls 20 [(4, .int (nI k)), (3, .int (nI (m_n g0 N))), (2, .ref O2), (0, .ref S), (1, .ref (ad 0))] → W p l e iRm s m args below meth c H locs 25 144 (iQ below args s) (F0 m 80 ls []) := by
    intro fu80
    induction fu80 with
    | zero => intro k hi; exact absurd hi (Nat.not_lt_zero _)
    | succ fu80 ih80 =>
      intro k hi80 hkN H locs ls hq hS hl
      refine lv_iload hx hb dX1_isSame_80 (lv_at hl 0 rfl) ?_
      obtain ⟨-, HT, HP, HG⟩ := hI.kept hq
      refine lv_aload_n hx hb dX1_isSame_82 rfl (lv_at hl 3 rfl) ?_
      refine z_get hx hb hts hin hown hK HP.cell 2 (by decide) (hts (.fieldLink RX1 15 "SplicedTalkLaw$Sim" "rows" "[[I") (by decide +kernel)) (v := .ref O) rfl dX1_isSame_83 ?_
      refine z_gln hx hb hK 1 rfl HP.2 dX1_isSame_86 ?_
      refine lv_icmp_ge (tgt := 142) hx hb dX1_isSame_87 (by decide) (fun c_87 => ?_) (fun c_87 => ?_)
      · have hi9 : k = N := nI_ge' hkN (by omega) c_87
        exact is_142 hC hI hb0 H locs ls hq  hS (lv_sub hl [1, 2, 3, 4] rfl)
      · have hk9 : k < N := nI_lt' hkN (by omega) c_87
        refine lv_aload_n hx hb dX1_isSame_90 rfl (lv_at hl 4 rfl) ?_
        refine lv_iload hx hb dX1_isSame_91 (lv_at hl 0 rfl) ?_
        refine q_callV (As := [.int (nI k)]) (rest := []) ⟨hx, hb, hml, hown, hts⟩ (d_isCough l D cI ad N pa pe f0 f1 f2 f3 f4 g0 g1 g2 hR k hk9) (cwV 1 hts gX1_isSame_X0_isCough rfl rfl rfl kv_X0_isCough ⟨Nat.le_of_ble_eq_true rfl, Nat.le_of_ble_eq_true rfl⟩) (va_recv hK HT (ci := 0) (q0 := 0) rfl rfl) HT (hK.sub [0] rfl) rfl hl.1 rfl (Nat.le_of_ble_eq_true rfl) dX1_isSame_93 (by show 25 ≤ 70; omega) (by show 144 ≤ 700; omega) hS (fun H locs hsm hS => ?_)
        have hq := hq.tr hsm
        obtain ⟨-, HT, HP, HG⟩ := hI.kept hq
        refine lv_aload_n hx hb dX1_isSame_96 rfl (lv_at hl 3 rfl) ?_
        refine z_get hx hb hts hin hown hK HP.cell 2 (by decide) (hts (.fieldLink RX1 15 "SplicedTalkLaw$Sim" "rows" "[[I") (by decide +kernel)) (v := .ref O) rfl dX1_isSame_97 ?_
        refine lv_iload hx hb dX1_isSame_100 (lv_at hl 0 rfl) ?_
        refine z_gal hx hb hK 1 rfl HP.2 k hk9 (by omega) rfl dX1_isSame_102 ?_
        refine lv_iconst (v := 1) hx hb dX1_isSame_103 (by decide) ?_
        refine z_gil hx hb hK 0 rfl HP.2 k hk9 1 (by decide) (by decide) (v := g0 k) rfl rfl dX1_isSame_104 ?_
        suffices K_105 : ∀ v9 : Int32, v9 = bI (!m_wd g0 k) → W p l e iRm s m args below meth c H locs 25 144 (iQ below args s) (F0 m 113 ls [.int v9, .int (bI (!m_wd g0 k))]) from by
          refine lv_if_ge (tgt := 112) hx hb dX1_isSame_105 (by decide) (fun c_105 => ?_) (fun c_105 => ?_)
          · refine lv_iconst (v := 0) hx hb dX1_isSame_112 (by decide) ?_
            exact K_105 _ (by unfold m_wd; exact bI_nt c_105)
          · refine lv_iconst (v := 1) hx hb dX1_isSame_108 (by decide) ?_
            refine lv_goto (tgt := 113) hx hb dX1_isSame_109 (by decide) ?_
            exact K_105 _ (by unfold m_wd; exact bI_nf c_105)
        intro v9 hv9
        rw [hv9]; clear hv9
        refine lv_icmp_ne (tgt := 134) hx hb dX1_isSame_113 (by decide) (fun c_113 => absurd rfl c_113) (fun c_113 => ?_)
        refine lv_aload_n hx hb dX1_isSame_116 rfl (lv_at hl 4 rfl) ?_
        refine lv_iload hx hb dX1_isSame_117 (lv_at hl 0 rfl) ?_
        refine q_callV (As := [.int (nI k)]) (rest := []) ⟨hx, hb, hml, hown, hts⟩ (d_speakerAt l D cI ad N pa pe f0 f1 f2 f3 f4 g0 g1 g2 hR k hk9) (cwV 1 hts gX1_isSame_X0_speakerAt rfl rfl rfl kv_X0_speakerAt ⟨Nat.le_of_ble_eq_true rfl, Nat.le_of_ble_eq_true rfl⟩) (va_recv hK HT (ci := 0) (q0 := 0) rfl rfl) HT (hK.sub [0] rfl) rfl hl.1 rfl (Nat.le_of_ble_eq_true rfl) dX1_isSame_119 (by show 25 ≤ 70; omega) (by show 144 ≤ 700; omega) hS (fun H locs hsm hS => ?_)
        have hq := hq.tr hsm
        obtain ⟨-, HT, HP, HG⟩ := hI.kept hq
        refine lv_aload_n hx hb dX1_isSame_122 rfl (lv_at hl 3 rfl) ?_
        refine z_get hx hb hts hin hown hK HP.cell 2 (by decide) (hts (.fieldLink RX1 15 "SplicedTalkLaw$Sim" "rows" "[[I") (by decide +kernel)) (v := .ref O) rfl dX1_isSame_123 ?_
        refine lv_iload hx hb dX1_isSame_126 (lv_at hl 0 rfl) ?_
        refine z_gal hx hb hK 1 rfl HP.2 k hk9 (by omega) rfl dX1_isSame_128 ?_
        refine lv_iconst (v := 0) hx hb dX1_isSame_129 (by decide) ?_
        refine z_gil hx hb hK 0 rfl HP.2 k hk9 0 (by decide) (by decide) (v := g1 k) rfl rfl dX1_isSame_130 ?_
        refine lv_icmp_eq (tgt := 136) hx hb dX1_isSame_131 (by decide) (fun c_131 => ?_) (fun c_131 => absurd rfl c_131)
        refine lv_iinc (v := (nI k + 1)) (lv' := [(4, .int (nI k + 1)), (3, .int (nI (m_n g0 N))), (2, .ref O2), (0, .ref S), (1, .ref (ad 0))]) hx hb dX1_isSame_136 hl (k := 0) rfl (by rfl) (by decide) rfl (fun ls hl => ?_)
        refine lv_goto (tgt := 80) hx hb dX1_isSame_139 (by decide) ?_
        have e_4 : ((nI k + 1) : Int32) = nI (k + 1) := nI_1 k
        exact ih80 (k + 1) (by omega) (by omega) _ locs ls hq hS (lv_eq (lv_sub (l' := [(4, .int (nI k + 1)), (3, .int (nI (m_n g0 N))), (2, .ref O2), (0, .ref S), (1, .ref (ad 0))]) hl [0, 1, 2, 3, 4] rfl) (by rw [e_4]))
  exact lo_80 (N + 1) 0 (by omega) (by omega) _ locs ls hq hS (lv_sub hl [0, 1, 2, 3, 4] rfl)

theorem kv_X1_isSame : yX1_isSame.cls = RX1 ∧ yX1_isSame.cls ≠ "java/lang/invoke/MethodHandle" ∧ yX1_isSame.cls ≠ "java/lang/invoke/VarHandle" ∧ (parseMethodDescriptor yX1_isSame.desc).map (fun d => d.parameters.length) = some 1 := by decide +kernel
theorem ks_X1_isSame : yX1_isSame.cls ≠ "java/lang/invoke/MethodHandle" ∧ yX1_isSame.cls ≠ "java/lang/invoke/VarHandle" ∧ (parseMethodDescriptor yX1_isSame.desc).map (fun d => d.parameters.length) = some 1 := kv_X1_isSame.2
set_option maxHeartbeats 4000000 in
set_option maxRecDepth 100000 in
theorem c_X1_isSame (l : Launch) (D : va_G) (cI cA : ClassId) (ad : Nat → Nat) (S q0 : Nat) : e_I l yX1_isSame wsX1_isSame iRm D (zt cI cA) (pH (zST D cI cA ad S q0)) [.ref S, .ref (ad 0)] 1 q_no 70 700 (fun _ (_ : Unit) _ => True) := by
  refine e_startI (cc := cX1_isSame) (maxL := 20) (rt := .boolean) (by decide) rfl (Nat.le_of_ble_eq_true rfl) ?_
  intro p e s m below meth c hx hb hml hr hts hown hlocks hK hO hPr locs ls hS hl
  obtain ⟨N, w, t, pa, pe, f0, f1, f2, f3, f4, g0, g1, g2, O, r, hRa, hW, hg1, hpa, HT, HP, -⟩ := hPr
  have hC : iC p s m meth c [.ref S, .ref (ad 0)].toArray D cI cA := ⟨hx, hb, hml, hr, hts, hown, hlocks, hK, hO⟩
  have hR : tR N f0 f1 f2 f3 f4 g0 g1 g2 := ⟨hRa, by rw [← hW.ww, ← hW.tt]; exact hW, hg1⟩
  have HT : va_P D vwCl (tW cI ad N pa pe f0 f1 f2 f3 f4 g0 g1 g2) s.heap := by
    have e1 := hW.ww; have e2 := hW.tt
    rw [e1, e2] at HT
    exact HT
  have HP : sG D cI cA S O N r g0 g1 g2 (nI pa) pe s.heap := HP
  have hA9 : ∀ q : Nat, s.heap.size ≤ q → e_F q_no s.heap.size q := fun q h => Or.inr h
  have hin : ∀ w ∈ wsX10, w ∈ wsX1_isSame := by decide +kernel
  have hN24 := hR.1.n
  have hm9 := m_n_le g0 N
  have hw := hR.1.ok
  have hl : lv_has ls 20 [(0, .ref S), (1, .ref (ad 0))] := hl
  refine lv_aload_n hx hb dX1_isSame_0 rfl (lv_at hl 0 rfl) ?_
  refine e_callVR (As := []) (rest := []) ⟨hx, hb, hml, hown, hts⟩ (c_X1_words l D cI cA S O N r g0 g1 g2 (nI pa) pe hN24) (cwV 0 hts gX1_isSame_X1_words rfl rfl rfl kv_X1_words ⟨Nat.le_of_ble_eq_true rfl, Nat.le_of_ble_eq_true rfl⟩) pH.mv (va_recv hK (z_one HP.cell) (ci := 1) (q0 := 0) rfl rfl) (p_at (Z := sG D cI cA S O N r g0 g1 g2 (nI pa) pe) HP) hK hO (fun _ h => h.elim) hA9 rfl hl.1 rfl (Nat.le_of_ble_eq_true rfl) dX1_isSame_1 (by show 0 + 25 ≤ 70; omega) (by show 0 + 144 ≤ 700; omega) hS (fun rw O2 Hb locs HG hz hk hS => ?_)
  have hsm : q_same _ Hb := ⟨hz, fun q hq => hk q hq (fun h => h)⟩
  have HT := hsm.P HT
  have HP := HP.kept hsm
  have HG : gW cI cA g0 g1 g2 N rw O2 Hb := HG
  have hI : iS D cI cA ad S N pa pe f0 f1 f2 f3 f4 g0 g1 g2 O r rw O2 Hb := ⟨hR, HT, HP, HG⟩
  have hb0 : s.heap.size ≤ Hb.size := hS.1
  generalize hHe : Hb = H at HT HP HG hS
  have hq : q_same Hb H := by rw [hHe]; exact q_same.rf
  have hx9 := hx
  refine lv_astore_n (lv' := [(2, .ref O2), (0, .ref S), (1, .ref (ad 0))]) hx hb dX1_isSame_4 rfl hl (by decide) rfl (fun ls hl => ?_)
  refine lv_aload_n hx hb dX1_isSame_5 rfl (lv_at hl 0 rfl) ?_
  refine z_gln hx hb hK 1 rfl HG dX1_isSame_6 ?_
  refine lv_istore_n (lv' := [(3, .int (nI (m_n g0 N))), (2, .ref O2), (0, .ref S), (1, .ref (ad 0))]) hx hb dX1_isSame_7 rfl hl (by decide) rfl (fun ls hl => ?_)
  refine lv_aload_n hx hb dX1_isSame_8 rfl (lv_at hl 3 rfl) ?_
  refine q_callV (As := []) (rest := []) ⟨hx, hb, hml, hown, hts⟩ (d_remarks l D cI ad N pa pe f0 f1 f2 f3 f4 g0 g1 g2 hR) (cwV 0 hts gX1_isSame_X0_remarks rfl rfl rfl kv_X0_remarks ⟨Nat.le_of_ble_eq_true rfl, Nat.le_of_ble_eq_true rfl⟩) (va_recv hK HT (ci := 0) (q0 := 0) rfl rfl) HT (hK.sub [0] rfl) rfl hl.1 rfl (Nat.le_of_ble_eq_true rfl) dX1_isSame_9 (by show 0 + 25 ≤ 70; omega) (by show 0 + 144 ≤ 700; omega) hS (fun H locs hsm hS => ?_)
  have hq := hq.tr hsm
  obtain ⟨-, HT, HP, HG⟩ := hI.kept hq
  refine lv_aload_n hx hb dX1_isSame_12 rfl (lv_at hl 2 rfl) ?_
  refine z_get hx hb hts hin hown hK HP.cell 2 (by decide) (hts (.fieldLink RX1 15 "SplicedTalkLaw$Sim" "rows" "[[I") (by decide +kernel)) (v := .ref O) rfl dX1_isSame_13 ?_
  refine z_gln hx hb hK 1 rfl HP.2 dX1_isSame_16 ?_
  refine lv_icmp_ne (tgt := 75) hx hb dX1_isSame_17 (by decide) (fun c_17 => absurd rfl c_17) (fun c_17 => ?_)
  refine lv_aload_n hx hb dX1_isSame_20 rfl (lv_at hl 3 rfl) ?_
  refine q_callV (As := []) (rest := []) ⟨hx, hb, hml, hown, hts⟩ (d_words l D cI ad N pa pe f0 f1 f2 f3 f4 g0 g1 g2 hR) (cwV 0 hts gX1_isSame_X0_words rfl rfl rfl kv_X0_words ⟨Nat.le_of_ble_eq_true rfl, Nat.le_of_ble_eq_true rfl⟩) (va_recv hK HT (ci := 0) (q0 := 0) rfl rfl) HT (hK.sub [0] rfl) rfl hl.1 rfl (Nat.le_of_ble_eq_true rfl) dX1_isSame_21 (by show 0 + 25 ≤ 70; omega) (by show 0 + 144 ≤ 700; omega) hS (fun H locs hsm hS => ?_)
  have hq := hq.tr hsm
  obtain ⟨-, HT, HP, HG⟩ := hI.kept hq
  refine lv_iload_n hx hb dX1_isSame_24 rfl (lv_at hl 0 rfl) ?_
  refine lv_icmp_ne (tgt := 75) hx hb dX1_isSame_25 (by decide) (fun c_25 => absurd rfl c_25) (fun c_25 => ?_)
  refine lv_aload_n hx hb dX1_isSame_28 rfl (lv_at hl 3 rfl) ?_
  refine q_callV (As := []) (rest := []) ⟨hx, hb, hml, hown, hts⟩ (d_coughs l D cI ad N pa pe f0 f1 f2 f3 f4 g0 g1 g2 hR) (cwV 0 hts gX1_isSame_X0_coughs rfl rfl rfl kv_X0_coughs ⟨Nat.le_of_ble_eq_true rfl, Nat.le_of_ble_eq_true rfl⟩) (va_recv hK HT (ci := 0) (q0 := 0) rfl rfl) HT (hK.sub [0] rfl) rfl hl.1 rfl (Nat.le_of_ble_eq_true rfl) dX1_isSame_29 (by show 0 + 25 ≤ 70; omega) (by show 0 + 144 ≤ 700; omega) hS (fun H locs hsm hS => ?_)
  have hq := hq.tr hsm
  obtain ⟨-, HT, HP, HG⟩ := hI.kept hq
  refine lv_aload_n hx hb dX1_isSame_32 rfl (lv_at hl 2 rfl) ?_
  refine z_get hx hb hts hin hown hK HP.cell 2 (by decide) (hts (.fieldLink RX1 15 "SplicedTalkLaw$Sim" "rows" "[[I") (by decide +kernel)) (v := .ref O) rfl dX1_isSame_33 ?_
  refine z_gln hx hb hK 1 rfl HP.2 dX1_isSame_36 ?_
  refine lv_iload_n hx hb dX1_isSame_37 rfl (lv_at hl 0 rfl) ?_
  refine lv_isub hx hb dX1_isSame_38 ?_
  rw [pk_sub hm9]
  refine lv_icmp_ne (tgt := 75) hx hb dX1_isSame_39 (by decide) (fun c_39 => absurd rfl c_39) (fun c_39 => ?_)
  refine lv_aload_n hx hb dX1_isSame_42 rfl (lv_at hl 3 rfl) ?_
  refine q_callV (As := []) (rest := []) ⟨hx, hb, hml, hown, hts⟩ (d_patience l D cI ad N pa pe f0 f1 f2 f3 f4 g0 g1 g2 hR) (cwV 0 hts gX1_isSame_X0_patience rfl rfl rfl kv_X0_patience ⟨Nat.le_of_ble_eq_true rfl, Nat.le_of_ble_eq_true rfl⟩) (va_recv hK HT (ci := 0) (q0 := 0) rfl rfl) HT (hK.sub [0] rfl) rfl hl.1 rfl (Nat.le_of_ble_eq_true rfl) dX1_isSame_43 (by show 0 + 25 ≤ 70; omega) (by show 0 + 144 ≤ 700; omega) hS (fun H locs hsm hS => ?_)
  have hq := hq.tr hsm
  obtain ⟨-, HT, HP, HG⟩ := hI.kept hq
  refine lv_aload_n hx hb dX1_isSame_46 rfl (lv_at hl 2 rfl) ?_
  refine z_get hx hb hts hin hown hK HP.cell 0 (by decide) (hts (.fieldLink RX1 7 "SplicedTalkLaw$Sim" "patience" "I") (by decide +kernel)) (v := .int (nI pa)) rfl dX1_isSame_47 ?_
  refine lv_icmp_ne (tgt := 75) hx hb dX1_isSame_50 (by decide) (fun c_50 => absurd rfl c_50) (fun c_50 => ?_)
  refine lv_aload_n hx hb dX1_isSame_53 rfl (lv_at hl 3 rfl) ?_
  refine q_callV (As := []) (rest := []) ⟨hx, hb, hml, hown, hts⟩ (d_spent l D cI ad N pa pe f0 f1 f2 f3 f4 g0 g1 g2 hR) (cwV 0 hts gX1_isSame_X0_spent rfl rfl rfl kv_X0_spent ⟨Nat.le_of_ble_eq_true rfl, Nat.le_of_ble_eq_true rfl⟩) (va_recv hK HT (ci := 0) (q0 := 0) rfl rfl) HT (hK.sub [0] rfl) rfl hl.1 rfl (Nat.le_of_ble_eq_true rfl) dX1_isSame_54 (by show 0 + 25 ≤ 70; omega) (by show 0 + 144 ≤ 700; omega) hS (fun H locs hsm hS => ?_)
  have hq := hq.tr hsm
  obtain ⟨-, HT, HP, HG⟩ := hI.kept hq
  refine lv_aload_n hx hb dX1_isSame_57 rfl (lv_at hl 2 rfl) ?_
  refine z_get hx hb hts hin hown hK HP.cell 1 (by decide) (hts (.fieldLink RX1 45 "SplicedTalkLaw$Sim" "spent" "I") (by decide +kernel)) (v := .int pe) rfl dX1_isSame_58 ?_
  refine lv_icmp_ne (tgt := 75) hx hb dX1_isSame_61 (by decide) (fun c_61 => absurd rfl c_61) (fun c_61 => ?_)
  refine lv_aload_n hx hb dX1_isSame_64 rfl (lv_at hl 3 rfl) ?_
  refine q_callV (As := []) (rest := []) ⟨hx, hb, hml, hown, hts⟩ (d_brokenGaps l D cI ad N pa pe f0 f1 f2 f3 f4 g0 g1 g2 hR) (cwV 0 hts gX1_isSame_X0_brokenGaps rfl rfl rfl kv_X0_brokenGaps ⟨Nat.le_of_ble_eq_true rfl, Nat.le_of_ble_eq_true rfl⟩) (va_recv hK HT (ci := 0) (q0 := 0) rfl rfl) HT (hK.sub [0] rfl) rfl hl.1 rfl (Nat.le_of_ble_eq_true rfl) dX1_isSame_65 (by show 0 + 25 ≤ 70; omega) (by show 0 + 144 ≤ 700; omega) hS (fun H locs hsm hS => ?_)
  have hq := hq.tr hsm
  obtain ⟨-, HT, HP, HG⟩ := hI.kept hq
  refine lv_aload_n hx hb dX1_isSame_68 rfl (lv_at hl 1 rfl) ?_
  refine p_callS (As := [.ref O2]) (rest := [.int (nI (m_ab g0 g1 g2 N))]) ⟨hx, hb, hml, hown, hts⟩ (c_X1_broken l D cI cA g0 g1 g2 N rw O2 hw) (va_cwS 1 hts gX1_isSame_X1_broken rfl rfl rfl ks_X1_broken ⟨Nat.le_of_ble_eq_true rfl, Nat.le_of_ble_eq_true rfl⟩) pH.mv (p_at (Z := gW cI cA g0 g1 g2 N rw O2) HG) hK rfl hl.1 rfl (Nat.le_of_ble_eq_true rfl) dX1_isSame_69 (by show 0 + 25 ≤ 70; omega) (by show 0 + 144 ≤ 700; omega) hS (fun H locs hsm hS => ?_)
  have hq := hq.tr hsm
  obtain ⟨-, HT, HP, HG⟩ := hI.kept hq
  refine lv_icmp_eq (tgt := 77) hx hb dX1_isSame_72 (by decide) (fun c_72 => ?_) (fun c_72 => absurd rfl c_72)
  exact is_77 hC hI hb0 _ locs ls hq hS (lv_sub hl [0, 1, 2, 3] rfl)
