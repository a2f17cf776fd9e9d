/-! own rows: the law's loop -/
theorem and63 (x : Int32) : ∃ k : Nat, k < 64 ∧ x &&& 63 = nI k := by
  refine ⟨x.toBitVec.toNat % 64, Nat.mod_lt _ (by decide), ?_⟩
  apply Int32.toBitVec_inj.1
  show x.toBitVec &&& 63#32 = BitVec.ofNat 32 (x.toBitVec.toNat % 64)
  apply BitVec.eq_of_toNat_eq
  have h1 : (63#32).toNat = 2 ^ 6 - 1 := by decide
  rw [BitVec.toNat_and, h1, Nat.and_two_pow_sub_one_eq_mod, BitVec.toNat_ofNat]
  omega
theorem nI_m3T {a : Nat} (ha : a < 2 ^ 30) : (nI a - 3).toInt = (a : Int) - 3 := pk_sub_toInt (b := 3) ha (by decide)
set_option maxHeartbeats 4000000 in
set_option maxRecDepth 100000 in
theorem law_turn {p : Program} {l : Launch} {e : Env} {s : State} {m : MethodId} {args : Array Value} {below : List Frame} {meth : Method} {c : Code} {b L : Nat} {xs : Nat → Int32} {D : va_G} {cI cJ cZ : ClassId} {sa ad ad2 : Nat → Nat} {o cells slots i : Nat} {Q : State → Prop}
    (C : law_C p l s m c args b L xs D cI cJ cZ sa) (kk : law_K p l e s m args below meth c b D cI cJ cZ ad ad2 o cells slots Q i) {N : Nat} {w t pa pe : Int32} {f0 f1 f2 f3 f4 : Nat → Int32} {fo : Nat → Int64} {th : Int32} {g0 g1 g2 : Nat → Int32} {H : Heap} {locs : List Loc} {ls : Array Slot}
    (h : Ra N f0 f1 f2 g0 g1 g2) (r : Rw N f3 f4 g0 g1 g2 w t) (hP : va_P D vwCl (lW cI cJ cZ ad ad2 o (nI N) w t pa pe f0 f1 f2 f3 f4 fo th g0 g1 g2) H) (hD : va_D (lA s) (lW cI cJ cZ ad ad2 o (nI N) w t pa pe f0 f1 f2 f3 f4 fo th g0 g1 g2)) (hS : va_S (lA s) s.heap H locs) (hl : lv_has ls 9 (law_L b ad ad2 o i))
    (hi : i + 2 < L) (hc : cells + 24 ≤ 650192) (hs : slots + 125 ≤ 7145529) {k : Nat} (hk : k < 64) : W p l e room_1 s m args below meth c H locs cells slots Q (F0 m 39 ls [.int (nI k)]) := by
  have hx := C.1
  have hb := C.2.1
  rcases (show k = 0 ∨ k = 1 ∨ k = 2 ∨ k = 3 ∨ k = 4 ∨ k = 5 ∨ k = 6 ∨ k = 7 ∨ k = 8 ∨ k = 9 ∨ k = 10 ∨ k = 11 ∨ k = 12 ∨ k = 13 ∨ k = 14 ∨ k = 15 ∨ k = 16 ∨ k = 17 ∨ k = 18 ∨ k = 19 ∨ k = 20 ∨ k = 21 ∨ k = 22 ∨ k = 23 ∨ k = 24 ∨ k = 25 ∨ k = 26 ∨ k = 27 ∨ k = 28 ∨ k = 29 ∨ k = 30 ∨ k = 31 ∨ k = 32 ∨ k = 33 ∨ k = 34 ∨ k = 35 ∨ k = 36 ∨ 37 ≤ k by omega) with rfl | rfl | rfl | rfl | rfl | rfl | rfl | rfl | rfl | rfl | rfl | rfl | rfl | rfl | rfl | rfl | rfl | rfl | rfl | rfl | rfl | rfl | rfl | rfl | rfl | rfl | rfl | rfl | rfl | rfl | rfl | rfl | rfl | rfl | rfl | rfl | rfl | h9
  · exact lv_tableIn (off := 161) (tgt := 200) hx hb dL_law_39 (by decide) (by decide) (by rfl) (by decide) (law_say C kk h r hP hD hS hl hi hc hs)
  · exact lv_tableIn (off := 229) (tgt := 268) hx hb dL_law_39 (by decide) (by decide) (by rfl) (by decide) (law_cough C kk h r hP hD hS hl hi hc hs)
  · exact lv_tableIn (off := 285) (tgt := 324) hx hb dL_law_39 (by decide) (by decide) (by rfl) (by decide) (law_removeCough C kk h r hP hD hS hl hi hc hs)
  · exact lv_tableIn (off := 341) (tgt := 380) hx hb dL_law_39 (by decide) (by decide) (by rfl) (by decide) (law_tie C kk h r hP hD hS hl hi hc hs)
  · exact lv_tableIn (off := 397) (tgt := 436) hx hb dL_law_39 (by decide) (by decide) (by rfl) (by decide) (law_splice C kk h r hP hD hS hl hi hc hs)
  · exact lv_tableIn (off := 453) (tgt := 492) hx hb dL_law_39 (by decide) (by decide) (by rfl) (by decide) (law_rest C kk h r hP hD hS hl hi hc hs)
  · exact lv_tableIn (off := 509) (tgt := 548) hx hb dL_law_39 (by decide) (by decide) (by rfl) (by decide) (law_remarks C kk h r hP hD hS hl hi hc hs)
  · exact lv_tableIn (off := 522) (tgt := 561) hx hb dL_law_39 (by decide) (by decide) (by rfl) (by decide) (law_words C kk h r hP hD hS hl hi hc hs)
  · exact lv_tableIn (off := 535) (tgt := 574) hx hb dL_law_39 (by decide) (by decide) (by rfl) (by decide) (law_coughs C kk h r hP hD hS hl hi hc hs)
  · exact lv_tableIn (off := 548) (tgt := 587) hx hb dL_law_39 (by decide) (by decide) (by rfl) (by decide) (law_patience C kk h r hP hD hS hl hi hc hs)
  · exact lv_tableIn (off := 561) (tgt := 600) hx hb dL_law_39 (by decide) (by decide) (by rfl) (by decide) (law_spent C kk h r hP hD hS hl hi hc hs)
  · exact lv_tableIn (off := 574) (tgt := 613) hx hb dL_law_39 (by decide) (by decide) (by rfl) (by decide) (law_isCough C kk h r hP hD hS hl hi hc hs)
  · exact lv_tableIn (off := 637) (tgt := 676) hx hb dL_law_39 (by decide) (by decide) (by rfl) (by decide) (law_speakerAt C kk h r hP hD hS hl hi hc hs)
  · exact lv_tableIn (off := 693) (tgt := 732) hx hb dL_law_39 (by decide) (by decide) (by rfl) (by decide) (law_placeOf C kk h r hP hD hS hl hi hc hs)
  · exact lv_tableIn (off := 749) (tgt := 788) hx hb dL_law_39 (by decide) (by decide) (by rfl) (by decide) (law_topicOf C kk h r hP hD hS hl hi hc hs)
  · exact lv_tableIn (off := 805) (tgt := 844) hx hb dL_law_39 (by decide) (by decide) (by rfl) (by decide) (law_wordsOf C kk h r hP hD hS hl hi hc hs)
  · exact lv_tableIn (off := 861) (tgt := 900) hx hb dL_law_39 (by decide) (by decide) (by rfl) (by decide) (law_coughsIn C kk h r hP hD hS hl hi hc hs)
  · exact lv_tableIn (off := 917) (tgt := 956) hx hb dL_law_39 (by decide) (by decide) (by rfl) (by decide) (law_strainOf C kk h r hP hD hS hl hi hc hs)
  · exact lv_tableIn (off := 973) (tgt := 1012) hx hb dL_law_39 (by decide) (by decide) (by rfl) (by decide) (law_isTied C kk h r hP hD hS hl hi hc hs)
  · exact lv_tableIn (off := 1036) (tgt := 1075) hx hb dL_law_39 (by decide) (by decide) (by rfl) (by decide) (law_isSmooth C kk h r hP hD hS hl hi hc hs)
  · exact lv_tableIn (off := 1099) (tgt := 1138) hx hb dL_law_39 (by decide) (by decide) (by rfl) (by decide) (law_isPolite C kk h r hP hD hS hl hi hc hs)
  · exact lv_tableIn (off := 1162) (tgt := 1201) hx hb dL_law_39 (by decide) (by decide) (by rfl) (by decide) (law_isBroken C kk h r hP hD hS hl hi hc hs)
  · exact lv_tableIn (off := 1225) (tgt := 1264) hx hb dL_law_39 (by decide) (by decide) (by rfl) (by decide) (law_brokenGaps C kk h r hP hD hS hl hi hc hs)
  · exact lv_tableIn (off := 1238) (tgt := 1277) hx hb dL_law_39 (by decide) (by decide) (by rfl) (by decide) (law_politeGaps C kk h r hP hD hS hl hi hc hs)
  · exact lv_tableIn (off := 1251) (tgt := 1290) hx hb dL_law_39 (by decide) (by decide) (by rfl) (by decide) (law_threads C kk h r hP hD hS hl hi hc hs)
  · exact lv_tableIn (off := 1264) (tgt := 1303) hx hb dL_law_39 (by decide) (by decide) (by rfl) (by decide) (law_threadOf C kk h r hP hD hS hl hi hc hs)
  · exact lv_tableIn (off := 1320) (tgt := 1359) hx hb dL_law_39 (by decide) (by decide) (by rfl) (by decide) (law_lengthOf C kk h r hP hD hS hl hi hc hs)
  · exact lv_tableIn (off := 1376) (tgt := 1415) hx hb dL_law_39 (by decide) (by decide) (by rfl) (by decide) (law_longestThread C kk h r hP hD hS hl hi hc hs)
  · exact lv_tableIn (off := 1389) (tgt := 1428) hx hb dL_law_39 (by decide) (by decide) (by rfl) (by decide) (law_threadsOf C kk h r hP hD hS hl hi hc hs)
  · exact lv_tableIn (off := 1445) (tgt := 1484) hx hb dL_law_39 (by decide) (by decide) (by rfl) (by decide) (law_topicsIn C kk h r hP hD hS hl hi hc hs)
  · exact lv_tableIn (off := 1501) (tgt := 1540) hx hb dL_law_39 (by decide) (by decide) (by rfl) (by decide) (law_costOfMending C kk h r hP hD hS hl hi hc hs)
  · exact lv_tableIn (off := 1557) (tgt := 1596) hx hb dL_law_39 (by decide) (by decide) (by rfl) (by decide) (law_costOfAll C kk h r hP hD hS hl hi hc hs)
  · exact lv_tableIn (off := 1570) (tgt := 1609) hx hb dL_law_39 (by decide) (by decide) (by rfl) (by decide) (law_brokenAfterSplice C kk h r hP hD hS hl hi hc hs)
  · exact lv_tableIn (off := 1626) (tgt := 1665) hx hb dL_law_39 (by decide) (by decide) (by rfl) (by decide) (law_bestSplice C kk h r hP hD hS hl hi hc hs)
  · exact lv_tableIn (off := 1639) (tgt := 1678) hx hb dL_law_39 (by decide) (by decide) (by rfl) (by decide) (law_wouldBreak C kk h r hP hD hS hl hi hc hs)
  · exact lv_tableIn (off := 1714) (tgt := 1753) hx hb dL_law_39 (by decide) (by decide) (by rfl) (by decide) (law_meanStrain C kk h r hP hD hS hl hi hc hs)
  · exact lv_tableIn (off := 1755) (tgt := 1794) hx hb dL_law_39 (by decide) (by decide) (by rfl) (by decide) (law_digest C kk h r hP hD hS hl hi hc hs)
  · refine lv_tableOut (tgt := 1808) hx hb dL_law_39 (Or.inr (by rw [nI_toInt (by omega)]; omega)) (by decide) ?_
    refine W.widen (k := cells + 24) (n := slots + 125) (by omega) (by omega) ?_
    exact kk _ _ _ _ _ _ _ _ _ _ _ _ _ _ _ H locs ls h r hP hD hS hl
set_option maxHeartbeats 4000000 in
set_option maxRecDepth 100000 in
theorem law_loop {p : Program} {l : Launch} {e : Env} {s : State} {m : MethodId} {args : Array Value} {below : List Frame} {meth : Method} {c : Code} {b L : Nat} {xs : Nat → Int32} {D : va_G} {cI cJ cZ : ClassId} {sa ad ad2 : Nat → Nat} {o : Nat} {Q : State → Prop}
    (C : law_C p l s m c args b L xs D cI cJ cZ sa) (kend : ∀ (H : Heap) (locs : List Loc) (ls : Array Slot), va_S (lA s) s.heap H locs → W p l e room_1 s m args below meth c H locs 650192 7145529 Q (F0 m 1814 ls [])) :
    ∀ (fu i : Nat), L - i < fu → i ≤ L → ∀ (N : Nat) (w t pa pe : Int32) (f0 f1 f2 f3 f4 : Nat → Int32) (fo : Nat → Int64) (th : Int32) (g0 g1 g2 : Nat → Int32) (H : Heap) (locs : List Loc) (ls : Array Slot), Ra N f0 f1 f2 g0 g1 g2 → Rw N f3 f4 g0 g1 g2 w t →
      va_P D vwCl (lW cI cJ cZ ad ad2 o (nI N) w t pa pe f0 f1 f2 f3 f4 fo th g0 g1 g2) H → va_D (lA s) (lW cI cJ cZ ad ad2 o (nI N) w t pa pe f0 f1 f2 f3 f4 fo th g0 g1 g2) → va_S (lA s) s.heap H locs → lv_has ls 9 (law_L b ad ad2 o i) →
      W p l e room_1 s m args below meth c H locs (20 + 24 * i) (300 + 125 * i) Q (F0 m 23 ls []) := by
  intro fu
  induction fu with
  | zero => intro i hi; exact absurd hi (Nat.not_lt_zero _)
  | succ fu ih =>
    intro i hi hiL N w t pa pe f0 f1 f2 f3 f4 fo th g0 g1 g2 H locs ls h r hP hD hS hl
    obtain ⟨hx, hb, hml, hown, hts, hX, hbl, hK, hZ, hN9, hst, hL⟩ := id C
    have hl' : lv_has ls 9 [(4, .int (nI i)), (3, .ref o), (2, .ref (ad2 0)), (1, .ref (ad 0)), (0, .ref b)] := hl
    refine lv_iload hx hb dL_law_23 (lv_at hl' 0 rfl) ?_
    refine lv_aload_n hx hb dL_law_25 rfl (lv_at hl' 4 rfl) ?_
    refine va_slen hx hb hX hbl (fun q => Nat.not_le.mpr hbl q) hS dL_law_26 ?_
    refine lv_iconst (v := 3) hx hb dL_law_27 (by decide) ?_
    refine lv_isub hx hb dL_law_28 ?_
    refine lv_icmp_gt (tgt := 1814) hx hb dL_law_29 (by decide) (fun _ => ?_) (fun h9 => ?_)
    · refine W.widen (k := 650192) (n := 7145529) (by omega) (by omega) ?_
      exact kend H locs ls hS
    · have hi2 : i + 2 < L := by
        have h8 : ¬ (nI L - 3 < nI i) := h9
        rw [lt_T, nI_m3T (by omega), nI_toInt (by omega)] at h8
        omega
      refine lv_aload_n hx hb dL_law_32 rfl (lv_at hl' 4 rfl) ?_
      refine lv_iload hx hb dL_law_33 (lv_at hl' 0 rfl) ?_
      refine va_sld hx hb hX hbl (fun q => Nat.not_le.mpr hbl q) hS (vp_in_nI (n := i) (by omega) (by omega)) dL_law_35 ?_
      refine lv_bipush (v := 63) hx hb dL_law_36 (by decide) ?_
      refine lv_iand hx hb dL_law_38 ?_
      obtain ⟨k, hk, ek⟩ := and63 (xs (nI i).toNatClampNeg)
      rw [ek]
      refine law_turn C ?_ h r hP hD hS hl hi2 (by omega) (by omega) hk
      intro N w t pa pe f0 f1 f2 f3 f4 fo th g0 g1 g2 H locs ls h r hP hD hS hl
      have hl' : lv_has ls 9 [(4, .int (nI i)), (3, .ref o), (2, .ref (ad2 0)), (1, .ref (ad 0)), (0, .ref b)] := hl
      refine lv_iinc (v := (nI i + 3)) (lv' := [(4, .int (nI i + 3)), (3, .ref o), (2, .ref (ad2 0)), (1, .ref (ad 0)), (0, .ref b)]) hx hb dL_law_1808 hl' (k := 0) rfl (by rfl) (by decide) rfl (fun ls hl => ?_)
      refine lv_goto (tgt := 23) hx hb dL_law_1811 (by decide) ?_
      have e3 : nI i + 3 = nI (i + 3) := nI_add i 3
      rw [e3] at hl
      refine W.widen (k := 20 + 24 * (i + 3)) (n := 300 + 125 * (i + 3)) (by omega) (by omega) ?_
      exact ih (i + 3) (by omega) (by omega) N w t pa pe f0 f1 f2 f3 f4 fo th g0 g1 g2 H locs ls h r hP hD hS hl
