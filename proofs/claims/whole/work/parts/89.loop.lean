/-! THE LAW'S LOOP: each nine ints are a call; class and model stay alike. -/
set_option maxRecDepth 100000 in
set_option maxHeartbeats 4000000 in
theorem law_step {p : Program} {l : Launch} {e : Env} {s : State} {m : MethodId} {args : Array Value} {below : List Frame} {meth : Method} {c : Code} {Q : State → Prop} {dd : va_G} {cy : Nat → ClassId} {ad bd : Nat → Nat} {b L : Nat} {xs : Nat → Int32} {H : Heap} {locs : List Loc} {cells slots : Nat} {ls : Array Slot} {i : Int32} (S : CallFix p m c cL_law 9 s args wsL_law RL) (hX : va_X b L xs s s.heap) (hbl : b < s.heap.size) (hT : TH (LA s) s s.heap) (htr : l.stackTraces = false) (J : LI dd cy ad bd s H locs) (hin : ∀ k : Nat, k < 9 → vp_in (i + nI k) L) (hl : lv_has ls 9 (LV b ad bd i)) (hR : cells + 1 ≤ room_1.cells ∧ slots + 6 ≤ room_1.slots) (kk : ∀ (H1 : Heap) (locs1 : List Loc) (ls1 : Array Slot), LI dd cy ad bd s H1 locs1 → lv_has ls1 9 (LV b ad bd i) → W p l e room_1 s m args below meth c H1 locs1 (cells + 1) (slots + 6) Q (F0 m 3206 ls1 [])) : ∀ k : Nat, k < 64 → W p l e room_1 s m args below meth c H locs cells slots Q (F0 m 45 ls [.int (nI k)])
  | 0, _ => lv_tableIn (off := 187) (tgt := 232) S.1 S.2.1 dL_law_45 (by decide) (by decide) (by decide) (by decide) (ca_type S hX hbl hT htr J hin hl hR kk)
  | 1, _ => lv_tableIn (off := 257) (tgt := 302) S.1 S.2.1 dL_law_45 (by decide) (by decide) (by decide) (by decide) (ca_typeMore S hX hbl hT htr J hin hl hR kk)
  | 2, _ => lv_tableIn (off := 415) (tgt := 460) S.1 S.2.1 dL_law_45 (by decide) (by decide) (by decide) (by decide) (ca_erase S hX hbl hT htr J hin hl hR kk)
  | 3, _ => lv_tableIn (off := 471) (tgt := 516) S.1 S.2.1 dL_law_45 (by decide) (by decide) (by decide) (by decide) (ca_length S hX hbl hT htr J hin hl hR kk)
  | 4, _ => lv_tableIn (off := 527) (tgt := 572) S.1 S.2.1 dL_law_45 (by decide) (by decide) (by decide) (by decide) (ca_signAt S hX hbl hT htr J hin hl hR kk)
  | 5, _ => lv_tableIn (off := 595) (tgt := 640) S.1 S.2.1 dL_law_45 (by decide) (by decide) (by decide) (by decide) (ca_join S hX hbl hT htr J hin hl hR kk)
  | 6, _ => lv_tableIn (off := 675) (tgt := 720) S.1 S.2.1 dL_law_45 (by decide) (by decide) (by decide) (by decide) (ca_repeat S hX hbl hT htr J hin hl hR kk)
  | 7, _ => lv_tableIn (off := 755) (tgt := 800) S.1 S.2.1 dL_law_45 (by decide) (by decide) (by decide) (by decide) (ca_part S hX hbl hT htr J hin hl hR kk)
  | 8, _ => lv_tableIn (off := 847) (tgt := 892) S.1 S.2.1 dL_law_45 (by decide) (by decide) (by decide) (by decide) (ca_turn S hX hbl hT htr J hin hl hR kk)
  | 9, _ => lv_tableIn (off := 927) (tgt := 972) S.1 S.2.1 dL_law_45 (by decide) (by decide) (by decide) (by decide) (ca_back S hX hbl hT htr J hin hl hR kk)
  | 10, _ => lv_tableIn (off := 995) (tgt := 1040) S.1 S.2.1 dL_law_45 (by decide) (by decide) (by decide) (by decide) (ca_put S hX hbl hT htr J hin hl hR kk)
  | 11, _ => lv_tableIn (off := 1087) (tgt := 1132) S.1 S.2.1 dL_law_45 (by decide) (by decide) (by decide) (by decide) (ca_first S hX hbl hT htr J hin hl hR kk)
  | 12, _ => lv_tableIn (off := 1167) (tgt := 1212) S.1 S.2.1 dL_law_45 (by decide) (by decide) (by decide) (by decide) (ca_last S hX hbl hT htr J hin hl hR kk)
  | 13, _ => lv_tableIn (off := 1247) (tgt := 1292) S.1 S.2.1 dL_law_45 (by decide) (by decide) (by decide) (by decide) (ca_many S hX hbl hT htr J hin hl hR kk)
  | 14, _ => lv_tableIn (off := 1343) (tgt := 1388) S.1 S.2.1 dL_law_45 (by decide) (by decide) (by decide) (by decide) (ca_isSame S hX hbl hT htr J hin hl hR kk)
  | 15, _ => lv_tableIn (off := 1418) (tgt := 1463) S.1 S.2.1 dL_law_45 (by decide) (by decide) (by decide) (by decide) (ca_compare S hX hbl hT htr J hin hl hR kk)
  | 16, _ => lv_tableIn (off := 1486) (tgt := 1531) S.1 S.2.1 dL_law_45 (by decide) (by decide) (by decide) (by decide) (ca_common S hX hbl hT htr J hin hl hR kk)
  | 17, _ => lv_tableIn (off := 1554) (tgt := 1599) S.1 S.2.1 dL_law_45 (by decide) (by decide) (by decide) (by decide) (ca_commonEnd S hX hbl hT htr J hin hl hR kk)
  | 18, _ => lv_tableIn (off := 1622) (tgt := 1667) S.1 S.2.1 dL_law_45 (by decide) (by decide) (by decide) (by decide) (ca_hash S hX hbl hT htr J hin hl hR kk)
  | 19, _ => lv_tableIn (off := 1678) (tgt := 1723) S.1 S.2.1 dL_law_45 (by decide) (by decide) (by decide) (by decide) (ca_hashJoined S hX hbl hT htr J hin hl hR kk)
  | 20, _ => lv_tableIn (off := 1746) (tgt := 1791) S.1 S.2.1 dL_law_45 (by decide) (by decide) (by decide) (by decide) (ca_hashRepeated S hX hbl hT htr J hin hl hR kk)
  | 21, _ => lv_tableIn (off := 1814) (tgt := 1859) S.1 S.2.1 dL_law_45 (by decide) (by decide) (by decide) (by decide) (ca_periods S hX hbl hT htr J hin hl hR kk)
  | 22, _ => lv_tableIn (off := 1870) (tgt := 1915) S.1 S.2.1 dL_law_45 (by decide) (by decide) (by decide) (by decide) (ca_periodAt S hX hbl hT htr J hin hl hR kk)
  | 23, _ => lv_tableIn (off := 1938) (tgt := 1983) S.1 S.2.1 dL_law_45 (by decide) (by decide) (by decide) (by decide) (ca_border S hX hbl hT htr J hin hl hR kk)
  | 24, _ => lv_tableIn (off := 2006) (tgt := 2051) S.1 S.2.1 dL_law_45 (by decide) (by decide) (by decide) (by decide) (ca_root S hX hbl hT htr J hin hl hR kk)
  | 25, _ => lv_tableIn (off := 2074) (tgt := 2119) S.1 S.2.1 dL_law_45 (by decide) (by decide) (by decide) (by decide) (ca_turnTo S hX hbl hT htr J hin hl hR kk)
  | 26, _ => lv_tableIn (off := 2142) (tgt := 2187) S.1 S.2.1 dL_law_45 (by decide) (by decide) (by decide) (by decide) (ca_turnings S hX hbl hT htr J hin hl hR kk)
  | 27, _ => lv_tableIn (off := 2198) (tgt := 2243) S.1 S.2.1 dL_law_45 (by decide) (by decide) (by decide) (by decide) (ca_leastTurn S hX hbl hT htr J hin hl hR kk)
  | 28, _ => lv_tableIn (off := 2254) (tgt := 2299) S.1 S.2.1 dL_law_45 (by decide) (by decide) (by decide) (by decide) (ca_factors S hX hbl hT htr J hin hl hR kk)
  | 29, _ => lv_tableIn (off := 2310) (tgt := 2355) S.1 S.2.1 dL_law_45 (by decide) (by decide) (by decide) (by decide) (ca_factorAt S hX hbl hT htr J hin hl hR kk)
  | 30, _ => lv_tableIn (off := 2378) (tgt := 2423) S.1 S.2.1 dL_law_45 (by decide) (by decide) (by decide) (by decide) (ca_endAt S hX hbl hT htr J hin hl hR kk)
  | 31, _ => lv_tableIn (off := 2446) (tgt := 2491) S.1 S.2.1 dL_law_45 (by decide) (by decide) (by decide) (by decide) (ca_rankOf S hX hbl hT htr J hin hl hR kk)
  | 32, _ => lv_tableIn (off := 2514) (tgt := 2559) S.1 S.2.1 dL_law_45 (by decide) (by decide) (by decide) (by decide) (ca_unlikeParts S hX hbl hT htr J hin hl hR kk)
  | 33, _ => lv_tableIn (off := 2570) (tgt := 2615) S.1 S.2.1 dL_law_45 (by decide) (by decide) (by decide) (by decide) (ca_twice S hX hbl hT htr J hin hl hR kk)
  | 34, _ => lv_tableIn (off := 2638) (tgt := 2683) S.1 S.2.1 dL_law_45 (by decide) (by decide) (by decide) (by decide) (ca_mirrors S hX hbl hT htr J hin hl hR kk)
  | 35, _ => lv_tableIn (off := 2694) (tgt := 2739) S.1 S.2.1 dL_law_45 (by decide) (by decide) (by decide) (by decide) (ca_commute S hX hbl hT htr J hin hl hR kk)
  | 36, _ => lv_tableIn (off := 2769) (tgt := 2814) S.1 S.2.1 dL_law_45 (by decide) (by decide) (by decide) (by decide) (ca_commonRoot S hX hbl hT htr J hin hl hR kk)
  | 37, _ => lv_tableIn (off := 2849) (tgt := 2894) S.1 S.2.1 dL_law_45 (by decide) (by decide) (by decide) (by decide) (ca_ways S hX hbl hT htr J hin hl hR kk)
  | 38, _ => lv_tableIn (off := 2916) (tgt := 2961) S.1 S.2.1 dL_law_45 (by decide) (by decide) (by decide) (by decide) (ca_isFree S hX hbl hT htr J hin hl hR kk)
  | 39, _ => lv_tableIn (off := 2979) (tgt := 3024) S.1 S.2.1 dL_law_45 (by decide) (by decide) (by decide) (by decide) (ca_rootShare S hX hbl hT htr J hin hl hR kk)
  | 40, _ => lv_tableIn (off := 3057) (tgt := 3102) S.1 S.2.1 dL_law_45 (by decide) (by decide) (by decide) (by decide) (ca_meanPeriod S hX hbl hT htr J hin hl hR kk)
  | 41, _ => lv_tableIn (off := 3134) (tgt := 3179) S.1 S.2.1 dL_law_45 (by decide) (by decide) (by decide) (by decide) (ca_checksum S J hl hR kk)
  | 42, _ => lv_tableIn (off := 3148) (tgt := 3193) S.1 S.2.1 dL_law_45 (by decide) (by decide) (by decide) (by decide) (ca_isTrue S J hl hR kk)
  | k + 43, hk => lv_tableOut (tgt := 3206) S.1 S.2.1 dL_law_45 (Or.inr (by rw [nI_toInt (show k + 43 < 2 ^ 31 by omega)]; omega)) (by decide) (W.widen (k := cells + 1) (n := slots + 6) (Nat.le_add_right _ _) (Nat.le_add_right _ _) (kk _ _ _ J hl))
theorem lp_gt {L t : Nat} (hL : L ≤ 4608) (ht : 9 * t ≤ 4608) (h : ¬ nI L - 9 < nI (9 * t)) : 9 * t + 9 ≤ L := by
  by_cases h9 : 9 ≤ L
  · rw [show (9 : Int32) = nI 9 from rfl, nI_sub h9] at h
    have h2 : ¬ L - 9 < 9 * t := fun z => h (nI_lt z (by omega))
    omega
  · exfalso
    apply h
    rw [Int32.lt_iff_toInt_lt, nI_toInt (show 9 * t < 2 ^ 31 by omega)]
    have h3 : (nI L - 9).toInt < 0 := by
      rcases (show L = 0 ∨ L = 1 ∨ L = 2 ∨ L = 3 ∨ L = 4 ∨ L = 5 ∨ L = 6 ∨ L = 7 ∨ L = 8 by omega) with rfl | rfl | rfl | rfl | rfl | rfl | rfl | rfl | rfl <;> decide
    omega
set_option maxRecDepth 100000 in
set_option maxHeartbeats 4000000 in
theorem law_loop {p : Program} {l : Launch} {e : Env} {s : State} {m : MethodId} {args : Array Value} {below : List Frame} {meth : Method} {c : Code} {Q : State → Prop} {dd : va_G} {cy : Nat → ClassId} {ad bd : Nat → Nat} {b L : Nat} {xs : Nat → Int32} (S : CallFix p m c cL_law 9 s args wsL_law RL) (hX : va_X b L xs s s.heap) (hbl : b < s.heap.size) (hT : TH (LA s) s s.heap) (htr : l.stackTraces = false) (hL : L ≤ 4608) (hend : ∀ (H : Heap) (locs : List Loc) (ls : Array Slot), va_S (LA s) s.heap H locs → W p l e room_1 s m args below meth c H locs 603072 7223401 Q (F0 m 3212 ls [])) : ∀ (n t : Nat) (i : Int32), L < 9 * (t + n) + 9 → 9 * t ≤ 4608 → i = nI (9 * t) → ∀ (H : Heap) (locs : List Loc) (ls : Array Slot), LI dd cy ad bd s H locs → lv_has ls 9 (LV b ad bd i) → W p l e room_1 s m args below meth c H locs (100 + t) (5000 + 6 * t) Q (F0 m 28 ls []) := by
  have hx := S.1
  have hb := S.2.1
  have hbA : ¬ LA s b := Nat.not_le.mpr hbl
  intro n
  induction n with
  | zero =>
    intro t i h1 h2 h3 H locs ls J hl
    obtain ⟨ts, tc, rk, pl, ru, sl, bg, kn, rm, ol, od, th, ce, sz, wy, op, N, hI, X⟩ := id J
    refine lv_iload hx hb dL_law_28 (lv_at hl 5 rfl) ?_
    refine lv_aload_n hx hb dL_law_30 rfl (lv_at hl 0 rfl) ?_
    refine va_slen hx hb hX hbl hbA X.2.2.2.2 dL_law_31 ?_
    refine lv_bipush (v := 9) hx hb dL_law_32 (by decide) ?_
    refine lv_isub hx hb dL_law_34 ?_
    refine lv_icmp_gt (tgt := 3212) hx hb dL_law_35 (by decide) (fun _ => ?_) (fun h => ?_)
    · refine W.widen (k := 603072) (n := 7223401) (Nat.le_trans (show 100 + t ≤ 700 by omega) (Nat.le_of_ble_eq_true rfl)) (Nat.le_trans (show 5000 + 6 * t ≤ 9000 by omega) (Nat.le_of_ble_eq_true rfl)) ?_
      exact hend _ _ _ X.2.2.2.2
    · rw [h3] at h
      exact absurd (lp_gt hL h2 h) (by omega)
  | succ n ih =>
    intro t i h1 h2 h3 H locs ls J hl
    obtain ⟨ts, tc, rk, pl, ru, sl, bg, kn, rm, ol, od, th, ce, sz, wy, op, N, hI, X⟩ := id J
    refine lv_iload hx hb dL_law_28 (lv_at hl 5 rfl) ?_
    refine lv_aload_n hx hb dL_law_30 rfl (lv_at hl 0 rfl) ?_
    refine va_slen hx hb hX hbl hbA X.2.2.2.2 dL_law_31 ?_
    refine lv_bipush (v := 9) hx hb dL_law_32 (by decide) ?_
    refine lv_isub hx hb dL_law_34 ?_
    refine lv_icmp_gt (tgt := 3212) hx hb dL_law_35 (by decide) (fun _ => ?_) (fun h => ?_)
    · refine W.widen (k := 603072) (n := 7223401) (Nat.le_trans (show 100 + t ≤ 700 by omega) (Nat.le_of_ble_eq_true rfl)) (Nat.le_trans (show 5000 + 6 * t ≤ 9000 by omega) (Nat.le_of_ble_eq_true rfl)) ?_
      exact hend _ _ _ X.2.2.2.2
    · have h4 : 9 * t + 9 ≤ L := lp_gt hL h2 (by rw [← h3]; exact h)
      have hin : ∀ k : Nat, k < 9 → vp_in (i + nI k) L := fun k hk => by
        rw [h3, nI_add]
        exact vp_in_nI (by omega) (by omega)
      refine lv_aload_n hx hb dL_law_38 rfl (lv_at hl 0 rfl) ?_
      refine lv_iload hx hb dL_law_39 (lv_at hl 5 rfl) ?_
      refine va_sld hx hb hX hbl hbA X.2.2.2.2 (by rw [h3]; exact vp_in_nI (by omega) (by omega)) dL_law_41 ?_
      refine lv_bipush (v := 63) hx hb dL_law_42 (by decide) ?_
      refine lv_iand hx hb dL_law_44 ?_
      obtain ⟨k, hk, ek⟩ := pk_andE (xs i.toNatClampNeg) (m := 63) 6 (by decide)
      rw [ek]
      refine law_step S hX hbl hT htr J hin hl ⟨Nat.le_trans (show 100 + t + 1 ≤ 700 by omega) (Nat.le_of_ble_eq_true rfl), Nat.le_trans (show 5000 + 6 * t + 6 ≤ 9000 by omega) (Nat.le_of_ble_eq_true rfl)⟩ (fun H1 locs1 ls1 J1 hl1 => ?_) k hk
      obtain ⟨i9, e9⟩ : ∃ y : Int32, y = i + 9 := ⟨_, rfl⟩
      refine lv_iinc (v := i9) (lv' := [(5, .int i9), (0, .ref b), (1, .ref (ad 14)), (2, .ref (bd 0)), (3, .ref (ad 24)), (4, .ref (ad 25))]) hx hb dL_law_3206 hl1 (k := 5) rfl (by rw [e9]; rfl) (by decide) rfl (fun ls2 hl2 => ?_)
      refine lv_goto (tgt := 28) hx hb dL_law_3209 (by decide) ?_
      refine W.widen (k := 100 + (t + 1)) (n := 5000 + 6 * (t + 1)) (by omega) (by omega) ?_
      exact ih (t + 1) i9 (by omega) (by omega) (by rw [e9, h3, show (9 : Int32) = nI 9 from rfl, nI_add, Nat.mul_add]) _ _ _ J1 (lv_sub hl2 [1, 2, 3, 4, 5, 0] rfl)
