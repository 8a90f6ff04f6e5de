set_option maxRecDepth 100000 in
set_option maxHeartbeats 4000000 in
theorem ca_unlikeParts {p : Program} {l : Launch} {e : Env} {s : State} {m : MethodId} {args : Array Value} {below : List Frame} {meth : Method} {c : Code} {H : Heap} {locs : List Loc} {cells slots : Nat} {Q : State → Prop} {ls : Array Slot} {dd : va_G} {cy : Nat → ClassId} {ad bd : Nat → Nat} {b L : Nat} {xs : Nat → Int32} {i : Int32} (S : CallFix p m c cL_law 9 s args wsL_law RL) (hX : va_X b L xs s s.heap) (hbl : b < s.heap.size) (hT : TH (LA s) s s.heap) (htr : l.stackTraces = false) (J : LI dd cy ad bd s H locs) (hin : ∀ k : Nat, k < 9 → vp_in (i + nI k) L) (hl : lv_has ls 9 (LV b ad bd i)) (hR : cells + 1 ≤ room_1.cells ∧ slots + 6 ≤ room_1.slots) (kk : ∀ (H1 : Heap) (locs1 : List Loc) (ls1 : Array Slot), LI dd cy ad bd s H1 locs1 → lv_has ls1 9 (LV b ad bd i) → W p l e room_1 s m args below meth c H1 locs1 (cells + 1) (slots + 6) Q (F0 m 3206 ls1 [])) : W p l e room_1 s m args below meth c H locs cells slots Q (F0 m 2559 ls []) := by
  have hx := S.1
  have hb := S.2.1
  have hts := S.2.2.2.2
  obtain ⟨ts, tc, rk, pl, ru, sl, bg, kn, rm, ol, od, th, ce, sz, wy, op, N, hI, X⟩ := J
  obtain ⟨x1, e1⟩ : ∃ x, xs (i + nI 1).toNatClampNeg = x := ⟨_, rfl⟩
  obtain ⟨k, rk', pl', g, bv, t, f1, f2, htk, hk, N', hI'⟩ := q_unlikeParts (fu := 2000) (rk := rk) (pl := pl) (ol := ol) (th := th) hI (Nat.le_refl 2000) x1
  obtain rfl : k = t := htk.symm
  refine lv_aload_n hx hb dL_law_2559 rfl (lv_at hl 1 rfl) ?_
  refine ll_ld hx hb hX hbl X.2.2.2.2 (lv_at hl 0 rfl) (lv_at hl 5 rfl) 1 (by decide) (hin 1 (by decide)) e1 dL_law_2560 dL_law_2561 dL_law_2563 dL_law_2564 dL_law_2565 ?_
  refine lv_aload_n hx hb dL_law_2566 rfl (lv_at hl 3 rfl) ?_
  refine xf_S (As := [.ref (ad 14), .int x1, .ref (ad 24)]) (rest := []) S (mL_unlikeParts htr f1) (vx_cwSW 3 hts gL_law_L_unlikeParts rfl rfl rfl (by decide +kernel) ⟨Nat.le_of_ble_eq_true rfl, Nat.le_of_ble_eq_true rfl⟩) X hT rfl hl.1 rfl (Nat.le_of_ble_eq_true rfl) dL_law_2567 hR (fun H locs X => ?_)
  refine lv_istore (lv' := (6, .int k) :: LV b ad bd i) hx hb dL_law_2570 hl (by decide) rfl (fun ls hl => ?_)
  refine lv_aload_n hx hb dL_law_2572 rfl (lv_at hl 3 rfl) ?_
  refine ll_ld hx hb hX hbl X.2.2.2.2 (lv_at hl 1 rfl) (lv_at hl 6 rfl) 1 (by decide) (hin 1 (by decide)) e1 dL_law_2573 dL_law_2574 dL_law_2576 dL_law_2577 dL_law_2578 ?_
  refine xf_V (As := [.int x1]) (rest := []) S (mX6_unlikeParts f2) (cwV 1 hts gL_law_X6_unlikeParts rfl rfl rfl hqX6_unlikeParts ⟨Nat.le_of_ble_eq_true rfl, Nat.le_of_ble_eq_true rfl⟩) X.swap (va_recv X.swap.1 X.swap.2.1 (ci := 4) (q0 := 0) rfl (ap_l wlR_0)) rfl hl.1 rfl (Nat.le_of_ble_eq_true rfl) dL_law_2579 hR (fun H locs X => ?_)
  have X := X.swap
  refine lv_istore (lv' := (7, .int bv) :: (6, .int k) :: LV b ad bd i) hx hb dL_law_2582 hl (by decide) rfl (fun ls hl => ?_)
  refine ll_thr S gL_law_X6_thrown X (lv_at hl 4 rfl) (lv_at hl 1 rfl) hl.1 hR dL_law_2584 dL_law_2585 dL_law_2588 dL_law_2590 (fun H locs X => ?_)
  refine ll_endI hx hb X hk (lv_at hl 5 rfl) (lv_at hl 1 rfl) (lv_at hl 0 rfl) dL_law_2595 dL_law_2597 dL_law_2600 dL_law_2601 dL_law_2602 dL_law_2603 dL_law_2605 dL_law_2606 dL_law_2607 dL_law_2612 (by decide) ?_
  exact kk _ _ _ ⟨_, _, _, _, _, _, _, _, _, _, _, _, _, _, _, _, N', hI', X⟩ (lv_sub hl [2, 3, 4, 5, 6, 7] rfl)
set_option maxRecDepth 100000 in
set_option maxHeartbeats 4000000 in
theorem ca_twice {p : Program} {l : Launch} {e : Env} {s : State} {m : MethodId} {args : Array Value} {below : List Frame} {meth : Method} {c : Code} {H : Heap} {locs : List Loc} {cells slots : Nat} {Q : State → Prop} {ls : Array Slot} {dd : va_G} {cy : Nat → ClassId} {ad bd : Nat → Nat} {b L : Nat} {xs : Nat → Int32} {i : Int32} (S : CallFix p m c cL_law 9 s args wsL_law RL) (hX : va_X b L xs s s.heap) (hbl : b < s.heap.size) (hT : TH (LA s) s s.heap) (htr : l.stackTraces = false) (J : LI dd cy ad bd s H locs) (hin : ∀ k : Nat, k < 9 → vp_in (i + nI k) L) (hl : lv_has ls 9 (LV b ad bd i)) (hR : cells + 1 ≤ room_1.cells ∧ slots + 6 ≤ room_1.slots) (kk : ∀ (H1 : Heap) (locs1 : List Loc) (ls1 : Array Slot), LI dd cy ad bd s H1 locs1 → lv_has ls1 9 (LV b ad bd i) → W p l e room_1 s m args below meth c H1 locs1 (cells + 1) (slots + 6) Q (F0 m 3206 ls1 [])) : W p l e room_1 s m args below meth c H locs cells slots Q (F0 m 2615 ls []) := by
  have hx := S.1
  have hb := S.2.1
  have hts := S.2.2.2.2
  obtain ⟨ts, tc, rk, pl, ru, sl, bg, kn, rm, ol, od, th, ce, sz, wy, op, N, hI, X⟩ := J
  obtain ⟨x1, e1⟩ : ∃ x, xs (i + nI 1).toNatClampNeg = x := ⟨_, rfl⟩
  obtain ⟨x2, e2⟩ : ∃ x, xs (i + nI 2).toNatClampNeg = x := ⟨_, rfl⟩
  obtain ⟨k, ts', tc', rk', pl', g, bv, t, ce', sz', f1, f2, htk, hk, N', hI'⟩ := q_twice (fu := 2000) (rk := rk) (pl := pl) (ol := ol) (th := th) hI (Nat.le_refl 2000) x1 x2
  obtain rfl : k = t := htk.symm
  refine lv_aload_n hx hb dL_law_2615 rfl (lv_at hl 1 rfl) ?_
  refine ll_ld hx hb hX hbl X.2.2.2.2 (lv_at hl 0 rfl) (lv_at hl 5 rfl) 1 (by decide) (hin 1 (by decide)) e1 dL_law_2616 dL_law_2617 dL_law_2619 dL_law_2620 dL_law_2621 ?_
  refine ll_ld hx hb hX hbl X.2.2.2.2 (lv_at hl 0 rfl) (lv_at hl 5 rfl) 2 (by decide) (hin 2 (by decide)) e2 dL_law_2622 dL_law_2623 dL_law_2625 dL_law_2626 dL_law_2627 ?_
  refine lv_aload_n hx hb dL_law_2628 rfl (lv_at hl 3 rfl) ?_
  refine xf_S (As := [.ref (ad 14), .int x1, .int x2, .ref (ad 24)]) (rest := []) S (mL_twice htr f1) (vx_cwSW 4 hts gL_law_L_twice rfl rfl rfl (by decide +kernel) ⟨Nat.le_of_ble_eq_true rfl, Nat.le_of_ble_eq_true rfl⟩) X hT rfl hl.1 rfl (Nat.le_of_ble_eq_true rfl) dL_law_2629 hR (fun H locs X => ?_)
  refine lv_istore (lv' := (6, .int k) :: LV b ad bd i) hx hb dL_law_2632 hl (by decide) rfl (fun ls hl => ?_)
  refine lv_aload_n hx hb dL_law_2634 rfl (lv_at hl 3 rfl) ?_
  refine ll_ld hx hb hX hbl X.2.2.2.2 (lv_at hl 1 rfl) (lv_at hl 6 rfl) 1 (by decide) (hin 1 (by decide)) e1 dL_law_2635 dL_law_2636 dL_law_2638 dL_law_2639 dL_law_2640 ?_
  refine ll_ld hx hb hX hbl X.2.2.2.2 (lv_at hl 1 rfl) (lv_at hl 6 rfl) 2 (by decide) (hin 2 (by decide)) e2 dL_law_2641 dL_law_2642 dL_law_2644 dL_law_2645 dL_law_2646 ?_
  refine xf_V (As := [.int x1, .int x2]) (rest := []) S (mX6_twice f2) (cwV 2 hts gL_law_X6_twice rfl rfl rfl hqX6_twice ⟨Nat.le_of_ble_eq_true rfl, Nat.le_of_ble_eq_true rfl⟩) X.swap (va_recv X.swap.1 X.swap.2.1 (ci := 4) (q0 := 0) rfl (ap_l wlR_0)) rfl hl.1 rfl (Nat.le_of_ble_eq_true rfl) dL_law_2647 hR (fun H locs X => ?_)
  have X := X.swap
  refine lv_istore (lv' := (7, .int bv) :: (6, .int k) :: LV b ad bd i) hx hb dL_law_2650 hl (by decide) rfl (fun ls hl => ?_)
  refine ll_thr S gL_law_X6_thrown X (lv_at hl 4 rfl) (lv_at hl 1 rfl) hl.1 hR dL_law_2652 dL_law_2653 dL_law_2656 dL_law_2658 (fun H locs X => ?_)
  refine ll_endI hx hb X hk (lv_at hl 5 rfl) (lv_at hl 1 rfl) (lv_at hl 0 rfl) dL_law_2663 dL_law_2665 dL_law_2668 dL_law_2669 dL_law_2670 dL_law_2671 dL_law_2673 dL_law_2674 dL_law_2675 dL_law_2680 (by decide) ?_
  exact kk _ _ _ ⟨_, _, _, _, _, _, _, _, _, _, _, _, _, _, _, _, N', hI', X⟩ (lv_sub hl [2, 3, 4, 5, 6, 7] rfl)
set_option maxRecDepth 100000 in
set_option maxHeartbeats 4000000 in
theorem ca_mirrors {p : Program} {l : Launch} {e : Env} {s : State} {m : MethodId} {args : Array Value} {below : List Frame} {meth : Method} {c : Code} {H : Heap} {locs : List Loc} {cells slots : Nat} {Q : State → Prop} {ls : Array Slot} {dd : va_G} {cy : Nat → ClassId} {ad bd : Nat → Nat} {b L : Nat} {xs : Nat → Int32} {i : Int32} (S : CallFix p m c cL_law 9 s args wsL_law RL) (hX : va_X b L xs s s.heap) (hbl : b < s.heap.size) (hT : TH (LA s) s s.heap) (htr : l.stackTraces = false) (J : LI dd cy ad bd s H locs) (hin : ∀ k : Nat, k < 9 → vp_in (i + nI k) L) (hl : lv_has ls 9 (LV b ad bd i)) (hR : cells + 1 ≤ room_1.cells ∧ slots + 6 ≤ room_1.slots) (kk : ∀ (H1 : Heap) (locs1 : List Loc) (ls1 : Array Slot), LI dd cy ad bd s H1 locs1 → lv_has ls1 9 (LV b ad bd i) → W p l e room_1 s m args below meth c H1 locs1 (cells + 1) (slots + 6) Q (F0 m 3206 ls1 [])) : W p l e room_1 s m args below meth c H locs cells slots Q (F0 m 2683 ls []) := by
  have hx := S.1
  have hb := S.2.1
  have hts := S.2.2.2.2
  obtain ⟨ts, tc, rk, pl, ru, sl, bg, kn, rm, ol, od, th, ce, sz, wy, op, N, hI, X⟩ := J
  obtain ⟨x1, e1⟩ : ∃ x, xs (i + nI 1).toNatClampNeg = x := ⟨_, rfl⟩
  obtain ⟨k, rk', pl', g, bv, t, f1, f2, htk, hk, N', hI'⟩ := q_mirrors (fu := 2000) (rk := rk) (pl := pl) (ol := ol) (th := th) hI (Nat.le_refl 2000) x1
  obtain rfl : k = t := htk.symm
  refine lv_aload_n hx hb dL_law_2683 rfl (lv_at hl 1 rfl) ?_
  refine ll_ld hx hb hX hbl X.2.2.2.2 (lv_at hl 0 rfl) (lv_at hl 5 rfl) 1 (by decide) (hin 1 (by decide)) e1 dL_law_2684 dL_law_2685 dL_law_2687 dL_law_2688 dL_law_2689 ?_
  refine lv_aload_n hx hb dL_law_2690 rfl (lv_at hl 3 rfl) ?_
  refine xf_S (As := [.ref (ad 14), .int x1, .ref (ad 24)]) (rest := []) S (mL_mirrors htr f1) (vx_cwSW 3 hts gL_law_L_mirrors rfl rfl rfl (by decide +kernel) ⟨Nat.le_of_ble_eq_true rfl, Nat.le_of_ble_eq_true rfl⟩) X hT rfl hl.1 rfl (Nat.le_of_ble_eq_true rfl) dL_law_2691 hR (fun H locs X => ?_)
  refine lv_istore (lv' := (6, .int k) :: LV b ad bd i) hx hb dL_law_2694 hl (by decide) rfl (fun ls hl => ?_)
  refine lv_aload_n hx hb dL_law_2696 rfl (lv_at hl 3 rfl) ?_
  refine ll_ld hx hb hX hbl X.2.2.2.2 (lv_at hl 1 rfl) (lv_at hl 6 rfl) 1 (by decide) (hin 1 (by decide)) e1 dL_law_2697 dL_law_2698 dL_law_2700 dL_law_2701 dL_law_2702 ?_
  refine xf_V (As := [.int x1]) (rest := []) S (mX6_mirrors f2) (cwV 1 hts gL_law_X6_mirrors rfl rfl rfl hqX6_mirrors ⟨Nat.le_of_ble_eq_true rfl, Nat.le_of_ble_eq_true rfl⟩) X.swap (va_recv X.swap.1 X.swap.2.1 (ci := 4) (q0 := 0) rfl (ap_l wlR_0)) rfl hl.1 rfl (Nat.le_of_ble_eq_true rfl) dL_law_2703 hR (fun H locs X => ?_)
  have X := X.swap
  refine lv_istore (lv' := (7, .int bv) :: (6, .int k) :: LV b ad bd i) hx hb dL_law_2706 hl (by decide) rfl (fun ls hl => ?_)
  refine ll_thr S gL_law_X6_thrown X (lv_at hl 4 rfl) (lv_at hl 1 rfl) hl.1 hR dL_law_2708 dL_law_2709 dL_law_2712 dL_law_2714 (fun H locs X => ?_)
  refine ll_endI hx hb X hk (lv_at hl 5 rfl) (lv_at hl 1 rfl) (lv_at hl 0 rfl) dL_law_2719 dL_law_2721 dL_law_2724 dL_law_2725 dL_law_2726 dL_law_2727 dL_law_2729 dL_law_2730 dL_law_2731 dL_law_2736 (by decide) ?_
  exact kk _ _ _ ⟨_, _, _, _, _, _, _, _, _, _, _, _, _, _, _, _, N', hI', X⟩ (lv_sub hl [2, 3, 4, 5, 6, 7] rfl)
set_option maxRecDepth 100000 in
set_option maxHeartbeats 4000000 in
theorem ca_commute {p : Program} {l : Launch} {e : Env} {s : State} {m : MethodId} {args : Array Value} {below : List Frame} {meth : Method} {c : Code} {H : Heap} {locs : List Loc} {cells slots : Nat} {Q : State → Prop} {ls : Array Slot} {dd : va_G} {cy : Nat → ClassId} {ad bd : Nat → Nat} {b L : Nat} {xs : Nat → Int32} {i : Int32} (S : CallFix p m c cL_law 9 s args wsL_law RL) (hX : va_X b L xs s s.heap) (hbl : b < s.heap.size) (hT : TH (LA s) s s.heap) (htr : l.stackTraces = false) (J : LI dd cy ad bd s H locs) (hin : ∀ k : Nat, k < 9 → vp_in (i + nI k) L) (hl : lv_has ls 9 (LV b ad bd i)) (hR : cells + 1 ≤ room_1.cells ∧ slots + 6 ≤ room_1.slots) (kk : ∀ (H1 : Heap) (locs1 : List Loc) (ls1 : Array Slot), LI dd cy ad bd s H1 locs1 → lv_has ls1 9 (LV b ad bd i) → W p l e room_1 s m args below meth c H1 locs1 (cells + 1) (slots + 6) Q (F0 m 3206 ls1 [])) : W p l e room_1 s m args below meth c H locs cells slots Q (F0 m 2739 ls []) := by
  have hx := S.1
  have hb := S.2.1
  have hts := S.2.2.2.2
  obtain ⟨ts, tc, rk, pl, ru, sl, bg, kn, rm, ol, od, th, ce, sz, wy, op, N, hI, X⟩ := J
  obtain ⟨x1, e1⟩ : ∃ x, xs (i + nI 1).toNatClampNeg = x := ⟨_, rfl⟩
  obtain ⟨x2, e2⟩ : ∃ x, xs (i + nI 2).toNatClampNeg = x := ⟨_, rfl⟩
  obtain ⟨k, g, bv, t, ce', f1, f2, htk, hk, N', hI'⟩ := q_commute (fu := 2000) (ol := ol) (th := th) hI (Nat.le_refl 2000) x1 x2
  obtain rfl : k = t := htk.symm
  refine lv_aload_n hx hb dL_law_2739 rfl (lv_at hl 1 rfl) ?_
  refine ll_ld hx hb hX hbl X.2.2.2.2 (lv_at hl 0 rfl) (lv_at hl 5 rfl) 1 (by decide) (hin 1 (by decide)) e1 dL_law_2740 dL_law_2741 dL_law_2743 dL_law_2744 dL_law_2745 ?_
  refine ll_ld hx hb hX hbl X.2.2.2.2 (lv_at hl 0 rfl) (lv_at hl 5 rfl) 2 (by decide) (hin 2 (by decide)) e2 dL_law_2746 dL_law_2747 dL_law_2749 dL_law_2750 dL_law_2751 ?_
  refine lv_aload_n hx hb dL_law_2752 rfl (lv_at hl 3 rfl) ?_
  refine xf_S (As := [.ref (ad 14), .int x1, .int x2, .ref (ad 24)]) (rest := []) S (mL_commute htr f1) (vx_cwSW 4 hts gL_law_L_commute rfl rfl rfl (by decide +kernel) ⟨Nat.le_of_ble_eq_true rfl, Nat.le_of_ble_eq_true rfl⟩) X hT rfl hl.1 rfl (Nat.le_of_ble_eq_true rfl) dL_law_2753 hR (fun H locs X => ?_)
  refine lv_istore (lv' := (6, .int k) :: LV b ad bd i) hx hb dL_law_2756 hl (by decide) rfl (fun ls hl => ?_)
  refine lv_aload_n hx hb dL_law_2758 rfl (lv_at hl 3 rfl) ?_
  refine ll_ld hx hb hX hbl X.2.2.2.2 (lv_at hl 1 rfl) (lv_at hl 6 rfl) 1 (by decide) (hin 1 (by decide)) e1 dL_law_2759 dL_law_2760 dL_law_2762 dL_law_2763 dL_law_2764 ?_
  refine ll_ld hx hb hX hbl X.2.2.2.2 (lv_at hl 1 rfl) (lv_at hl 6 rfl) 2 (by decide) (hin 2 (by decide)) e2 dL_law_2765 dL_law_2766 dL_law_2768 dL_law_2769 dL_law_2770 ?_
  refine xf_V (As := [.int x1, .int x2]) (rest := []) S (mX6_commute f2) (cwV 2 hts gL_law_X6_commute rfl rfl rfl hqX6_commute ⟨Nat.le_of_ble_eq_true rfl, Nat.le_of_ble_eq_true rfl⟩) X.swap (va_recv X.swap.1 X.swap.2.1 (ci := 4) (q0 := 0) rfl (ap_l wlR_0)) rfl hl.1 rfl (Nat.le_of_ble_eq_true rfl) dL_law_2771 hR (fun H locs X => ?_)
  have X := X.swap
  refine lv_istore (lv' := (7, .int bv) :: (6, .int k) :: LV b ad bd i) hx hb dL_law_2774 hl (by decide) rfl (fun ls hl => ?_)
  refine ll_thr S gL_law_X6_thrown X (lv_at hl 4 rfl) (lv_at hl 1 rfl) hl.1 hR dL_law_2776 dL_law_2777 dL_law_2780 dL_law_2782 (fun H locs X => ?_)
  refine ll_endZ hx hb X hk (lv_at hl 5 rfl) (lv_at hl 1 rfl) (lv_at hl 0 rfl) dL_law_2787 dL_law_2789 dL_law_2792 dL_law_2793 dL_law_2794 dL_law_2795 dL_law_2797 dL_law_2800 dL_law_2801 dL_law_2804 dL_law_2805 dL_law_2806 dL_law_2811 (by decide) ?_
  exact kk _ _ _ ⟨_, _, _, _, _, _, _, _, _, _, _, _, _, _, _, _, N', hI', X⟩ (lv_sub hl [2, 3, 4, 5, 6, 7] rfl)
set_option maxRecDepth 100000 in
set_option maxHeartbeats 4000000 in
theorem ca_commonRoot {p : Program} {l : Launch} {e : Env} {s : State} {m : MethodId} {args : Array Value} {below : List Frame} {meth : Method} {c : Code} {H : Heap} {locs : List Loc} {cells slots : Nat} {Q : State → Prop} {ls : Array Slot} {dd : va_G} {cy : Nat → ClassId} {ad bd : Nat → Nat} {b L : Nat} {xs : Nat → Int32} {i : Int32} (S : CallFix p m c cL_law 9 s args wsL_law RL) (hX : va_X b L xs s s.heap) (hbl : b < s.heap.size) (hT : TH (LA s) s s.heap) (htr : l.stackTraces = false) (J : LI dd cy ad bd s H locs) (hin : ∀ k : Nat, k < 9 → vp_in (i + nI k) L) (hl : lv_has ls 9 (LV b ad bd i)) (hR : cells + 1 ≤ room_1.cells ∧ slots + 6 ≤ room_1.slots) (kk : ∀ (H1 : Heap) (locs1 : List Loc) (ls1 : Array Slot), LI dd cy ad bd s H1 locs1 → lv_has ls1 9 (LV b ad bd i) → W p l e room_1 s m args below meth c H1 locs1 (cells + 1) (slots + 6) Q (F0 m 3206 ls1 [])) : W p l e room_1 s m args below meth c H locs cells slots Q (F0 m 2814 ls []) := by
  have hx := S.1
  have hb := S.2.1
  have hts := S.2.2.2.2
  obtain ⟨ts, tc, rk, pl, ru, sl, bg, kn, rm, ol, od, th, ce, sz, wy, op, N, hI, X⟩ := J
  obtain ⟨x1, e1⟩ : ∃ x, xs (i + nI 1).toNatClampNeg = x := ⟨_, rfl⟩
  obtain ⟨x2, e2⟩ : ∃ x, xs (i + nI 2).toNatClampNeg = x := ⟨_, rfl⟩
  obtain ⟨x3, e3⟩ : ∃ x, xs (i + nI 3).toNatClampNeg = x := ⟨_, rfl⟩
  obtain ⟨k, ts', tc', g, bv, t, ce', sz', f1, f2, htk, hk, N', hI'⟩ := q_commonRoot (fu := 2000) (ol := ol) (th := th) hI (Nat.le_refl 2000) x1 x2 x3
  obtain rfl : k = t := htk.symm
  refine lv_aload_n hx hb dL_law_2814 rfl (lv_at hl 1 rfl) ?_
  refine ll_ld hx hb hX hbl X.2.2.2.2 (lv_at hl 0 rfl) (lv_at hl 5 rfl) 1 (by decide) (hin 1 (by decide)) e1 dL_law_2815 dL_law_2816 dL_law_2818 dL_law_2819 dL_law_2820 ?_
  refine ll_ld hx hb hX hbl X.2.2.2.2 (lv_at hl 0 rfl) (lv_at hl 5 rfl) 2 (by decide) (hin 2 (by decide)) e2 dL_law_2821 dL_law_2822 dL_law_2824 dL_law_2825 dL_law_2826 ?_
  refine ll_ld hx hb hX hbl X.2.2.2.2 (lv_at hl 0 rfl) (lv_at hl 5 rfl) 3 (by decide) (hin 3 (by decide)) e3 dL_law_2827 dL_law_2828 dL_law_2830 dL_law_2831 dL_law_2832 ?_
  refine lv_aload_n hx hb dL_law_2833 rfl (lv_at hl 3 rfl) ?_
  refine xf_S (As := [.ref (ad 14), .int x1, .int x2, .int x3, .ref (ad 24)]) (rest := []) S (mL_commonRoot htr f1) (vx_cwSW 5 hts gL_law_L_commonRoot rfl rfl rfl (by decide +kernel) ⟨Nat.le_of_ble_eq_true rfl, Nat.le_of_ble_eq_true rfl⟩) X hT rfl hl.1 rfl (Nat.le_of_ble_eq_true rfl) dL_law_2834 hR (fun H locs X => ?_)
  refine lv_istore (lv' := (6, .int k) :: LV b ad bd i) hx hb dL_law_2837 hl (by decide) rfl (fun ls hl => ?_)
  refine lv_aload_n hx hb dL_law_2839 rfl (lv_at hl 3 rfl) ?_
  refine ll_ld hx hb hX hbl X.2.2.2.2 (lv_at hl 1 rfl) (lv_at hl 6 rfl) 1 (by decide) (hin 1 (by decide)) e1 dL_law_2840 dL_law_2841 dL_law_2843 dL_law_2844 dL_law_2845 ?_
  refine ll_ld hx hb hX hbl X.2.2.2.2 (lv_at hl 1 rfl) (lv_at hl 6 rfl) 2 (by decide) (hin 2 (by decide)) e2 dL_law_2846 dL_law_2847 dL_law_2849 dL_law_2850 dL_law_2851 ?_
  refine ll_ld hx hb hX hbl X.2.2.2.2 (lv_at hl 1 rfl) (lv_at hl 6 rfl) 3 (by decide) (hin 3 (by decide)) e3 dL_law_2852 dL_law_2853 dL_law_2855 dL_law_2856 dL_law_2857 ?_
  refine xf_V (As := [.int x1, .int x2, .int x3]) (rest := []) S (mX6_commonRoot f2) (cwV 3 hts gL_law_X6_commonRoot rfl rfl rfl hqX6_commonRoot ⟨Nat.le_of_ble_eq_true rfl, Nat.le_of_ble_eq_true rfl⟩) X.swap (va_recv X.swap.1 X.swap.2.1 (ci := 4) (q0 := 0) rfl (ap_l wlR_0)) rfl hl.1 rfl (Nat.le_of_ble_eq_true rfl) dL_law_2858 hR (fun H locs X => ?_)
  have X := X.swap
  refine lv_istore (lv' := (7, .int bv) :: (6, .int k) :: LV b ad bd i) hx hb dL_law_2861 hl (by decide) rfl (fun ls hl => ?_)
  refine ll_thr S gL_law_X6_thrown X (lv_at hl 4 rfl) (lv_at hl 1 rfl) hl.1 hR dL_law_2863 dL_law_2864 dL_law_2867 dL_law_2869 (fun H locs X => ?_)
  refine ll_endI hx hb X hk (lv_at hl 5 rfl) (lv_at hl 1 rfl) (lv_at hl 0 rfl) dL_law_2874 dL_law_2876 dL_law_2879 dL_law_2880 dL_law_2881 dL_law_2882 dL_law_2884 dL_law_2885 dL_law_2886 dL_law_2891 (by decide) ?_
  exact kk _ _ _ ⟨_, _, _, _, _, _, _, _, _, _, _, _, _, _, _, _, N', hI', X⟩ (lv_sub hl [2, 3, 4, 5, 6, 7] rfl)
set_option maxRecDepth 100000 in
set_option maxHeartbeats 4000000 in
theorem ca_ways {p : Program} {l : Launch} {e : Env} {s : State} {m : MethodId} {args : Array Value} {below : List Frame} {meth : Method} {c : Code} {H : Heap} {locs : List Loc} {cells slots : Nat} {Q : State → Prop} {ls : Array Slot} {dd : va_G} {cy : Nat → ClassId} {ad bd : Nat → Nat} {b L : Nat} {xs : Nat → Int32} {i : Int32} (S : CallFix p m c cL_law 9 s args wsL_law RL) (hX : va_X b L xs s s.heap) (hbl : b < s.heap.size) (hT : TH (LA s) s s.heap) (htr : l.stackTraces = false) (J : LI dd cy ad bd s H locs) (hin : ∀ k : Nat, k < 9 → vp_in (i + nI k) L) (hl : lv_has ls 9 (LV b ad bd i)) (hR : cells + 1 ≤ room_1.cells ∧ slots + 6 ≤ room_1.slots) (kk : ∀ (H1 : Heap) (locs1 : List Loc) (ls1 : Array Slot), LI dd cy ad bd s H1 locs1 → lv_has ls1 9 (LV b ad bd i) → W p l e room_1 s m args below meth c H1 locs1 (cells + 1) (slots + 6) Q (F0 m 3206 ls1 [])) : W p l e room_1 s m args below meth c H locs cells slots Q (F0 m 2894 ls []) := by
  have hx := S.1
  have hb := S.2.1
  have hts := S.2.2.2.2
  obtain ⟨ts, tc, rk, pl, ru, sl, bg, kn, rm, ol, od, th, ce, sz, wy, op, N, hI, X⟩ := J
  obtain ⟨x1, e1⟩ : ∃ x, xs (i + nI 1).toNatClampNeg = x := ⟨_, rfl⟩
  obtain ⟨x2, e2⟩ : ∃ x, xs (i + nI 2).toNatClampNeg = x := ⟨_, rfl⟩
  obtain ⟨k, ru', g, bv, t, wy', f1, f2, htk, hk, N', hI'⟩ := q_ways (fu := 2000) (ru := ru) (ol := ol) (th := th) (wy := wy) hI (Nat.le_refl 2000) x1 x2
  obtain rfl : k = t := htk.symm
  refine lv_aload_n hx hb dL_law_2894 rfl (lv_at hl 1 rfl) ?_
  refine ll_ld hx hb hX hbl X.2.2.2.2 (lv_at hl 0 rfl) (lv_at hl 5 rfl) 1 (by decide) (hin 1 (by decide)) e1 dL_law_2895 dL_law_2896 dL_law_2898 dL_law_2899 dL_law_2900 ?_
  refine ll_ld hx hb hX hbl X.2.2.2.2 (lv_at hl 0 rfl) (lv_at hl 5 rfl) 2 (by decide) (hin 2 (by decide)) e2 dL_law_2901 dL_law_2902 dL_law_2904 dL_law_2905 dL_law_2906 ?_
  refine lv_aload_n hx hb dL_law_2907 rfl (lv_at hl 3 rfl) ?_
  refine xf_S (As := [.ref (ad 14), .int x1, .int x2, .ref (ad 24)]) (rest := []) S (mL_ways htr f1) (vx_cwSW 4 hts gL_law_L_ways rfl rfl rfl (by decide +kernel) ⟨Nat.le_of_ble_eq_true rfl, Nat.le_of_ble_eq_true rfl⟩) X hT rfl hl.1 rfl (Nat.le_of_ble_eq_true rfl) dL_law_2908 hR (fun H locs X => ?_)
  refine lv_istore (lv' := (6, .int k) :: LV b ad bd i) hx hb dL_law_2911 hl (by decide) rfl (fun ls hl => ?_)
  refine lv_aload_n hx hb dL_law_2913 rfl (lv_at hl 3 rfl) ?_
  refine ll_ld hx hb hX hbl X.2.2.2.2 (lv_at hl 1 rfl) (lv_at hl 6 rfl) 1 (by decide) (hin 1 (by decide)) e1 dL_law_2914 dL_law_2915 dL_law_2917 dL_law_2918 dL_law_2919 ?_
  refine ll_ld hx hb hX hbl X.2.2.2.2 (lv_at hl 1 rfl) (lv_at hl 6 rfl) 2 (by decide) (hin 2 (by decide)) e2 dL_law_2920 dL_law_2921 dL_law_2923 dL_law_2924 dL_law_2925 ?_
  refine xf_V (As := [.int x1, .int x2]) (rest := []) S (mX6_ways f2) (cwV 2 hts gL_law_X6_ways rfl rfl rfl hqX6_ways ⟨Nat.le_of_ble_eq_true rfl, Nat.le_of_ble_eq_true rfl⟩) X.swap (va_recv X.swap.1 X.swap.2.1 (ci := 4) (q0 := 0) rfl (ap_l wlR_0)) rfl hl.1 rfl (Nat.le_of_ble_eq_true rfl) dL_law_2926 hR (fun H locs X => ?_)
  have X := X.swap
  refine lv_lstore (lv' := (7, .long bv) :: (6, .int k) :: LV b ad bd i) hx hb dL_law_2929 hl (by decide) rfl (fun ls hl => ?_)
  refine ll_thr S gL_law_X6_thrown X (lv_at hl 4 rfl) (lv_at hl 1 rfl) hl.1 hR dL_law_2931 dL_law_2932 dL_law_2935 dL_law_2937 (fun H locs X => ?_)
  refine ll_endJ hx hb X hk (lv_at hl 5 rfl) (lv_at hl 1 rfl) (lv_at hl 0 rfl) dL_law_2942 dL_law_2944 dL_law_2947 dL_law_2948 dL_law_2949 dL_law_2950 dL_law_2952 dL_law_2953 dL_law_2958 (by decide) ?_
  exact kk _ _ _ ⟨_, _, _, _, _, _, _, _, _, _, _, _, _, _, _, _, N', hI', X⟩ (lv_sub hl [2, 3, 4, 5, 6, 7] rfl)
set_option maxRecDepth 100000 in
set_option maxHeartbeats 4000000 in
theorem ca_isFree {p : Program} {l : Launch} {e : Env} {s : State} {m : MethodId} {args : Array Value} {below : List Frame} {meth : Method} {c : Code} {H : Heap} {locs : List Loc} {cells slots : Nat} {Q : State → Prop} {ls : Array Slot} {dd : va_G} {cy : Nat → ClassId} {ad bd : Nat → Nat} {b L : Nat} {xs : Nat → Int32} {i : Int32} (S : CallFix p m c cL_law 9 s args wsL_law RL) (hX : va_X b L xs s s.heap) (hbl : b < s.heap.size) (hT : TH (LA s) s s.heap) (htr : l.stackTraces = false) (J : LI dd cy ad bd s H locs) (hin : ∀ k : Nat, k < 9 → vp_in (i + nI k) L) (hl : lv_has ls 9 (LV b ad bd i)) (hR : cells + 1 ≤ room_1.cells ∧ slots + 6 ≤ room_1.slots) (kk : ∀ (H1 : Heap) (locs1 : List Loc) (ls1 : Array Slot), LI dd cy ad bd s H1 locs1 → lv_has ls1 9 (LV b ad bd i) → W p l e room_1 s m args below meth c H1 locs1 (cells + 1) (slots + 6) Q (F0 m 3206 ls1 [])) : W p l e room_1 s m args below meth c H locs cells slots Q (F0 m 2961 ls []) := by
  have hx := S.1
  have hb := S.2.1
  have hts := S.2.2.2.2
  obtain ⟨ts, tc, rk, pl, ru, sl, bg, kn, rm, ol, od, th, ce, sz, wy, op, N, hI, X⟩ := J
  obtain ⟨x1, e1⟩ : ∃ x, xs (i + nI 1).toNatClampNeg = x := ⟨_, rfl⟩
  obtain ⟨k, sl', bg', kn', rm', g, bv, t, op', f1, f2, htk, hk, N', hI'⟩ := q_isFree (fu := 2000) (sl := sl) (bg := bg) (kn := kn) (rm := rm) (ol := ol) (th := th) (op := op) hI (Nat.le_refl 2000) x1
  obtain rfl : k = t := htk.symm
  refine lv_aload_n hx hb dL_law_2961 rfl (lv_at hl 1 rfl) ?_
  refine ll_ld hx hb hX hbl X.2.2.2.2 (lv_at hl 0 rfl) (lv_at hl 5 rfl) 1 (by decide) (hin 1 (by decide)) e1 dL_law_2962 dL_law_2963 dL_law_2965 dL_law_2966 dL_law_2967 ?_
  refine lv_aload_n hx hb dL_law_2968 rfl (lv_at hl 3 rfl) ?_
  refine xf_S (As := [.ref (ad 14), .int x1, .ref (ad 24)]) (rest := []) S (mL_isFree htr f1) (vx_cwSW 3 hts gL_law_L_isFree rfl rfl rfl (by decide +kernel) ⟨Nat.le_of_ble_eq_true rfl, Nat.le_of_ble_eq_true rfl⟩) X hT rfl hl.1 rfl (Nat.le_of_ble_eq_true rfl) dL_law_2969 hR (fun H locs X => ?_)
  refine lv_istore (lv' := (6, .int k) :: LV b ad bd i) hx hb dL_law_2972 hl (by decide) rfl (fun ls hl => ?_)
  refine lv_aload_n hx hb dL_law_2974 rfl (lv_at hl 3 rfl) ?_
  refine ll_ld hx hb hX hbl X.2.2.2.2 (lv_at hl 1 rfl) (lv_at hl 6 rfl) 1 (by decide) (hin 1 (by decide)) e1 dL_law_2975 dL_law_2976 dL_law_2978 dL_law_2979 dL_law_2980 ?_
  refine xf_V (As := [.int x1]) (rest := []) S (mX6_isFree f2) (cwV 1 hts gL_law_X6_isFree rfl rfl rfl hqX6_isFree ⟨Nat.le_of_ble_eq_true rfl, Nat.le_of_ble_eq_true rfl⟩) X.swap (va_recv X.swap.1 X.swap.2.1 (ci := 4) (q0 := 0) rfl (ap_l wlR_0)) rfl hl.1 rfl (Nat.le_of_ble_eq_true rfl) dL_law_2981 hR (fun H locs X => ?_)
  have X := X.swap
  refine lv_istore (lv' := (7, .int bv) :: (6, .int k) :: LV b ad bd i) hx hb dL_law_2984 hl (by decide) rfl (fun ls hl => ?_)
  refine ll_thr S gL_law_X6_thrown X (lv_at hl 4 rfl) (lv_at hl 1 rfl) hl.1 hR dL_law_2986 dL_law_2987 dL_law_2990 dL_law_2992 (fun H locs X => ?_)
  refine ll_endZ hx hb X hk (lv_at hl 5 rfl) (lv_at hl 1 rfl) (lv_at hl 0 rfl) dL_law_2997 dL_law_2999 dL_law_3002 dL_law_3003 dL_law_3004 dL_law_3005 dL_law_3007 dL_law_3010 dL_law_3011 dL_law_3014 dL_law_3015 dL_law_3016 dL_law_3021 (by decide) ?_
  exact kk _ _ _ ⟨_, _, _, _, _, _, _, _, _, _, _, _, _, _, _, _, N', hI', X⟩ (lv_sub hl [2, 3, 4, 5, 6, 7] rfl)
set_option maxRecDepth 100000 in
set_option maxHeartbeats 4000000 in
theorem ca_rootShare {p : Program} {l : Launch} {e : Env} {s : State} {m : MethodId} {args : Array Value} {below : List Frame} {meth : Method} {c : Code} {H : Heap} {locs : List Loc} {cells slots : Nat} {Q : State → Prop} {ls : Array Slot} {dd : va_G} {cy : Nat → ClassId} {ad bd : Nat → Nat} {b L : Nat} {xs : Nat → Int32} {i : Int32} (S : CallFix p m c cL_law 9 s args wsL_law RL) (hX : va_X b L xs s s.heap) (hbl : b < s.heap.size) (hT : TH (LA s) s s.heap) (htr : l.stackTraces = false) (J : LI dd cy ad bd s H locs) (hin : ∀ k : Nat, k < 9 → vp_in (i + nI k) L) (hl : lv_has ls 9 (LV b ad bd i)) (hR : cells + 1 ≤ room_1.cells ∧ slots + 6 ≤ room_1.slots) (kk : ∀ (H1 : Heap) (locs1 : List Loc) (ls1 : Array Slot), LI dd cy ad bd s H1 locs1 → lv_has ls1 9 (LV b ad bd i) → W p l e room_1 s m args below meth c H1 locs1 (cells + 1) (slots + 6) Q (F0 m 3206 ls1 [])) : W p l e room_1 s m args below meth c H locs cells slots Q (F0 m 3024 ls []) := by
  have hx := S.1
  have hb := S.2.1
  have hts := S.2.2.2.2
  obtain ⟨ts, tc, rk, pl, ru, sl, bg, kn, rm, ol, od, th, ce, sz, wy, op, N, hI, X⟩ := J
  obtain ⟨x1, e1⟩ : ∃ x, xs (i + nI 1).toNatClampNeg = x := ⟨_, rfl⟩
  obtain ⟨k, g, bv, t, f1, f2, htk, hk, N', hI'⟩ := q_rootShare (fu := 2000) (od := od) (th := th) hI (Nat.le_refl 2000) x1
  obtain rfl : k = t := htk.symm
  refine lv_aload_n hx hb dL_law_3024 rfl (lv_at hl 1 rfl) ?_
  refine ll_ld hx hb hX hbl X.2.2.2.2 (lv_at hl 0 rfl) (lv_at hl 5 rfl) 1 (by decide) (hin 1 (by decide)) e1 dL_law_3025 dL_law_3026 dL_law_3028 dL_law_3029 dL_law_3030 ?_
  refine lv_aload hx hb dL_law_3031 (lv_at hl 4 rfl) ?_
  refine xf_S (As := [.ref (ad 14), .int x1, .ref (ad 25)]) (rest := []) S (mL_rootShare htr f1) (vx_cwSW 3 hts gL_law_L_rootShare rfl rfl rfl (by decide +kernel) ⟨Nat.le_of_ble_eq_true rfl, Nat.le_of_ble_eq_true rfl⟩) X hT rfl hl.1 rfl (Nat.le_of_ble_eq_true rfl) dL_law_3033 hR (fun H locs X => ?_)
  refine lv_istore (lv' := (6, .int k) :: LV b ad bd i) hx hb dL_law_3036 hl (by decide) rfl (fun ls hl => ?_)
  refine lv_aload_n hx hb dL_law_3038 rfl (lv_at hl 3 rfl) ?_
  refine ll_ld hx hb hX hbl X.2.2.2.2 (lv_at hl 1 rfl) (lv_at hl 6 rfl) 1 (by decide) (hin 1 (by decide)) e1 dL_law_3039 dL_law_3040 dL_law_3042 dL_law_3043 dL_law_3044 ?_
  refine xf_V (As := [.int x1]) (rest := []) S (mX6_rootShare f2) (cwV 1 hts gL_law_X6_rootShare rfl rfl rfl hqX6_rootShare ⟨Nat.le_of_ble_eq_true rfl, Nat.le_of_ble_eq_true rfl⟩) X.swap (va_recv X.swap.1 X.swap.2.1 (ci := 4) (q0 := 0) rfl (ap_l wlR_0)) rfl hl.1 rfl (Nat.le_of_ble_eq_true rfl) dL_law_3045 hR (fun H locs X => ?_)
  have X := X.swap
  refine lv_fstore (lv' := (7, .float bv) :: (6, .int k) :: LV b ad bd i) hx hb dL_law_3048 hl (by decide) rfl (fun ls hl => ?_)
  refine ll_thr S gL_law_X6_thrown X (lv_at hl 4 rfl) (lv_at hl 1 rfl) hl.1 hR dL_law_3050 dL_law_3051 dL_law_3054 dL_law_3056 (fun H locs X => ?_)
  refine ll_endF hx hb X hk (lv_at hl 6 rfl) (lv_at hl 1 rfl) (lv_at hl 0 rfl) dL_law_3061 dL_law_3063 dL_law_3066 dL_law_3068 dL_law_3069 dL_law_3070 dL_law_3072 dL_law_3073 dL_law_3074 dL_law_3099 (by decide) ?_
  exact kk _ _ _ ⟨_, _, _, _, _, _, _, _, _, _, _, _, _, _, _, _, N', hI', X⟩ (lv_sub hl [2, 3, 4, 5, 6, 7] rfl)
