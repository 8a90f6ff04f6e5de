set_option maxRecDepth 100000 in
set_option maxHeartbeats 4000000 in
theorem ca_common {p : Program} {l : Launch} {e : Env} {s : State} {m : MethodId} {args : Array Value} {below : List Frame} {meth : Method} {c : Code} {H : Heap} {locs : List Loc} {cells slots : Nat} {Q : State → Prop} {ls : Array Slot} {dd : va_G} {cy : Nat → ClassId} {ad bd : Nat → Nat} {b L : Nat} {xs : Nat → Int32} {i : Int32} (S : CallFix p m c cL_law 9 s args wsL_law RL) (hX : va_X b L xs s s.heap) (hbl : b < s.heap.size) (hT : TH (LA s) s s.heap) (htr : l.stackTraces = false) (J : LI dd cy ad bd s H locs) (hin : ∀ k : Nat, k < 9 → vp_in (i + nI k) L) (hl : lv_has ls 9 (LV b ad bd i)) (hR : cells + 1 ≤ room_1.cells ∧ slots + 6 ≤ room_1.slots) (kk : ∀ (H1 : Heap) (locs1 : List Loc) (ls1 : Array Slot), LI dd cy ad bd s H1 locs1 → lv_has ls1 9 (LV b ad bd i) → W p l e room_1 s m args below meth c H1 locs1 (cells + 1) (slots + 6) Q (F0 m 3206 ls1 [])) : W p l e room_1 s m args below meth c H locs cells slots Q (F0 m 1531 ls []) := by
  have hx := S.1
  have hb := S.2.1
  have hts := S.2.2.2.2
  obtain ⟨ts, tc, rk, pl, ru, sl, bg, kn, rm, ol, od, th, ce, sz, wy, op, N, hI, X⟩ := J
  obtain ⟨x1, e1⟩ : ∃ x, xs (i + nI 1).toNatClampNeg = x := ⟨_, rfl⟩
  obtain ⟨x2, e2⟩ : ∃ x, xs (i + nI 2).toNatClampNeg = x := ⟨_, rfl⟩
  obtain ⟨k, g, bv, t, f1, f2, htk, hk, N', hI'⟩ := q_common (fu := 2000) (ol := ol) (th := th) hI (Nat.le_refl 2000) x1 x2
  obtain rfl : k = t := htk.symm
  refine lv_aload_n hx hb dL_law_1531 rfl (lv_at hl 1 rfl) ?_
  refine ll_ld hx hb hX hbl X.2.2.2.2 (lv_at hl 0 rfl) (lv_at hl 5 rfl) 1 (by decide) (hin 1 (by decide)) e1 dL_law_1532 dL_law_1533 dL_law_1535 dL_law_1536 dL_law_1537 ?_
  refine ll_ld hx hb hX hbl X.2.2.2.2 (lv_at hl 0 rfl) (lv_at hl 5 rfl) 2 (by decide) (hin 2 (by decide)) e2 dL_law_1538 dL_law_1539 dL_law_1541 dL_law_1542 dL_law_1543 ?_
  refine lv_aload_n hx hb dL_law_1544 rfl (lv_at hl 3 rfl) ?_
  refine xf_S (As := [.ref (ad 14), .int x1, .int x2, .ref (ad 24)]) (rest := []) S (mL_common htr f1) (vx_cwSW 4 hts gL_law_L_common rfl rfl rfl (by decide +kernel) ⟨Nat.le_of_ble_eq_true rfl, Nat.le_of_ble_eq_true rfl⟩) X hT rfl hl.1 rfl (Nat.le_of_ble_eq_true rfl) dL_law_1545 hR (fun H locs X => ?_)
  refine lv_istore (lv' := (6, .int k) :: LV b ad bd i) hx hb dL_law_1548 hl (by decide) rfl (fun ls hl => ?_)
  refine lv_aload_n hx hb dL_law_1550 rfl (lv_at hl 3 rfl) ?_
  refine ll_ld hx hb hX hbl X.2.2.2.2 (lv_at hl 1 rfl) (lv_at hl 6 rfl) 1 (by decide) (hin 1 (by decide)) e1 dL_law_1551 dL_law_1552 dL_law_1554 dL_law_1555 dL_law_1556 ?_
  refine ll_ld hx hb hX hbl X.2.2.2.2 (lv_at hl 1 rfl) (lv_at hl 6 rfl) 2 (by decide) (hin 2 (by decide)) e2 dL_law_1557 dL_law_1558 dL_law_1560 dL_law_1561 dL_law_1562 ?_
  refine xf_V (As := [.int x1, .int x2]) (rest := []) S (mX6_common f2) (cwV 2 hts gL_law_X6_common rfl rfl rfl hqX6_common ⟨Nat.le_of_ble_eq_true rfl, Nat.le_of_ble_eq_true rfl⟩) X.swap (va_recv X.swap.1 X.swap.2.1 (ci := 4) (q0 := 0) rfl (ap_l wlR_0)) rfl hl.1 rfl (Nat.le_of_ble_eq_true rfl) dL_law_1563 hR (fun H locs X => ?_)
  have X := X.swap
  refine lv_istore (lv' := (7, .int bv) :: (6, .int k) :: LV b ad bd i) hx hb dL_law_1566 hl (by decide) rfl (fun ls hl => ?_)
  refine ll_thr S gL_law_X6_thrown X (lv_at hl 4 rfl) (lv_at hl 1 rfl) hl.1 hR dL_law_1568 dL_law_1569 dL_law_1572 dL_law_1574 (fun H locs X => ?_)
  refine ll_endI hx hb X hk (lv_at hl 5 rfl) (lv_at hl 1 rfl) (lv_at hl 0 rfl) dL_law_1579 dL_law_1581 dL_law_1584 dL_law_1585 dL_law_1586 dL_law_1587 dL_law_1589 dL_law_1590 dL_law_1591 dL_law_1596 (by decide) ?_
  exact kk _ _ _ ⟨_, _, _, _, _, _, _, _, _, _, _, _, _, _, _, _, N', hI', X⟩ (lv_sub hl [2, 3, 4, 5, 6, 7] rfl)
set_option maxRecDepth 100000 in
set_option maxHeartbeats 4000000 in
theorem ca_commonEnd {p : Program} {l : Launch} {e : Env} {s : State} {m : MethodId} {args : Array Value} {below : List Frame} {meth : Method} {c : Code} {H : Heap} {locs : List Loc} {cells slots : Nat} {Q : State → Prop} {ls : Array Slot} {dd : va_G} {cy : Nat → ClassId} {ad bd : Nat → Nat} {b L : Nat} {xs : Nat → Int32} {i : Int32} (S : CallFix p m c cL_law 9 s args wsL_law RL) (hX : va_X b L xs s s.heap) (hbl : b < s.heap.size) (hT : TH (LA s) s s.heap) (htr : l.stackTraces = false) (J : LI dd cy ad bd s H locs) (hin : ∀ k : Nat, k < 9 → vp_in (i + nI k) L) (hl : lv_has ls 9 (LV b ad bd i)) (hR : cells + 1 ≤ room_1.cells ∧ slots + 6 ≤ room_1.slots) (kk : ∀ (H1 : Heap) (locs1 : List Loc) (ls1 : Array Slot), LI dd cy ad bd s H1 locs1 → lv_has ls1 9 (LV b ad bd i) → W p l e room_1 s m args below meth c H1 locs1 (cells + 1) (slots + 6) Q (F0 m 3206 ls1 [])) : W p l e room_1 s m args below meth c H locs cells slots Q (F0 m 1599 ls []) := by
  have hx := S.1
  have hb := S.2.1
  have hts := S.2.2.2.2
  obtain ⟨ts, tc, rk, pl, ru, sl, bg, kn, rm, ol, od, th, ce, sz, wy, op, N, hI, X⟩ := J
  obtain ⟨x1, e1⟩ : ∃ x, xs (i + nI 1).toNatClampNeg = x := ⟨_, rfl⟩
  obtain ⟨x2, e2⟩ : ∃ x, xs (i + nI 2).toNatClampNeg = x := ⟨_, rfl⟩
  obtain ⟨k, g, bv, t, ce', f1, f2, htk, hk, N', hI'⟩ := q_commonEnd (fu := 2000) (ol := ol) (th := th) hI (Nat.le_refl 2000) x1 x2
  obtain rfl : k = t := htk.symm
  refine lv_aload_n hx hb dL_law_1599 rfl (lv_at hl 1 rfl) ?_
  refine ll_ld hx hb hX hbl X.2.2.2.2 (lv_at hl 0 rfl) (lv_at hl 5 rfl) 1 (by decide) (hin 1 (by decide)) e1 dL_law_1600 dL_law_1601 dL_law_1603 dL_law_1604 dL_law_1605 ?_
  refine ll_ld hx hb hX hbl X.2.2.2.2 (lv_at hl 0 rfl) (lv_at hl 5 rfl) 2 (by decide) (hin 2 (by decide)) e2 dL_law_1606 dL_law_1607 dL_law_1609 dL_law_1610 dL_law_1611 ?_
  refine lv_aload_n hx hb dL_law_1612 rfl (lv_at hl 3 rfl) ?_
  refine xf_S (As := [.ref (ad 14), .int x1, .int x2, .ref (ad 24)]) (rest := []) S (mL_commonEnd htr f1) (vx_cwSW 4 hts gL_law_L_commonEnd rfl rfl rfl (by decide +kernel) ⟨Nat.le_of_ble_eq_true rfl, Nat.le_of_ble_eq_true rfl⟩) X hT rfl hl.1 rfl (Nat.le_of_ble_eq_true rfl) dL_law_1613 hR (fun H locs X => ?_)
  refine lv_istore (lv' := (6, .int k) :: LV b ad bd i) hx hb dL_law_1616 hl (by decide) rfl (fun ls hl => ?_)
  refine lv_aload_n hx hb dL_law_1618 rfl (lv_at hl 3 rfl) ?_
  refine ll_ld hx hb hX hbl X.2.2.2.2 (lv_at hl 1 rfl) (lv_at hl 6 rfl) 1 (by decide) (hin 1 (by decide)) e1 dL_law_1619 dL_law_1620 dL_law_1622 dL_law_1623 dL_law_1624 ?_
  refine ll_ld hx hb hX hbl X.2.2.2.2 (lv_at hl 1 rfl) (lv_at hl 6 rfl) 2 (by decide) (hin 2 (by decide)) e2 dL_law_1625 dL_law_1626 dL_law_1628 dL_law_1629 dL_law_1630 ?_
  refine xf_V (As := [.int x1, .int x2]) (rest := []) S (mX6_commonEnd f2) (cwV 2 hts gL_law_X6_commonEnd rfl rfl rfl hqX6_commonEnd ⟨Nat.le_of_ble_eq_true rfl, Nat.le_of_ble_eq_true rfl⟩) X.swap (va_recv X.swap.1 X.swap.2.1 (ci := 4) (q0 := 0) rfl (ap_l wlR_0)) rfl hl.1 rfl (Nat.le_of_ble_eq_true rfl) dL_law_1631 hR (fun H locs X => ?_)
  have X := X.swap
  refine lv_istore (lv' := (7, .int bv) :: (6, .int k) :: LV b ad bd i) hx hb dL_law_1634 hl (by decide) rfl (fun ls hl => ?_)
  refine ll_thr S gL_law_X6_thrown X (lv_at hl 4 rfl) (lv_at hl 1 rfl) hl.1 hR dL_law_1636 dL_law_1637 dL_law_1640 dL_law_1642 (fun H locs X => ?_)
  refine ll_endI hx hb X hk (lv_at hl 5 rfl) (lv_at hl 1 rfl) (lv_at hl 0 rfl) dL_law_1647 dL_law_1649 dL_law_1652 dL_law_1653 dL_law_1654 dL_law_1655 dL_law_1657 dL_law_1658 dL_law_1659 dL_law_1664 (by decide) ?_
  exact kk _ _ _ ⟨_, _, _, _, _, _, _, _, _, _, _, _, _, _, _, _, N', hI', X⟩ (lv_sub hl [2, 3, 4, 5, 6, 7] rfl)
set_option maxRecDepth 100000 in
set_option maxHeartbeats 4000000 in
theorem ca_hash {p : Program} {l : Launch} {e : Env} {s : State} {m : MethodId} {args : Array Value} {below : List Frame} {meth : Method} {c : Code} {H : Heap} {locs : List Loc} {cells slots : Nat} {Q : State → Prop} {ls : Array Slot} {dd : va_G} {cy : Nat → ClassId} {ad bd : Nat → Nat} {b L : Nat} {xs : Nat → Int32} {i : Int32} (S : CallFix p m c cL_law 9 s args wsL_law RL) (hX : va_X b L xs s s.heap) (hbl : b < s.heap.size) (hT : TH (LA s) s s.heap) (htr : l.stackTraces = false) (J : LI dd cy ad bd s H locs) (hin : ∀ k : Nat, k < 9 → vp_in (i + nI k) L) (hl : lv_has ls 9 (LV b ad bd i)) (hR : cells + 1 ≤ room_1.cells ∧ slots + 6 ≤ room_1.slots) (kk : ∀ (H1 : Heap) (locs1 : List Loc) (ls1 : Array Slot), LI dd cy ad bd s H1 locs1 → lv_has ls1 9 (LV b ad bd i) → W p l e room_1 s m args below meth c H1 locs1 (cells + 1) (slots + 6) Q (F0 m 3206 ls1 [])) : W p l e room_1 s m args below meth c H locs cells slots Q (F0 m 1667 ls []) := by
  have hx := S.1
  have hb := S.2.1
  have hts := S.2.2.2.2
  obtain ⟨ts, tc, rk, pl, ru, sl, bg, kn, rm, ol, od, th, ce, sz, wy, op, N, hI, X⟩ := J
  obtain ⟨x1, e1⟩ : ∃ x, xs (i + nI 1).toNatClampNeg = x := ⟨_, rfl⟩
  obtain ⟨k, g, bv, t, f1, f2, htk, hk, N', hI'⟩ := q_hash (fu := 2000) (ol := ol) (th := th) hI (Nat.le_refl 2000) x1
  obtain rfl : k = t := htk.symm
  refine lv_aload_n hx hb dL_law_1667 rfl (lv_at hl 1 rfl) ?_
  refine ll_ld hx hb hX hbl X.2.2.2.2 (lv_at hl 0 rfl) (lv_at hl 5 rfl) 1 (by decide) (hin 1 (by decide)) e1 dL_law_1668 dL_law_1669 dL_law_1671 dL_law_1672 dL_law_1673 ?_
  refine lv_aload_n hx hb dL_law_1674 rfl (lv_at hl 3 rfl) ?_
  refine xf_S (As := [.ref (ad 14), .int x1, .ref (ad 24)]) (rest := []) S (mL_hash htr f1) (vx_cwSW 3 hts gL_law_L_hash rfl rfl rfl (by decide +kernel) ⟨Nat.le_of_ble_eq_true rfl, Nat.le_of_ble_eq_true rfl⟩) X hT rfl hl.1 rfl (Nat.le_of_ble_eq_true rfl) dL_law_1675 hR (fun H locs X => ?_)
  refine lv_istore (lv' := (6, .int k) :: LV b ad bd i) hx hb dL_law_1678 hl (by decide) rfl (fun ls hl => ?_)
  refine lv_aload_n hx hb dL_law_1680 rfl (lv_at hl 3 rfl) ?_
  refine ll_ld hx hb hX hbl X.2.2.2.2 (lv_at hl 1 rfl) (lv_at hl 6 rfl) 1 (by decide) (hin 1 (by decide)) e1 dL_law_1681 dL_law_1682 dL_law_1684 dL_law_1685 dL_law_1686 ?_
  refine xf_V (As := [.int x1]) (rest := []) S (mX6_hash f2) (cwV 1 hts gL_law_X6_hash rfl rfl rfl hqX6_hash ⟨Nat.le_of_ble_eq_true rfl, Nat.le_of_ble_eq_true rfl⟩) X.swap (va_recv X.swap.1 X.swap.2.1 (ci := 4) (q0 := 0) rfl (ap_l wlR_0)) rfl hl.1 rfl (Nat.le_of_ble_eq_true rfl) dL_law_1687 hR (fun H locs X => ?_)
  have X := X.swap
  refine lv_istore (lv' := (7, .int bv) :: (6, .int k) :: LV b ad bd i) hx hb dL_law_1690 hl (by decide) rfl (fun ls hl => ?_)
  refine ll_thr S gL_law_X6_thrown X (lv_at hl 4 rfl) (lv_at hl 1 rfl) hl.1 hR dL_law_1692 dL_law_1693 dL_law_1696 dL_law_1698 (fun H locs X => ?_)
  refine ll_endI hx hb X hk (lv_at hl 5 rfl) (lv_at hl 1 rfl) (lv_at hl 0 rfl) dL_law_1703 dL_law_1705 dL_law_1708 dL_law_1709 dL_law_1710 dL_law_1711 dL_law_1713 dL_law_1714 dL_law_1715 dL_law_1720 (by decide) ?_
  exact kk _ _ _ ⟨_, _, _, _, _, _, _, _, _, _, _, _, _, _, _, _, N', hI', X⟩ (lv_sub hl [2, 3, 4, 5, 6, 7] rfl)
set_option maxRecDepth 100000 in
set_option maxHeartbeats 4000000 in
theorem ca_hashJoined {p : Program} {l : Launch} {e : Env} {s : State} {m : MethodId} {args : Array Value} {below : List Frame} {meth : Method} {c : Code} {H : Heap} {locs : List Loc} {cells slots : Nat} {Q : State → Prop} {ls : Array Slot} {dd : va_G} {cy : Nat → ClassId} {ad bd : Nat → Nat} {b L : Nat} {xs : Nat → Int32} {i : Int32} (S : CallFix p m c cL_law 9 s args wsL_law RL) (hX : va_X b L xs s s.heap) (hbl : b < s.heap.size) (hT : TH (LA s) s s.heap) (htr : l.stackTraces = false) (J : LI dd cy ad bd s H locs) (hin : ∀ k : Nat, k < 9 → vp_in (i + nI k) L) (hl : lv_has ls 9 (LV b ad bd i)) (hR : cells + 1 ≤ room_1.cells ∧ slots + 6 ≤ room_1.slots) (kk : ∀ (H1 : Heap) (locs1 : List Loc) (ls1 : Array Slot), LI dd cy ad bd s H1 locs1 → lv_has ls1 9 (LV b ad bd i) → W p l e room_1 s m args below meth c H1 locs1 (cells + 1) (slots + 6) Q (F0 m 3206 ls1 [])) : W p l e room_1 s m args below meth c H locs cells slots Q (F0 m 1723 ls []) := by
  have hx := S.1
  have hb := S.2.1
  have hts := S.2.2.2.2
  obtain ⟨ts, tc, rk, pl, ru, sl, bg, kn, rm, ol, od, th, ce, sz, wy, op, N, hI, X⟩ := J
  obtain ⟨x1, e1⟩ : ∃ x, xs (i + nI 1).toNatClampNeg = x := ⟨_, rfl⟩
  obtain ⟨x2, e2⟩ : ∃ x, xs (i + nI 2).toNatClampNeg = x := ⟨_, rfl⟩
  obtain ⟨k, g, bv, t, f1, f2, htk, hk, N', hI'⟩ := q_hashJoined (fu := 2000) (ol := ol) (th := th) hI (Nat.le_refl 2000) x1 x2
  obtain rfl : k = t := htk.symm
  refine lv_aload_n hx hb dL_law_1723 rfl (lv_at hl 1 rfl) ?_
  refine ll_ld hx hb hX hbl X.2.2.2.2 (lv_at hl 0 rfl) (lv_at hl 5 rfl) 1 (by decide) (hin 1 (by decide)) e1 dL_law_1724 dL_law_1725 dL_law_1727 dL_law_1728 dL_law_1729 ?_
  refine ll_ld hx hb hX hbl X.2.2.2.2 (lv_at hl 0 rfl) (lv_at hl 5 rfl) 2 (by decide) (hin 2 (by decide)) e2 dL_law_1730 dL_law_1731 dL_law_1733 dL_law_1734 dL_law_1735 ?_
  refine lv_aload_n hx hb dL_law_1736 rfl (lv_at hl 3 rfl) ?_
  refine xf_S (As := [.ref (ad 14), .int x1, .int x2, .ref (ad 24)]) (rest := []) S (mL_hashJoined htr f1) (vx_cwSW 4 hts gL_law_L_hashJoined rfl rfl rfl (by decide +kernel) ⟨Nat.le_of_ble_eq_true rfl, Nat.le_of_ble_eq_true rfl⟩) X hT rfl hl.1 rfl (Nat.le_of_ble_eq_true rfl) dL_law_1737 hR (fun H locs X => ?_)
  refine lv_istore (lv' := (6, .int k) :: LV b ad bd i) hx hb dL_law_1740 hl (by decide) rfl (fun ls hl => ?_)
  refine lv_aload_n hx hb dL_law_1742 rfl (lv_at hl 3 rfl) ?_
  refine ll_ld hx hb hX hbl X.2.2.2.2 (lv_at hl 1 rfl) (lv_at hl 6 rfl) 1 (by decide) (hin 1 (by decide)) e1 dL_law_1743 dL_law_1744 dL_law_1746 dL_law_1747 dL_law_1748 ?_
  refine ll_ld hx hb hX hbl X.2.2.2.2 (lv_at hl 1 rfl) (lv_at hl 6 rfl) 2 (by decide) (hin 2 (by decide)) e2 dL_law_1749 dL_law_1750 dL_law_1752 dL_law_1753 dL_law_1754 ?_
  refine xf_V (As := [.int x1, .int x2]) (rest := []) S (mX6_hashJoined f2) (cwV 2 hts gL_law_X6_hashJoined rfl rfl rfl hqX6_hashJoined ⟨Nat.le_of_ble_eq_true rfl, Nat.le_of_ble_eq_true rfl⟩) X.swap (va_recv X.swap.1 X.swap.2.1 (ci := 4) (q0 := 0) rfl (ap_l wlR_0)) rfl hl.1 rfl (Nat.le_of_ble_eq_true rfl) dL_law_1755 hR (fun H locs X => ?_)
  have X := X.swap
  refine lv_istore (lv' := (7, .int bv) :: (6, .int k) :: LV b ad bd i) hx hb dL_law_1758 hl (by decide) rfl (fun ls hl => ?_)
  refine ll_thr S gL_law_X6_thrown X (lv_at hl 4 rfl) (lv_at hl 1 rfl) hl.1 hR dL_law_1760 dL_law_1761 dL_law_1764 dL_law_1766 (fun H locs X => ?_)
  refine ll_endI hx hb X hk (lv_at hl 5 rfl) (lv_at hl 1 rfl) (lv_at hl 0 rfl) dL_law_1771 dL_law_1773 dL_law_1776 dL_law_1777 dL_law_1778 dL_law_1779 dL_law_1781 dL_law_1782 dL_law_1783 dL_law_1788 (by decide) ?_
  exact kk _ _ _ ⟨_, _, _, _, _, _, _, _, _, _, _, _, _, _, _, _, N', hI', X⟩ (lv_sub hl [2, 3, 4, 5, 6, 7] rfl)
set_option maxRecDepth 100000 in
set_option maxHeartbeats 4000000 in
theorem ca_hashRepeated {p : Program} {l : Launch} {e : Env} {s : State} {m : MethodId} {args : Array Value} {below : List Frame} {meth : Method} {c : Code} {H : Heap} {locs : List Loc} {cells slots : Nat} {Q : State → Prop} {ls : Array Slot} {dd : va_G} {cy : Nat → ClassId} {ad bd : Nat → Nat} {b L : Nat} {xs : Nat → Int32} {i : Int32} (S : CallFix p m c cL_law 9 s args wsL_law RL) (hX : va_X b L xs s s.heap) (hbl : b < s.heap.size) (hT : TH (LA s) s s.heap) (htr : l.stackTraces = false) (J : LI dd cy ad bd s H locs) (hin : ∀ k : Nat, k < 9 → vp_in (i + nI k) L) (hl : lv_has ls 9 (LV b ad bd i)) (hR : cells + 1 ≤ room_1.cells ∧ slots + 6 ≤ room_1.slots) (kk : ∀ (H1 : Heap) (locs1 : List Loc) (ls1 : Array Slot), LI dd cy ad bd s H1 locs1 → lv_has ls1 9 (LV b ad bd i) → W p l e room_1 s m args below meth c H1 locs1 (cells + 1) (slots + 6) Q (F0 m 3206 ls1 [])) : W p l e room_1 s m args below meth c H locs cells slots Q (F0 m 1791 ls []) := by
  have hx := S.1
  have hb := S.2.1
  have hts := S.2.2.2.2
  obtain ⟨ts, tc, rk, pl, ru, sl, bg, kn, rm, ol, od, th, ce, sz, wy, op, N, hI, X⟩ := J
  obtain ⟨x1, e1⟩ : ∃ x, xs (i + nI 1).toNatClampNeg = x := ⟨_, rfl⟩
  obtain ⟨x2, e2⟩ : ∃ x, xs (i + nI 2).toNatClampNeg = x := ⟨_, rfl⟩
  obtain ⟨k, g, bv, t, f1, f2, htk, hk, N', hI'⟩ := q_hashRepeated (fu := 2000) (ol := ol) (th := th) hI (Nat.le_refl 2000) x1 x2
  obtain rfl : k = t := htk.symm
  refine lv_aload_n hx hb dL_law_1791 rfl (lv_at hl 1 rfl) ?_
  refine ll_ld hx hb hX hbl X.2.2.2.2 (lv_at hl 0 rfl) (lv_at hl 5 rfl) 1 (by decide) (hin 1 (by decide)) e1 dL_law_1792 dL_law_1793 dL_law_1795 dL_law_1796 dL_law_1797 ?_
  refine ll_ld hx hb hX hbl X.2.2.2.2 (lv_at hl 0 rfl) (lv_at hl 5 rfl) 2 (by decide) (hin 2 (by decide)) e2 dL_law_1798 dL_law_1799 dL_law_1801 dL_law_1802 dL_law_1803 ?_
  refine lv_aload_n hx hb dL_law_1804 rfl (lv_at hl 3 rfl) ?_
  refine xf_S (As := [.ref (ad 14), .int x1, .int x2, .ref (ad 24)]) (rest := []) S (mL_hashRepeated htr f1) (vx_cwSW 4 hts gL_law_L_hashRepeated rfl rfl rfl (by decide +kernel) ⟨Nat.le_of_ble_eq_true rfl, Nat.le_of_ble_eq_true rfl⟩) X hT rfl hl.1 rfl (Nat.le_of_ble_eq_true rfl) dL_law_1805 hR (fun H locs X => ?_)
  refine lv_istore (lv' := (6, .int k) :: LV b ad bd i) hx hb dL_law_1808 hl (by decide) rfl (fun ls hl => ?_)
  refine lv_aload_n hx hb dL_law_1810 rfl (lv_at hl 3 rfl) ?_
  refine ll_ld hx hb hX hbl X.2.2.2.2 (lv_at hl 1 rfl) (lv_at hl 6 rfl) 1 (by decide) (hin 1 (by decide)) e1 dL_law_1811 dL_law_1812 dL_law_1814 dL_law_1815 dL_law_1816 ?_
  refine ll_ld hx hb hX hbl X.2.2.2.2 (lv_at hl 1 rfl) (lv_at hl 6 rfl) 2 (by decide) (hin 2 (by decide)) e2 dL_law_1817 dL_law_1818 dL_law_1820 dL_law_1821 dL_law_1822 ?_
  refine xf_V (As := [.int x1, .int x2]) (rest := []) S (mX6_hashRepeated f2) (cwV 2 hts gL_law_X6_hashRepeated rfl rfl rfl hqX6_hashRepeated ⟨Nat.le_of_ble_eq_true rfl, Nat.le_of_ble_eq_true rfl⟩) X.swap (va_recv X.swap.1 X.swap.2.1 (ci := 4) (q0 := 0) rfl (ap_l wlR_0)) rfl hl.1 rfl (Nat.le_of_ble_eq_true rfl) dL_law_1823 hR (fun H locs X => ?_)
  have X := X.swap
  refine lv_istore (lv' := (7, .int bv) :: (6, .int k) :: LV b ad bd i) hx hb dL_law_1826 hl (by decide) rfl (fun ls hl => ?_)
  refine ll_thr S gL_law_X6_thrown X (lv_at hl 4 rfl) (lv_at hl 1 rfl) hl.1 hR dL_law_1828 dL_law_1829 dL_law_1832 dL_law_1834 (fun H locs X => ?_)
  refine ll_endI hx hb X hk (lv_at hl 5 rfl) (lv_at hl 1 rfl) (lv_at hl 0 rfl) dL_law_1839 dL_law_1841 dL_law_1844 dL_law_1845 dL_law_1846 dL_law_1847 dL_law_1849 dL_law_1850 dL_law_1851 dL_law_1856 (by decide) ?_
  exact kk _ _ _ ⟨_, _, _, _, _, _, _, _, _, _, _, _, _, _, _, _, N', hI', X⟩ (lv_sub hl [2, 3, 4, 5, 6, 7] rfl)
set_option maxRecDepth 100000 in
set_option maxHeartbeats 4000000 in
theorem ca_periods {p : Program} {l : Launch} {e : Env} {s : State} {m : MethodId} {args : Array Value} {below : List Frame} {meth : Method} {c : Code} {H : Heap} {locs : List Loc} {cells slots : Nat} {Q : State → Prop} {ls : Array Slot} {dd : va_G} {cy : Nat → ClassId} {ad bd : Nat → Nat} {b L : Nat} {xs : Nat → Int32} {i : Int32} (S : CallFix p m c cL_law 9 s args wsL_law RL) (hX : va_X b L xs s s.heap) (hbl : b < s.heap.size) (hT : TH (LA s) s s.heap) (htr : l.stackTraces = false) (J : LI dd cy ad bd s H locs) (hin : ∀ k : Nat, k < 9 → vp_in (i + nI k) L) (hl : lv_has ls 9 (LV b ad bd i)) (hR : cells + 1 ≤ room_1.cells ∧ slots + 6 ≤ room_1.slots) (kk : ∀ (H1 : Heap) (locs1 : List Loc) (ls1 : Array Slot), LI dd cy ad bd s H1 locs1 → lv_has ls1 9 (LV b ad bd i) → W p l e room_1 s m args below meth c H1 locs1 (cells + 1) (slots + 6) Q (F0 m 3206 ls1 [])) : W p l e room_1 s m args below meth c H locs cells slots Q (F0 m 1859 ls []) := by
  have hx := S.1
  have hb := S.2.1
  have hts := S.2.2.2.2
  obtain ⟨ts, tc, rk, pl, ru, sl, bg, kn, rm, ol, od, th, ce, sz, wy, op, N, hI, X⟩ := J
  obtain ⟨x1, e1⟩ : ∃ x, xs (i + nI 1).toNatClampNeg = x := ⟨_, rfl⟩
  obtain ⟨k, g, bv, t, f1, f2, htk, hk, N', hI'⟩ := q_periods (fu := 2000) (ol := ol) (th := th) hI (Nat.le_refl 2000) x1
  obtain rfl : k = t := htk.symm
  refine lv_aload_n hx hb dL_law_1859 rfl (lv_at hl 1 rfl) ?_
  refine ll_ld hx hb hX hbl X.2.2.2.2 (lv_at hl 0 rfl) (lv_at hl 5 rfl) 1 (by decide) (hin 1 (by decide)) e1 dL_law_1860 dL_law_1861 dL_law_1863 dL_law_1864 dL_law_1865 ?_
  refine lv_aload_n hx hb dL_law_1866 rfl (lv_at hl 3 rfl) ?_
  refine xf_S (As := [.ref (ad 14), .int x1, .ref (ad 24)]) (rest := []) S (mL_periods htr f1) (vx_cwSW 3 hts gL_law_L_periods rfl rfl rfl (by decide +kernel) ⟨Nat.le_of_ble_eq_true rfl, Nat.le_of_ble_eq_true rfl⟩) X hT rfl hl.1 rfl (Nat.le_of_ble_eq_true rfl) dL_law_1867 hR (fun H locs X => ?_)
  refine lv_istore (lv' := (6, .int k) :: LV b ad bd i) hx hb dL_law_1870 hl (by decide) rfl (fun ls hl => ?_)
  refine lv_aload_n hx hb dL_law_1872 rfl (lv_at hl 3 rfl) ?_
  refine ll_ld hx hb hX hbl X.2.2.2.2 (lv_at hl 1 rfl) (lv_at hl 6 rfl) 1 (by decide) (hin 1 (by decide)) e1 dL_law_1873 dL_law_1874 dL_law_1876 dL_law_1877 dL_law_1878 ?_
  refine xf_V (As := [.int x1]) (rest := []) S (mX6_periods f2) (cwV 1 hts gL_law_X6_periods rfl rfl rfl hqX6_periods ⟨Nat.le_of_ble_eq_true rfl, Nat.le_of_ble_eq_true rfl⟩) X.swap (va_recv X.swap.1 X.swap.2.1 (ci := 4) (q0 := 0) rfl (ap_l wlR_0)) rfl hl.1 rfl (Nat.le_of_ble_eq_true rfl) dL_law_1879 hR (fun H locs X => ?_)
  have X := X.swap
  refine lv_istore (lv' := (7, .int bv) :: (6, .int k) :: LV b ad bd i) hx hb dL_law_1882 hl (by decide) rfl (fun ls hl => ?_)
  refine ll_thr S gL_law_X6_thrown X (lv_at hl 4 rfl) (lv_at hl 1 rfl) hl.1 hR dL_law_1884 dL_law_1885 dL_law_1888 dL_law_1890 (fun H locs X => ?_)
  refine ll_endI hx hb X hk (lv_at hl 5 rfl) (lv_at hl 1 rfl) (lv_at hl 0 rfl) dL_law_1895 dL_law_1897 dL_law_1900 dL_law_1901 dL_law_1902 dL_law_1903 dL_law_1905 dL_law_1906 dL_law_1907 dL_law_1912 (by decide) ?_
  exact kk _ _ _ ⟨_, _, _, _, _, _, _, _, _, _, _, _, _, _, _, _, N', hI', X⟩ (lv_sub hl [2, 3, 4, 5, 6, 7] rfl)
set_option maxRecDepth 100000 in
set_option maxHeartbeats 4000000 in
theorem ca_periodAt {p : Program} {l : Launch} {e : Env} {s : State} {m : MethodId} {args : Array Value} {below : List Frame} {meth : Method} {c : Code} {H : Heap} {locs : List Loc} {cells slots : Nat} {Q : State → Prop} {ls : Array Slot} {dd : va_G} {cy : Nat → ClassId} {ad bd : Nat → Nat} {b L : Nat} {xs : Nat → Int32} {i : Int32} (S : CallFix p m c cL_law 9 s args wsL_law RL) (hX : va_X b L xs s s.heap) (hbl : b < s.heap.size) (hT : TH (LA s) s s.heap) (htr : l.stackTraces = false) (J : LI dd cy ad bd s H locs) (hin : ∀ k : Nat, k < 9 → vp_in (i + nI k) L) (hl : lv_has ls 9 (LV b ad bd i)) (hR : cells + 1 ≤ room_1.cells ∧ slots + 6 ≤ room_1.slots) (kk : ∀ (H1 : Heap) (locs1 : List Loc) (ls1 : Array Slot), LI dd cy ad bd s H1 locs1 → lv_has ls1 9 (LV b ad bd i) → W p l e room_1 s m args below meth c H1 locs1 (cells + 1) (slots + 6) Q (F0 m 3206 ls1 [])) : W p l e room_1 s m args below meth c H locs cells slots Q (F0 m 1915 ls []) := by
  have hx := S.1
  have hb := S.2.1
  have hts := S.2.2.2.2
  obtain ⟨ts, tc, rk, pl, ru, sl, bg, kn, rm, ol, od, th, ce, sz, wy, op, N, hI, X⟩ := J
  obtain ⟨x1, e1⟩ : ∃ x, xs (i + nI 1).toNatClampNeg = x := ⟨_, rfl⟩
  obtain ⟨x2, e2⟩ : ∃ x, xs (i + nI 2).toNatClampNeg = x := ⟨_, rfl⟩
  obtain ⟨k, g, bv, t, f1, f2, htk, hk, N', hI'⟩ := q_periodAt (fu := 2000) (ol := ol) (th := th) hI (Nat.le_refl 2000) x1 x2
  obtain rfl : k = t := htk.symm
  refine lv_aload_n hx hb dL_law_1915 rfl (lv_at hl 1 rfl) ?_
  refine ll_ld hx hb hX hbl X.2.2.2.2 (lv_at hl 0 rfl) (lv_at hl 5 rfl) 1 (by decide) (hin 1 (by decide)) e1 dL_law_1916 dL_law_1917 dL_law_1919 dL_law_1920 dL_law_1921 ?_
  refine ll_ld hx hb hX hbl X.2.2.2.2 (lv_at hl 0 rfl) (lv_at hl 5 rfl) 2 (by decide) (hin 2 (by decide)) e2 dL_law_1922 dL_law_1923 dL_law_1925 dL_law_1926 dL_law_1927 ?_
  refine lv_aload_n hx hb dL_law_1928 rfl (lv_at hl 3 rfl) ?_
  refine xf_S (As := [.ref (ad 14), .int x1, .int x2, .ref (ad 24)]) (rest := []) S (mzL_periodAt htr f1) (vx_cwSW 4 hts gzL_law_L_periodAt rfl rfl rfl (by decide +kernel) ⟨Nat.le_of_ble_eq_true rfl, Nat.le_of_ble_eq_true rfl⟩) X hT rfl hl.1 rfl (Nat.le_of_ble_eq_true rfl) dL_law_1929 hR (fun H locs X => ?_)
  refine lv_istore (lv' := (6, .int k) :: LV b ad bd i) hx hb dL_law_1932 hl (by decide) rfl (fun ls hl => ?_)
  refine lv_aload_n hx hb dL_law_1934 rfl (lv_at hl 3 rfl) ?_
  refine ll_ld hx hb hX hbl X.2.2.2.2 (lv_at hl 1 rfl) (lv_at hl 6 rfl) 1 (by decide) (hin 1 (by decide)) e1 dL_law_1935 dL_law_1936 dL_law_1938 dL_law_1939 dL_law_1940 ?_
  refine ll_ld hx hb hX hbl X.2.2.2.2 (lv_at hl 1 rfl) (lv_at hl 6 rfl) 2 (by decide) (hin 2 (by decide)) e2 dL_law_1941 dL_law_1942 dL_law_1944 dL_law_1945 dL_law_1946 ?_
  refine xf_V (As := [.int x1, .int x2]) (rest := []) S (mX6_periodAt f2) (cwV 2 hts gL_law_X6_periodAt rfl rfl rfl hqX6_periodAt ⟨Nat.le_of_ble_eq_true rfl, Nat.le_of_ble_eq_true rfl⟩) X.swap (va_recv X.swap.1 X.swap.2.1 (ci := 4) (q0 := 0) rfl (ap_l wlR_0)) rfl hl.1 rfl (Nat.le_of_ble_eq_true rfl) dL_law_1947 hR (fun H locs X => ?_)
  have X := X.swap
  refine lv_istore (lv' := (7, .int bv) :: (6, .int k) :: LV b ad bd i) hx hb dL_law_1950 hl (by decide) rfl (fun ls hl => ?_)
  refine ll_thr S gL_law_X6_thrown X (lv_at hl 4 rfl) (lv_at hl 1 rfl) hl.1 hR dL_law_1952 dL_law_1953 dL_law_1956 dL_law_1958 (fun H locs X => ?_)
  refine ll_endI hx hb X hk (lv_at hl 5 rfl) (lv_at hl 1 rfl) (lv_at hl 0 rfl) dL_law_1963 dL_law_1965 dL_law_1968 dL_law_1969 dL_law_1970 dL_law_1971 dL_law_1973 dL_law_1974 dL_law_1975 dL_law_1980 (by decide) ?_
  exact kk _ _ _ ⟨_, _, _, _, _, _, _, _, _, _, _, _, _, _, _, _, N', hI', X⟩ (lv_sub hl [2, 3, 4, 5, 6, 7] rfl)
set_option maxRecDepth 100000 in
set_option maxHeartbeats 4000000 in
theorem ca_border {p : Program} {l : Launch} {e : Env} {s : State} {m : MethodId} {args : Array Value} {below : List Frame} {meth : Method} {c : Code} {H : Heap} {locs : List Loc} {cells slots : Nat} {Q : State → Prop} {ls : Array Slot} {dd : va_G} {cy : Nat → ClassId} {ad bd : Nat → Nat} {b L : Nat} {xs : Nat → Int32} {i : Int32} (S : CallFix p m c cL_law 9 s args wsL_law RL) (hX : va_X b L xs s s.heap) (hbl : b < s.heap.size) (hT : TH (LA s) s s.heap) (htr : l.stackTraces = false) (J : LI dd cy ad bd s H locs) (hin : ∀ k : Nat, k < 9 → vp_in (i + nI k) L) (hl : lv_has ls 9 (LV b ad bd i)) (hR : cells + 1 ≤ room_1.cells ∧ slots + 6 ≤ room_1.slots) (kk : ∀ (H1 : Heap) (locs1 : List Loc) (ls1 : Array Slot), LI dd cy ad bd s H1 locs1 → lv_has ls1 9 (LV b ad bd i) → W p l e room_1 s m args below meth c H1 locs1 (cells + 1) (slots + 6) Q (F0 m 3206 ls1 [])) : W p l e room_1 s m args below meth c H locs cells slots Q (F0 m 1983 ls []) := by
  have hx := S.1
  have hb := S.2.1
  have hts := S.2.2.2.2
  obtain ⟨ts, tc, rk, pl, ru, sl, bg, kn, rm, ol, od, th, ce, sz, wy, op, N, hI, X⟩ := J
  obtain ⟨x1, e1⟩ : ∃ x, xs (i + nI 1).toNatClampNeg = x := ⟨_, rfl⟩
  obtain ⟨x2, e2⟩ : ∃ x, xs (i + nI 2).toNatClampNeg = x := ⟨_, rfl⟩
  obtain ⟨k, ts', tc', g, bv, t, ce', sz', f1, f2, htk, hk, N', hI'⟩ := q_border (fu := 2000) (ol := ol) (th := th) hI (Nat.le_refl 2000) x1 x2
  obtain rfl : k = t := htk.symm
  refine lv_aload_n hx hb dL_law_1983 rfl (lv_at hl 1 rfl) ?_
  refine ll_ld hx hb hX hbl X.2.2.2.2 (lv_at hl 0 rfl) (lv_at hl 5 rfl) 1 (by decide) (hin 1 (by decide)) e1 dL_law_1984 dL_law_1985 dL_law_1987 dL_law_1988 dL_law_1989 ?_
  refine ll_ld hx hb hX hbl X.2.2.2.2 (lv_at hl 0 rfl) (lv_at hl 5 rfl) 2 (by decide) (hin 2 (by decide)) e2 dL_law_1990 dL_law_1991 dL_law_1993 dL_law_1994 dL_law_1995 ?_
  refine lv_aload_n hx hb dL_law_1996 rfl (lv_at hl 3 rfl) ?_
  refine xf_S (As := [.ref (ad 14), .int x1, .int x2, .ref (ad 24)]) (rest := []) S (mL_border htr f1) (vx_cwSW 4 hts gL_law_L_border rfl rfl rfl (by decide +kernel) ⟨Nat.le_of_ble_eq_true rfl, Nat.le_of_ble_eq_true rfl⟩) X hT rfl hl.1 rfl (Nat.le_of_ble_eq_true rfl) dL_law_1997 hR (fun H locs X => ?_)
  refine lv_istore (lv' := (6, .int k) :: LV b ad bd i) hx hb dL_law_2000 hl (by decide) rfl (fun ls hl => ?_)
  refine lv_aload_n hx hb dL_law_2002 rfl (lv_at hl 3 rfl) ?_
  refine ll_ld hx hb hX hbl X.2.2.2.2 (lv_at hl 1 rfl) (lv_at hl 6 rfl) 1 (by decide) (hin 1 (by decide)) e1 dL_law_2003 dL_law_2004 dL_law_2006 dL_law_2007 dL_law_2008 ?_
  refine ll_ld hx hb hX hbl X.2.2.2.2 (lv_at hl 1 rfl) (lv_at hl 6 rfl) 2 (by decide) (hin 2 (by decide)) e2 dL_law_2009 dL_law_2010 dL_law_2012 dL_law_2013 dL_law_2014 ?_
  refine xf_V (As := [.int x1, .int x2]) (rest := []) S (mX6_border f2) (cwV 2 hts gL_law_X6_border rfl rfl rfl hqX6_border ⟨Nat.le_of_ble_eq_true rfl, Nat.le_of_ble_eq_true rfl⟩) X.swap (va_recv X.swap.1 X.swap.2.1 (ci := 4) (q0 := 0) rfl (ap_l wlR_0)) rfl hl.1 rfl (Nat.le_of_ble_eq_true rfl) dL_law_2015 hR (fun H locs X => ?_)
  have X := X.swap
  refine lv_istore (lv' := (7, .int bv) :: (6, .int k) :: LV b ad bd i) hx hb dL_law_2018 hl (by decide) rfl (fun ls hl => ?_)
  refine ll_thr S gL_law_X6_thrown X (lv_at hl 4 rfl) (lv_at hl 1 rfl) hl.1 hR dL_law_2020 dL_law_2021 dL_law_2024 dL_law_2026 (fun H locs X => ?_)
  refine ll_endI hx hb X hk (lv_at hl 5 rfl) (lv_at hl 1 rfl) (lv_at hl 0 rfl) dL_law_2031 dL_law_2033 dL_law_2036 dL_law_2037 dL_law_2038 dL_law_2039 dL_law_2041 dL_law_2042 dL_law_2043 dL_law_2048 (by decide) ?_
  exact kk _ _ _ ⟨_, _, _, _, _, _, _, _, _, _, _, _, _, _, _, _, N', hI', X⟩ (lv_sub hl [2, 3, 4, 5, 6, 7] rfl)
