set_option maxRecDepth 100000 in
set_option maxHeartbeats 4000000 in
theorem ca_meanPeriod {p : Program} {l : Launch} {e : Env} {s : State} {m : MethodId} {args : Array Value} {below : List Frame} {meth : Method} {c : Code} {H : Heap} {locs : List Loc} {cells slots : Nat} {Q : State → Prop} {ls : Array Slot} {dd : va_G} {cy : Nat → ClassId} {ad bd : Nat → Nat} {b L : Nat} {xs : Nat → Int32} {i : Int32} (S : CallFix p m c cL_law 9 s args wsL_law RL) (hX : va_X b L xs s s.heap) (hbl : b < s.heap.size) (hT : TH (LA s) s s.heap) (htr : l.stackTraces = false) (J : LI dd cy ad bd s H locs) (hin : ∀ k : Nat, k < 9 → vp_in (i + nI k) L) (hl : lv_has ls 9 (LV b ad bd i)) (hR : cells + 1 ≤ room_1.cells ∧ slots + 6 ≤ room_1.slots) (kk : ∀ (H1 : Heap) (locs1 : List Loc) (ls1 : Array Slot), LI dd cy ad bd s H1 locs1 → lv_has ls1 9 (LV b ad bd i) → W p l e room_1 s m args below meth c H1 locs1 (cells + 1) (slots + 6) Q (F0 m 3206 ls1 [])) : W p l e room_1 s m args below meth c H locs cells slots Q (F0 m 3102 ls []) := by
  have hx := S.1
  have hb := S.2.1
  have hts := S.2.2.2.2
  obtain ⟨ts, tc, rk, pl, ru, sl, bg, kn, rm, ol, od, th, ce, sz, wy, op, N, hI, X⟩ := J
  obtain ⟨x1, e1⟩ : ∃ x, xs (i + nI 1).toNatClampNeg = x := ⟨_, rfl⟩
  obtain ⟨k, g, bv, t, f1, f2, htk, hk, N', hI'⟩ := q_meanPeriod (fu := 2000) (od := od) (th := th) hI (Nat.le_refl 2000) x1
  obtain rfl : k = t := htk.symm
  refine lv_aload_n hx hb dL_law_3102 rfl (lv_at hl 1 rfl) ?_
  refine ll_ld hx hb hX hbl X.2.2.2.2 (lv_at hl 0 rfl) (lv_at hl 5 rfl) 1 (by decide) (hin 1 (by decide)) e1 dL_law_3103 dL_law_3104 dL_law_3106 dL_law_3107 dL_law_3108 ?_
  refine lv_aload hx hb dL_law_3109 (lv_at hl 4 rfl) ?_
  refine xf_S (As := [.ref (ad 14), .int x1, .ref (ad 25)]) (rest := []) S (mL_meanPeriod htr f1) (vx_cwSW 3 hts gL_law_L_meanPeriod rfl rfl rfl (by decide +kernel) ⟨Nat.le_of_ble_eq_true rfl, Nat.le_of_ble_eq_true rfl⟩) X hT rfl hl.1 rfl (Nat.le_of_ble_eq_true rfl) dL_law_3111 hR (fun H locs X => ?_)
  refine lv_istore (lv' := (6, .int k) :: LV b ad bd i) hx hb dL_law_3114 hl (by decide) rfl (fun ls hl => ?_)
  refine lv_aload_n hx hb dL_law_3116 rfl (lv_at hl 3 rfl) ?_
  refine ll_ld hx hb hX hbl X.2.2.2.2 (lv_at hl 1 rfl) (lv_at hl 6 rfl) 1 (by decide) (hin 1 (by decide)) e1 dL_law_3117 dL_law_3118 dL_law_3120 dL_law_3121 dL_law_3122 ?_
  refine xf_V (As := [.int x1]) (rest := []) S (mX6_meanPeriod f2) (cwV 1 hts gL_law_X6_meanPeriod rfl rfl rfl hqX6_meanPeriod ⟨Nat.le_of_ble_eq_true rfl, Nat.le_of_ble_eq_true rfl⟩) X.swap (va_recv X.swap.1 X.swap.2.1 (ci := 4) (q0 := 0) rfl (ap_l wlR_0)) rfl hl.1 rfl (Nat.le_of_ble_eq_true rfl) dL_law_3123 hR (fun H locs X => ?_)
  have X := X.swap
  refine lv_dstore (lv' := (7, .double bv) :: (6, .int k) :: LV b ad bd i) hx hb dL_law_3126 hl (by decide) rfl (fun ls hl => ?_)
  refine ll_thr S gL_law_X6_thrown X (lv_at hl 4 rfl) (lv_at hl 1 rfl) hl.1 hR dL_law_3128 dL_law_3129 dL_law_3132 dL_law_3134 (fun H locs X => ?_)
  refine ll_endD hx hb X hk (lv_at hl 6 rfl) (lv_at hl 1 rfl) (lv_at hl 0 rfl) dL_law_3139 dL_law_3141 dL_law_3144 dL_law_3146 dL_law_3147 dL_law_3148 dL_law_3150 dL_law_3151 dL_law_3176 (by decide) ?_
  exact kk _ _ _ ⟨_, _, _, _, _, _, _, _, _, _, _, _, _, _, _, _, N', hI', X⟩ (lv_sub hl [2, 3, 4, 5, 6, 7] rfl)
set_option maxRecDepth 100000 in
set_option maxHeartbeats 4000000 in
theorem ca_checksum {p : Program} {l : Launch} {e : Env} {s : State} {m : MethodId} {args : Array Value} {below : List Frame} {meth : Method} {c : Code} {H : Heap} {locs : List Loc} {cells slots : Nat} {Q : State → Prop} {ls : Array Slot} {dd : va_G} {cy : Nat → ClassId} {ad bd : Nat → Nat} {b : Nat} {i : Int32} (S : CallFix p m c cL_law 9 s args wsL_law RL) (J : LI dd cy ad bd s H locs) (hl : lv_has ls 9 (LV b ad bd i)) (hR : cells + 1 ≤ room_1.cells ∧ slots + 6 ≤ room_1.slots) (kk : ∀ (H1 : Heap) (locs1 : List Loc) (ls1 : Array Slot), LI dd cy ad bd s H1 locs1 → lv_has ls1 9 (LV b ad bd i) → W p l e room_1 s m args below meth c H1 locs1 (cells + 1) (slots + 6) Q (F0 m 3206 ls1 [])) : W p l e room_1 s m args below meth c H locs cells slots Q (F0 m 3179 ls []) := by
  have hx := S.1
  have hb := S.2.1
  have hts := S.2.2.2.2
  have hR0 : cells ≤ room_1.cells ∧ slots ≤ room_1.slots := ⟨Nat.le_of_succ_le hR.1, Nat.le_trans (Nat.le_add_right _ 6) hR.2⟩
  obtain ⟨ts, tc, rk, pl, ru, sl, bg, kn, rm, ol, od, th, ce, sz, wy, op, N, hI, X⟩ := J
  obtain ⟨v, f1, f2⟩ := q_checksum (fu := 2000) (th := th) hI (Nat.le_refl 2000)
  refine lv_aload_n hx hb dL_law_3179 rfl (lv_at hl 1 rfl) ?_
  refine xf_V (As := []) (rest := []) S (mX5_checksum f1) (cwV 0 hts gL_law_X5_checksum rfl rfl rfl hqX5_checksum ⟨Nat.le_of_ble_eq_true rfl, Nat.le_of_ble_eq_true rfl⟩) X (va_recv X.1 X.2.1 (ci := 1) (q0 := 14) rfl (ap_l wlC_14)) rfl hl.1 rfl (Nat.le_of_ble_eq_true rfl) dL_law_3180 hR0 (fun H locs X => ?_)
  refine lv_aload_n hx hb dL_law_3183 rfl (lv_at hl 2 rfl) ?_
  refine xf_V (As := []) (rest := [.long v]) S (mX6_checksum f2) (cwV 0 hts gL_law_X6_checksum rfl rfl rfl hqX6_checksum ⟨Nat.le_of_ble_eq_true rfl, Nat.le_of_ble_eq_true rfl⟩) X.swap (va_recv X.swap.1 X.swap.2.1 (ci := 4) (q0 := 0) rfl (ap_l wlR_0)) rfl hl.1 rfl (Nat.le_of_ble_eq_true rfl) dL_law_3184 hR0 (fun H locs X => ?_)
  have X := X.swap
  refine W.widen (k := cells + 1) (n := slots + 6) (Nat.le_add_right _ _) (Nat.le_add_right _ _) ?_
  refine W.lcmp hx hb dL_law_3187 ?_
  exact lv_if_eq (tgt := 3206) hx hb dL_law_3188 (by decide) (fun _ => kk _ _ _ ⟨_, _, _, _, _, _, _, _, _, _, _, _, _, _, _, _, N, hI, X⟩ hl) (fun h => absurd (lg_cmp_same v) h)
set_option maxRecDepth 100000 in
set_option maxHeartbeats 4000000 in
theorem ca_isTrue {p : Program} {l : Launch} {e : Env} {s : State} {m : MethodId} {args : Array Value} {below : List Frame} {meth : Method} {c : Code} {H : Heap} {locs : List Loc} {cells slots : Nat} {Q : State → Prop} {ls : Array Slot} {dd : va_G} {cy : Nat → ClassId} {ad bd : Nat → Nat} {b : Nat} {i : Int32} (S : CallFix p m c cL_law 9 s args wsL_law RL) (J : LI dd cy ad bd s H locs) (hl : lv_has ls 9 (LV b ad bd i)) (hR : cells + 1 ≤ room_1.cells ∧ slots + 6 ≤ room_1.slots) (kk : ∀ (H1 : Heap) (locs1 : List Loc) (ls1 : Array Slot), LI dd cy ad bd s H1 locs1 → lv_has ls1 9 (LV b ad bd i) → W p l e room_1 s m args below meth c H1 locs1 (cells + 1) (slots + 6) Q (F0 m 3206 ls1 [])) : W p l e room_1 s m args below meth c H locs cells slots Q (F0 m 3193 ls []) := by
  have hx := S.1
  have hb := S.2.1
  have hts := S.2.2.2.2
  have hR0 : cells ≤ room_1.cells ∧ slots ≤ room_1.slots := ⟨Nat.le_of_succ_le hR.1, Nat.le_trans (Nat.le_add_right _ 6) hR.2⟩
  obtain ⟨ts, tc, rk, pl, ru, sl, bg, kn, rm, ol, od, th, ce, sz, wy, op, N, hI, X⟩ := J
  obtain ⟨f1, f2⟩ := q_isTrue (fu := 2000) (th := th) hI (Nat.le_refl 2000)
  refine lv_aload_n hx hb dL_law_3193 rfl (lv_at hl 1 rfl) ?_
  refine xf_V (As := []) (rest := []) S (mX5_isTrue f1) (cwV 0 hts gL_law_X5_isTrue rfl rfl rfl hqX5_isTrue ⟨Nat.le_of_ble_eq_true rfl, Nat.le_of_ble_eq_true rfl⟩) X (va_recv X.1 X.2.1 (ci := 1) (q0 := 14) rfl (ap_l wlC_14)) rfl hl.1 rfl (Nat.le_of_ble_eq_true rfl) dL_law_3194 hR0 (fun H locs X => ?_)
  refine lv_aload_n hx hb dL_law_3197 rfl (lv_at hl 2 rfl) ?_
  refine xf_V (As := []) (rest := [.int 1]) S (mX6_isTrue f2) (cwV 0 hts gL_law_X6_isTrue rfl rfl rfl hqX6_isTrue ⟨Nat.le_of_ble_eq_true rfl, Nat.le_of_ble_eq_true rfl⟩) X.swap (va_recv X.swap.1 X.swap.2.1 (ci := 4) (q0 := 0) rfl (ap_l wlR_0)) rfl hl.1 rfl (Nat.le_of_ble_eq_true rfl) dL_law_3198 hR0 (fun H locs X => ?_)
  have X := X.swap
  refine W.widen (k := cells + 1) (n := slots + 6) (Nat.le_add_right _ _) (Nat.le_add_right _ _) ?_
  exact lv_icmp_eq (tgt := 3206) hx hb dL_law_3201 (by decide) (fun _ => kk _ _ _ ⟨_, _, _, _, _, _, _, _, _, _, _, _, _, _, _, _, N, hI, X⟩ hl) (fun h => absurd rfl h)
