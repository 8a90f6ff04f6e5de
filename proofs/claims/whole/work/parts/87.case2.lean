set_option maxRecDepth 100000 in
set_option maxHeartbeats 4000000 in
theorem ca_turn {p : Program} {l : Launch} {e : Env} {s : State} {m : MethodId} {args : Array Value} {below : List Frame} {meth : Method} {c : Code} {H : Heap} {locs : List Loc} {cells slots : Nat} {Q : State → Prop} {ls : Array Slot} {dd : va_G} {cy : Nat → ClassId} {ad bd : Nat → Nat} {b L : Nat} {xs : Nat → Int32} {i : Int32} (S : CallFix p m c cL_law 9 s args wsL_law RL) (hX : va_X b L xs s s.heap) (hbl : b < s.heap.size) (hT : TH (LA s) s s.heap) (htr : l.stackTraces = false) (J : LI dd cy ad bd s H locs) (hin : ∀ k : Nat, k < 9 → vp_in (i + nI k) L) (hl : lv_has ls 9 (LV b ad bd i)) (hR : cells + 1 ≤ room_1.cells ∧ slots + 6 ≤ room_1.slots) (kk : ∀ (H1 : Heap) (locs1 : List Loc) (ls1 : Array Slot), LI dd cy ad bd s H1 locs1 → lv_has ls1 9 (LV b ad bd i) → W p l e room_1 s m args below meth c H1 locs1 (cells + 1) (slots + 6) Q (F0 m 3206 ls1 [])) : W p l e room_1 s m args below meth c H locs cells slots Q (F0 m 892 ls []) := by
  have hx := S.1
  have hb := S.2.1
  have hts := S.2.2.2.2
  obtain ⟨ts, tc, rk, pl, ru, sl, bg, kn, rm, ol, od, th, ce, sz, wy, op, N, hI, X⟩ := J
  obtain ⟨x1, e1⟩ : ∃ x, xs (i + nI 1).toNatClampNeg = x := ⟨_, rfl⟩
  obtain ⟨x2, e2⟩ : ∃ x, xs (i + nI 2).toNatClampNeg = x := ⟨_, rfl⟩
  obtain ⟨x3, e3⟩ : ∃ x, xs (i + nI 3).toNatClampNeg = x := ⟨_, rfl⟩
  obtain ⟨k, ts', tc', g, bv, t, ce', sz', f1, f2, htk, hk, N', hI'⟩ := q_turn (fu := 2000) (ol := ol) (th := th) hI (Nat.le_refl 2000) x1 x2 x3
  obtain rfl : k = t := htk.symm
  refine lv_aload_n hx hb dL_law_892 rfl (lv_at hl 1 rfl) ?_
  refine ll_ld hx hb hX hbl X.2.2.2.2 (lv_at hl 0 rfl) (lv_at hl 5 rfl) 1 (by decide) (hin 1 (by decide)) e1 dL_law_893 dL_law_894 dL_law_896 dL_law_897 dL_law_898 ?_
  refine ll_ld hx hb hX hbl X.2.2.2.2 (lv_at hl 0 rfl) (lv_at hl 5 rfl) 2 (by decide) (hin 2 (by decide)) e2 dL_law_899 dL_law_900 dL_law_902 dL_law_903 dL_law_904 ?_
  refine ll_ld hx hb hX hbl X.2.2.2.2 (lv_at hl 0 rfl) (lv_at hl 5 rfl) 3 (by decide) (hin 3 (by decide)) e3 dL_law_905 dL_law_906 dL_law_908 dL_law_909 dL_law_910 ?_
  refine lv_aload_n hx hb dL_law_911 rfl (lv_at hl 3 rfl) ?_
  refine xf_S (As := [.ref (ad 14), .int x1, .int x2, .int x3, .ref (ad 24)]) (rest := []) S (mL_turn htr f1) (vx_cwSW 5 hts gL_law_L_turn rfl rfl rfl (by decide +kernel) ⟨Nat.le_of_ble_eq_true rfl, Nat.le_of_ble_eq_true rfl⟩) X hT rfl hl.1 rfl (Nat.le_of_ble_eq_true rfl) dL_law_912 hR (fun H locs X => ?_)
  refine lv_istore (lv' := (6, .int k) :: LV b ad bd i) hx hb dL_law_915 hl (by decide) rfl (fun ls hl => ?_)
  refine lv_aload_n hx hb dL_law_917 rfl (lv_at hl 3 rfl) ?_
  refine ll_ld hx hb hX hbl X.2.2.2.2 (lv_at hl 1 rfl) (lv_at hl 6 rfl) 1 (by decide) (hin 1 (by decide)) e1 dL_law_918 dL_law_919 dL_law_921 dL_law_922 dL_law_923 ?_
  refine ll_ld hx hb hX hbl X.2.2.2.2 (lv_at hl 1 rfl) (lv_at hl 6 rfl) 2 (by decide) (hin 2 (by decide)) e2 dL_law_924 dL_law_925 dL_law_927 dL_law_928 dL_law_929 ?_
  refine ll_ld hx hb hX hbl X.2.2.2.2 (lv_at hl 1 rfl) (lv_at hl 6 rfl) 3 (by decide) (hin 3 (by decide)) e3 dL_law_930 dL_law_931 dL_law_933 dL_law_934 dL_law_935 ?_
  refine xf_V (As := [.int x1, .int x2, .int x3]) (rest := []) S (mX6_turn f2) (cwV 3 hts gL_law_X6_turn rfl rfl rfl hqX6_turn ⟨Nat.le_of_ble_eq_true rfl, Nat.le_of_ble_eq_true rfl⟩) X.swap (va_recv X.swap.1 X.swap.2.1 (ci := 4) (q0 := 0) rfl (ap_l wlR_0)) rfl hl.1 rfl (Nat.le_of_ble_eq_true rfl) dL_law_936 hR (fun H locs X => ?_)
  have X := X.swap
  refine lv_istore (lv' := (7, .int bv) :: (6, .int k) :: LV b ad bd i) hx hb dL_law_939 hl (by decide) rfl (fun ls hl => ?_)
  refine ll_thr S gL_law_X6_thrown X (lv_at hl 4 rfl) (lv_at hl 1 rfl) hl.1 hR dL_law_941 dL_law_942 dL_law_945 dL_law_947 (fun H locs X => ?_)
  refine ll_endI hx hb X hk (lv_at hl 5 rfl) (lv_at hl 1 rfl) (lv_at hl 0 rfl) dL_law_952 dL_law_954 dL_law_957 dL_law_958 dL_law_959 dL_law_960 dL_law_962 dL_law_963 dL_law_964 dL_law_969 (by decide) ?_
  exact kk _ _ _ ⟨_, _, _, _, _, _, _, _, _, _, _, _, _, _, _, _, N', hI', X⟩ (lv_sub hl [2, 3, 4, 5, 6, 7] rfl)
set_option maxRecDepth 100000 in
set_option maxHeartbeats 4000000 in
theorem ca_back {p : Program} {l : Launch} {e : Env} {s : State} {m : MethodId} {args : Array Value} {below : List Frame} {meth : Method} {c : Code} {H : Heap} {locs : List Loc} {cells slots : Nat} {Q : State → Prop} {ls : Array Slot} {dd : va_G} {cy : Nat → ClassId} {ad bd : Nat → Nat} {b L : Nat} {xs : Nat → Int32} {i : Int32} (S : CallFix p m c cL_law 9 s args wsL_law RL) (hX : va_X b L xs s s.heap) (hbl : b < s.heap.size) (hT : TH (LA s) s s.heap) (htr : l.stackTraces = false) (J : LI dd cy ad bd s H locs) (hin : ∀ k : Nat, k < 9 → vp_in (i + nI k) L) (hl : lv_has ls 9 (LV b ad bd i)) (hR : cells + 1 ≤ room_1.cells ∧ slots + 6 ≤ room_1.slots) (kk : ∀ (H1 : Heap) (locs1 : List Loc) (ls1 : Array Slot), LI dd cy ad bd s H1 locs1 → lv_has ls1 9 (LV b ad bd i) → W p l e room_1 s m args below meth c H1 locs1 (cells + 1) (slots + 6) Q (F0 m 3206 ls1 [])) : W p l e room_1 s m args below meth c H locs cells slots Q (F0 m 972 ls []) := by
  have hx := S.1
  have hb := S.2.1
  have hts := S.2.2.2.2
  obtain ⟨ts, tc, rk, pl, ru, sl, bg, kn, rm, ol, od, th, ce, sz, wy, op, N, hI, X⟩ := J
  obtain ⟨x1, e1⟩ : ∃ x, xs (i + nI 1).toNatClampNeg = x := ⟨_, rfl⟩
  obtain ⟨x2, e2⟩ : ∃ x, xs (i + nI 2).toNatClampNeg = x := ⟨_, rfl⟩
  obtain ⟨k, ts', tc', g, bv, t, ce', sz', f1, f2, htk, hk, N', hI'⟩ := q_back (fu := 2000) (ol := ol) (th := th) hI (Nat.le_refl 2000) x1 x2
  obtain rfl : k = t := htk.symm
  refine lv_aload_n hx hb dL_law_972 rfl (lv_at hl 1 rfl) ?_
  refine ll_ld hx hb hX hbl X.2.2.2.2 (lv_at hl 0 rfl) (lv_at hl 5 rfl) 1 (by decide) (hin 1 (by decide)) e1 dL_law_973 dL_law_974 dL_law_976 dL_law_977 dL_law_978 ?_
  refine ll_ld hx hb hX hbl X.2.2.2.2 (lv_at hl 0 rfl) (lv_at hl 5 rfl) 2 (by decide) (hin 2 (by decide)) e2 dL_law_979 dL_law_980 dL_law_982 dL_law_983 dL_law_984 ?_
  refine lv_aload_n hx hb dL_law_985 rfl (lv_at hl 3 rfl) ?_
  refine xf_S (As := [.ref (ad 14), .int x1, .int x2, .ref (ad 24)]) (rest := []) S (mL_back htr f1) (vx_cwSW 4 hts gL_law_L_back rfl rfl rfl (by decide +kernel) ⟨Nat.le_of_ble_eq_true rfl, Nat.le_of_ble_eq_true rfl⟩) X hT rfl hl.1 rfl (Nat.le_of_ble_eq_true rfl) dL_law_986 hR (fun H locs X => ?_)
  refine lv_istore (lv' := (6, .int k) :: LV b ad bd i) hx hb dL_law_989 hl (by decide) rfl (fun ls hl => ?_)
  refine lv_aload_n hx hb dL_law_991 rfl (lv_at hl 3 rfl) ?_
  refine ll_ld hx hb hX hbl X.2.2.2.2 (lv_at hl 1 rfl) (lv_at hl 6 rfl) 1 (by decide) (hin 1 (by decide)) e1 dL_law_992 dL_law_993 dL_law_995 dL_law_996 dL_law_997 ?_
  refine ll_ld hx hb hX hbl X.2.2.2.2 (lv_at hl 1 rfl) (lv_at hl 6 rfl) 2 (by decide) (hin 2 (by decide)) e2 dL_law_998 dL_law_999 dL_law_1001 dL_law_1002 dL_law_1003 ?_
  refine xf_V (As := [.int x1, .int x2]) (rest := []) S (mX6_back f2) (cwV 2 hts gL_law_X6_back rfl rfl rfl hqX6_back ⟨Nat.le_of_ble_eq_true rfl, Nat.le_of_ble_eq_true rfl⟩) X.swap (va_recv X.swap.1 X.swap.2.1 (ci := 4) (q0 := 0) rfl (ap_l wlR_0)) rfl hl.1 rfl (Nat.le_of_ble_eq_true rfl) dL_law_1004 hR (fun H locs X => ?_)
  have X := X.swap
  refine lv_istore (lv' := (7, .int bv) :: (6, .int k) :: LV b ad bd i) hx hb dL_law_1007 hl (by decide) rfl (fun ls hl => ?_)
  refine ll_thr S gL_law_X6_thrown X (lv_at hl 4 rfl) (lv_at hl 1 rfl) hl.1 hR dL_law_1009 dL_law_1010 dL_law_1013 dL_law_1015 (fun H locs X => ?_)
  refine ll_endI hx hb X hk (lv_at hl 5 rfl) (lv_at hl 1 rfl) (lv_at hl 0 rfl) dL_law_1020 dL_law_1022 dL_law_1025 dL_law_1026 dL_law_1027 dL_law_1028 dL_law_1030 dL_law_1031 dL_law_1032 dL_law_1037 (by decide) ?_
  exact kk _ _ _ ⟨_, _, _, _, _, _, _, _, _, _, _, _, _, _, _, _, N', hI', X⟩ (lv_sub hl [2, 3, 4, 5, 6, 7] rfl)
set_option maxRecDepth 100000 in
set_option maxHeartbeats 4000000 in
theorem ca_put {p : Program} {l : Launch} {e : Env} {s : State} {m : MethodId} {args : Array Value} {below : List Frame} {meth : Method} {c : Code} {H : Heap} {locs : List Loc} {cells slots : Nat} {Q : State → Prop} {ls : Array Slot} {dd : va_G} {cy : Nat → ClassId} {ad bd : Nat → Nat} {b L : Nat} {xs : Nat → Int32} {i : Int32} (S : CallFix p m c cL_law 9 s args wsL_law RL) (hX : va_X b L xs s s.heap) (hbl : b < s.heap.size) (hT : TH (LA s) s s.heap) (htr : l.stackTraces = false) (J : LI dd cy ad bd s H locs) (hin : ∀ k : Nat, k < 9 → vp_in (i + nI k) L) (hl : lv_has ls 9 (LV b ad bd i)) (hR : cells + 1 ≤ room_1.cells ∧ slots + 6 ≤ room_1.slots) (kk : ∀ (H1 : Heap) (locs1 : List Loc) (ls1 : Array Slot), LI dd cy ad bd s H1 locs1 → lv_has ls1 9 (LV b ad bd i) → W p l e room_1 s m args below meth c H1 locs1 (cells + 1) (slots + 6) Q (F0 m 3206 ls1 [])) : W p l e room_1 s m args below meth c H locs cells slots Q (F0 m 1040 ls []) := by
  have hx := S.1
  have hb := S.2.1
  have hts := S.2.2.2.2
  obtain ⟨ts, tc, rk, pl, ru, sl, bg, kn, rm, ol, od, th, ce, sz, wy, op, N, hI, X⟩ := J
  obtain ⟨x1, e1⟩ : ∃ x, xs (i + nI 1).toNatClampNeg = x := ⟨_, rfl⟩
  obtain ⟨x2, e2⟩ : ∃ x, xs (i + nI 2).toNatClampNeg = x := ⟨_, rfl⟩
  obtain ⟨x3, e3⟩ : ∃ x, xs (i + nI 3).toNatClampNeg = x := ⟨_, rfl⟩
  obtain ⟨x4, e4⟩ : ∃ x, xs (i + nI 4).toNatClampNeg = x := ⟨_, rfl⟩
  obtain ⟨k, ts', tc', g, bv, t, ce', sz', f1, f2, htk, hk, N', hI'⟩ := q_put (fu := 2000) (ol := ol) (th := th) hI (Nat.le_refl 2000) x1 x2 x3 x4
  obtain rfl : k = t := htk.symm
  refine lv_aload_n hx hb dL_law_1040 rfl (lv_at hl 1 rfl) ?_
  refine ll_ld hx hb hX hbl X.2.2.2.2 (lv_at hl 0 rfl) (lv_at hl 5 rfl) 1 (by decide) (hin 1 (by decide)) e1 dL_law_1041 dL_law_1042 dL_law_1044 dL_law_1045 dL_law_1046 ?_
  refine ll_ld hx hb hX hbl X.2.2.2.2 (lv_at hl 0 rfl) (lv_at hl 5 rfl) 2 (by decide) (hin 2 (by decide)) e2 dL_law_1047 dL_law_1048 dL_law_1050 dL_law_1051 dL_law_1052 ?_
  refine ll_ld hx hb hX hbl X.2.2.2.2 (lv_at hl 0 rfl) (lv_at hl 5 rfl) 3 (by decide) (hin 3 (by decide)) e3 dL_law_1053 dL_law_1054 dL_law_1056 dL_law_1057 dL_law_1058 ?_
  refine ll_ld hx hb hX hbl X.2.2.2.2 (lv_at hl 0 rfl) (lv_at hl 5 rfl) 4 (by decide) (hin 4 (by decide)) e4 dL_law_1059 dL_law_1060 dL_law_1062 dL_law_1063 dL_law_1064 ?_
  refine lv_aload_n hx hb dL_law_1065 rfl (lv_at hl 3 rfl) ?_
  refine xf_S (As := [.ref (ad 14), .int x1, .int x2, .int x3, .int x4, .ref (ad 24)]) (rest := []) S (mL_put htr f1) (vx_cwSW 6 hts gL_law_L_put rfl rfl rfl (by decide +kernel) ⟨Nat.le_of_ble_eq_true rfl, Nat.le_of_ble_eq_true rfl⟩) X hT rfl hl.1 rfl (Nat.le_of_ble_eq_true rfl) dL_law_1066 hR (fun H locs X => ?_)
  refine lv_istore (lv' := (6, .int k) :: LV b ad bd i) hx hb dL_law_1069 hl (by decide) rfl (fun ls hl => ?_)
  refine lv_aload_n hx hb dL_law_1071 rfl (lv_at hl 3 rfl) ?_
  refine ll_ld hx hb hX hbl X.2.2.2.2 (lv_at hl 1 rfl) (lv_at hl 6 rfl) 1 (by decide) (hin 1 (by decide)) e1 dL_law_1072 dL_law_1073 dL_law_1075 dL_law_1076 dL_law_1077 ?_
  refine ll_ld hx hb hX hbl X.2.2.2.2 (lv_at hl 1 rfl) (lv_at hl 6 rfl) 2 (by decide) (hin 2 (by decide)) e2 dL_law_1078 dL_law_1079 dL_law_1081 dL_law_1082 dL_law_1083 ?_
  refine ll_ld hx hb hX hbl X.2.2.2.2 (lv_at hl 1 rfl) (lv_at hl 6 rfl) 3 (by decide) (hin 3 (by decide)) e3 dL_law_1084 dL_law_1085 dL_law_1087 dL_law_1088 dL_law_1089 ?_
  refine ll_ld hx hb hX hbl X.2.2.2.2 (lv_at hl 1 rfl) (lv_at hl 6 rfl) 4 (by decide) (hin 4 (by decide)) e4 dL_law_1090 dL_law_1091 dL_law_1093 dL_law_1094 dL_law_1095 ?_
  refine xf_V (As := [.int x1, .int x2, .int x3, .int x4]) (rest := []) S (mX6_put f2) (cwV 4 hts gL_law_X6_put rfl rfl rfl hqX6_put ⟨Nat.le_of_ble_eq_true rfl, Nat.le_of_ble_eq_true rfl⟩) X.swap (va_recv X.swap.1 X.swap.2.1 (ci := 4) (q0 := 0) rfl (ap_l wlR_0)) rfl hl.1 rfl (Nat.le_of_ble_eq_true rfl) dL_law_1096 hR (fun H locs X => ?_)
  have X := X.swap
  refine lv_istore (lv' := (7, .int bv) :: (6, .int k) :: LV b ad bd i) hx hb dL_law_1099 hl (by decide) rfl (fun ls hl => ?_)
  refine ll_thr S gL_law_X6_thrown X (lv_at hl 4 rfl) (lv_at hl 1 rfl) hl.1 hR dL_law_1101 dL_law_1102 dL_law_1105 dL_law_1107 (fun H locs X => ?_)
  refine ll_endI hx hb X hk (lv_at hl 5 rfl) (lv_at hl 1 rfl) (lv_at hl 0 rfl) dL_law_1112 dL_law_1114 dL_law_1117 dL_law_1118 dL_law_1119 dL_law_1120 dL_law_1122 dL_law_1123 dL_law_1124 dL_law_1129 (by decide) ?_
  exact kk _ _ _ ⟨_, _, _, _, _, _, _, _, _, _, _, _, _, _, _, _, N', hI', X⟩ (lv_sub hl [2, 3, 4, 5, 6, 7] rfl)
set_option maxRecDepth 100000 in
set_option maxHeartbeats 4000000 in
theorem ca_first {p : Program} {l : Launch} {e : Env} {s : State} {m : MethodId} {args : Array Value} {below : List Frame} {meth : Method} {c : Code} {H : Heap} {locs : List Loc} {cells slots : Nat} {Q : State → Prop} {ls : Array Slot} {dd : va_G} {cy : Nat → ClassId} {ad bd : Nat → Nat} {b L : Nat} {xs : Nat → Int32} {i : Int32} (S : CallFix p m c cL_law 9 s args wsL_law RL) (hX : va_X b L xs s s.heap) (hbl : b < s.heap.size) (hT : TH (LA s) s s.heap) (htr : l.stackTraces = false) (J : LI dd cy ad bd s H locs) (hin : ∀ k : Nat, k < 9 → vp_in (i + nI k) L) (hl : lv_has ls 9 (LV b ad bd i)) (hR : cells + 1 ≤ room_1.cells ∧ slots + 6 ≤ room_1.slots) (kk : ∀ (H1 : Heap) (locs1 : List Loc) (ls1 : Array Slot), LI dd cy ad bd s H1 locs1 → lv_has ls1 9 (LV b ad bd i) → W p l e room_1 s m args below meth c H1 locs1 (cells + 1) (slots + 6) Q (F0 m 3206 ls1 [])) : W p l e room_1 s m args below meth c H locs cells slots Q (F0 m 1132 ls []) := by
  have hx := S.1
  have hb := S.2.1
  have hts := S.2.2.2.2
  obtain ⟨ts, tc, rk, pl, ru, sl, bg, kn, rm, ol, od, th, ce, sz, wy, op, N, hI, X⟩ := J
  obtain ⟨x1, e1⟩ : ∃ x, xs (i + nI 1).toNatClampNeg = x := ⟨_, rfl⟩
  obtain ⟨x2, e2⟩ : ∃ x, xs (i + nI 2).toNatClampNeg = x := ⟨_, rfl⟩
  obtain ⟨x3, e3⟩ : ∃ x, xs (i + nI 3).toNatClampNeg = x := ⟨_, rfl⟩
  obtain ⟨k, g, bv, t, f1, f2, htk, hk, N', hI'⟩ := q_first (fu := 2000) (ol := ol) (th := th) hI (Nat.le_refl 2000) x1 x2 x3
  obtain rfl : k = t := htk.symm
  refine lv_aload_n hx hb dL_law_1132 rfl (lv_at hl 1 rfl) ?_
  refine ll_ld hx hb hX hbl X.2.2.2.2 (lv_at hl 0 rfl) (lv_at hl 5 rfl) 1 (by decide) (hin 1 (by decide)) e1 dL_law_1133 dL_law_1134 dL_law_1136 dL_law_1137 dL_law_1138 ?_
  refine ll_ld hx hb hX hbl X.2.2.2.2 (lv_at hl 0 rfl) (lv_at hl 5 rfl) 2 (by decide) (hin 2 (by decide)) e2 dL_law_1139 dL_law_1140 dL_law_1142 dL_law_1143 dL_law_1144 ?_
  refine ll_ld hx hb hX hbl X.2.2.2.2 (lv_at hl 0 rfl) (lv_at hl 5 rfl) 3 (by decide) (hin 3 (by decide)) e3 dL_law_1145 dL_law_1146 dL_law_1148 dL_law_1149 dL_law_1150 ?_
  refine lv_aload_n hx hb dL_law_1151 rfl (lv_at hl 3 rfl) ?_
  refine xf_S (As := [.ref (ad 14), .int x1, .int x2, .int x3, .ref (ad 24)]) (rest := []) S (mL_first htr f1) (vx_cwSW 5 hts gL_law_L_first rfl rfl rfl (by decide +kernel) ⟨Nat.le_of_ble_eq_true rfl, Nat.le_of_ble_eq_true rfl⟩) X hT rfl hl.1 rfl (Nat.le_of_ble_eq_true rfl) dL_law_1152 hR (fun H locs X => ?_)
  refine lv_istore (lv' := (6, .int k) :: LV b ad bd i) hx hb dL_law_1155 hl (by decide) rfl (fun ls hl => ?_)
  refine lv_aload_n hx hb dL_law_1157 rfl (lv_at hl 3 rfl) ?_
  refine ll_ld hx hb hX hbl X.2.2.2.2 (lv_at hl 1 rfl) (lv_at hl 6 rfl) 1 (by decide) (hin 1 (by decide)) e1 dL_law_1158 dL_law_1159 dL_law_1161 dL_law_1162 dL_law_1163 ?_
  refine ll_ld hx hb hX hbl X.2.2.2.2 (lv_at hl 1 rfl) (lv_at hl 6 rfl) 2 (by decide) (hin 2 (by decide)) e2 dL_law_1164 dL_law_1165 dL_law_1167 dL_law_1168 dL_law_1169 ?_
  refine ll_ld hx hb hX hbl X.2.2.2.2 (lv_at hl 1 rfl) (lv_at hl 6 rfl) 3 (by decide) (hin 3 (by decide)) e3 dL_law_1170 dL_law_1171 dL_law_1173 dL_law_1174 dL_law_1175 ?_
  refine xf_V (As := [.int x1, .int x2, .int x3]) (rest := []) S (mX6_first f2) (cwV 3 hts gL_law_X6_first rfl rfl rfl hqX6_first ⟨Nat.le_of_ble_eq_true rfl, Nat.le_of_ble_eq_true rfl⟩) X.swap (va_recv X.swap.1 X.swap.2.1 (ci := 4) (q0 := 0) rfl (ap_l wlR_0)) rfl hl.1 rfl (Nat.le_of_ble_eq_true rfl) dL_law_1176 hR (fun H locs X => ?_)
  have X := X.swap
  refine lv_istore (lv' := (7, .int bv) :: (6, .int k) :: LV b ad bd i) hx hb dL_law_1179 hl (by decide) rfl (fun ls hl => ?_)
  refine ll_thr S gL_law_X6_thrown X (lv_at hl 4 rfl) (lv_at hl 1 rfl) hl.1 hR dL_law_1181 dL_law_1182 dL_law_1185 dL_law_1187 (fun H locs X => ?_)
  refine ll_endI hx hb X hk (lv_at hl 5 rfl) (lv_at hl 1 rfl) (lv_at hl 0 rfl) dL_law_1192 dL_law_1194 dL_law_1197 dL_law_1198 dL_law_1199 dL_law_1200 dL_law_1202 dL_law_1203 dL_law_1204 dL_law_1209 (by decide) ?_
  exact kk _ _ _ ⟨_, _, _, _, _, _, _, _, _, _, _, _, _, _, _, _, N', hI', X⟩ (lv_sub hl [2, 3, 4, 5, 6, 7] rfl)
set_option maxRecDepth 100000 in
set_option maxHeartbeats 4000000 in
theorem ca_last {p : Program} {l : Launch} {e : Env} {s : State} {m : MethodId} {args : Array Value} {below : List Frame} {meth : Method} {c : Code} {H : Heap} {locs : List Loc} {cells slots : Nat} {Q : State → Prop} {ls : Array Slot} {dd : va_G} {cy : Nat → ClassId} {ad bd : Nat → Nat} {b L : Nat} {xs : Nat → Int32} {i : Int32} (S : CallFix p m c cL_law 9 s args wsL_law RL) (hX : va_X b L xs s s.heap) (hbl : b < s.heap.size) (hT : TH (LA s) s s.heap) (htr : l.stackTraces = false) (J : LI dd cy ad bd s H locs) (hin : ∀ k : Nat, k < 9 → vp_in (i + nI k) L) (hl : lv_has ls 9 (LV b ad bd i)) (hR : cells + 1 ≤ room_1.cells ∧ slots + 6 ≤ room_1.slots) (kk : ∀ (H1 : Heap) (locs1 : List Loc) (ls1 : Array Slot), LI dd cy ad bd s H1 locs1 → lv_has ls1 9 (LV b ad bd i) → W p l e room_1 s m args below meth c H1 locs1 (cells + 1) (slots + 6) Q (F0 m 3206 ls1 [])) : W p l e room_1 s m args below meth c H locs cells slots Q (F0 m 1212 ls []) := by
  have hx := S.1
  have hb := S.2.1
  have hts := S.2.2.2.2
  obtain ⟨ts, tc, rk, pl, ru, sl, bg, kn, rm, ol, od, th, ce, sz, wy, op, N, hI, X⟩ := J
  obtain ⟨x1, e1⟩ : ∃ x, xs (i + nI 1).toNatClampNeg = x := ⟨_, rfl⟩
  obtain ⟨x2, e2⟩ : ∃ x, xs (i + nI 2).toNatClampNeg = x := ⟨_, rfl⟩
  obtain ⟨x3, e3⟩ : ∃ x, xs (i + nI 3).toNatClampNeg = x := ⟨_, rfl⟩
  obtain ⟨k, g, bv, t, f1, f2, htk, hk, N', hI'⟩ := q_last (fu := 2000) (ol := ol) (th := th) hI (Nat.le_refl 2000) x1 x2 x3
  obtain rfl : k = t := htk.symm
  refine lv_aload_n hx hb dL_law_1212 rfl (lv_at hl 1 rfl) ?_
  refine ll_ld hx hb hX hbl X.2.2.2.2 (lv_at hl 0 rfl) (lv_at hl 5 rfl) 1 (by decide) (hin 1 (by decide)) e1 dL_law_1213 dL_law_1214 dL_law_1216 dL_law_1217 dL_law_1218 ?_
  refine ll_ld hx hb hX hbl X.2.2.2.2 (lv_at hl 0 rfl) (lv_at hl 5 rfl) 2 (by decide) (hin 2 (by decide)) e2 dL_law_1219 dL_law_1220 dL_law_1222 dL_law_1223 dL_law_1224 ?_
  refine ll_ld hx hb hX hbl X.2.2.2.2 (lv_at hl 0 rfl) (lv_at hl 5 rfl) 3 (by decide) (hin 3 (by decide)) e3 dL_law_1225 dL_law_1226 dL_law_1228 dL_law_1229 dL_law_1230 ?_
  refine lv_aload_n hx hb dL_law_1231 rfl (lv_at hl 3 rfl) ?_
  refine xf_S (As := [.ref (ad 14), .int x1, .int x2, .int x3, .ref (ad 24)]) (rest := []) S (mL_last htr f1) (vx_cwSW 5 hts gL_law_L_last rfl rfl rfl (by decide +kernel) ⟨Nat.le_of_ble_eq_true rfl, Nat.le_of_ble_eq_true rfl⟩) X hT rfl hl.1 rfl (Nat.le_of_ble_eq_true rfl) dL_law_1232 hR (fun H locs X => ?_)
  refine lv_istore (lv' := (6, .int k) :: LV b ad bd i) hx hb dL_law_1235 hl (by decide) rfl (fun ls hl => ?_)
  refine lv_aload_n hx hb dL_law_1237 rfl (lv_at hl 3 rfl) ?_
  refine ll_ld hx hb hX hbl X.2.2.2.2 (lv_at hl 1 rfl) (lv_at hl 6 rfl) 1 (by decide) (hin 1 (by decide)) e1 dL_law_1238 dL_law_1239 dL_law_1241 dL_law_1242 dL_law_1243 ?_
  refine ll_ld hx hb hX hbl X.2.2.2.2 (lv_at hl 1 rfl) (lv_at hl 6 rfl) 2 (by decide) (hin 2 (by decide)) e2 dL_law_1244 dL_law_1245 dL_law_1247 dL_law_1248 dL_law_1249 ?_
  refine ll_ld hx hb hX hbl X.2.2.2.2 (lv_at hl 1 rfl) (lv_at hl 6 rfl) 3 (by decide) (hin 3 (by decide)) e3 dL_law_1250 dL_law_1251 dL_law_1253 dL_law_1254 dL_law_1255 ?_
  refine xf_V (As := [.int x1, .int x2, .int x3]) (rest := []) S (mX6_last f2) (cwV 3 hts gL_law_X6_last rfl rfl rfl hqX6_last ⟨Nat.le_of_ble_eq_true rfl, Nat.le_of_ble_eq_true rfl⟩) X.swap (va_recv X.swap.1 X.swap.2.1 (ci := 4) (q0 := 0) rfl (ap_l wlR_0)) rfl hl.1 rfl (Nat.le_of_ble_eq_true rfl) dL_law_1256 hR (fun H locs X => ?_)
  have X := X.swap
  refine lv_istore (lv' := (7, .int bv) :: (6, .int k) :: LV b ad bd i) hx hb dL_law_1259 hl (by decide) rfl (fun ls hl => ?_)
  refine ll_thr S gL_law_X6_thrown X (lv_at hl 4 rfl) (lv_at hl 1 rfl) hl.1 hR dL_law_1261 dL_law_1262 dL_law_1265 dL_law_1267 (fun H locs X => ?_)
  refine ll_endI hx hb X hk (lv_at hl 5 rfl) (lv_at hl 1 rfl) (lv_at hl 0 rfl) dL_law_1272 dL_law_1274 dL_law_1277 dL_law_1278 dL_law_1279 dL_law_1280 dL_law_1282 dL_law_1283 dL_law_1284 dL_law_1289 (by decide) ?_
  exact kk _ _ _ ⟨_, _, _, _, _, _, _, _, _, _, _, _, _, _, _, _, N', hI', X⟩ (lv_sub hl [2, 3, 4, 5, 6, 7] rfl)
set_option maxRecDepth 100000 in
set_option maxHeartbeats 4000000 in
theorem ca_many {p : Program} {l : Launch} {e : Env} {s : State} {m : MethodId} {args : Array Value} {below : List Frame} {meth : Method} {c : Code} {H : Heap} {locs : List Loc} {cells slots : Nat} {Q : State → Prop} {ls : Array Slot} {dd : va_G} {cy : Nat → ClassId} {ad bd : Nat → Nat} {b L : Nat} {xs : Nat → Int32} {i : Int32} (S : CallFix p m c cL_law 9 s args wsL_law RL) (hX : va_X b L xs s s.heap) (hbl : b < s.heap.size) (hT : TH (LA s) s s.heap) (htr : l.stackTraces = false) (J : LI dd cy ad bd s H locs) (hin : ∀ k : Nat, k < 9 → vp_in (i + nI k) L) (hl : lv_has ls 9 (LV b ad bd i)) (hR : cells + 1 ≤ room_1.cells ∧ slots + 6 ≤ room_1.slots) (kk : ∀ (H1 : Heap) (locs1 : List Loc) (ls1 : Array Slot), LI dd cy ad bd s H1 locs1 → lv_has ls1 9 (LV b ad bd i) → W p l e room_1 s m args below meth c H1 locs1 (cells + 1) (slots + 6) Q (F0 m 3206 ls1 [])) : W p l e room_1 s m args below meth c H locs cells slots Q (F0 m 1292 ls []) := by
  have hx := S.1
  have hb := S.2.1
  have hts := S.2.2.2.2
  obtain ⟨ts, tc, rk, pl, ru, sl, bg, kn, rm, ol, od, th, ce, sz, wy, op, N, hI, X⟩ := J
  obtain ⟨x1, e1⟩ : ∃ x, xs (i + nI 1).toNatClampNeg = x := ⟨_, rfl⟩
  obtain ⟨x2, e2⟩ : ∃ x, xs (i + nI 2).toNatClampNeg = x := ⟨_, rfl⟩
  obtain ⟨y3, e3⟩ : ∃ x, xs (i + nI 3).toNatClampNeg = x := ⟨_, rfl⟩
  obtain ⟨x3, c3⟩ : ∃ x, (if y3 = 0 then (0 : Int32) else 1) = x := ⟨_, rfl⟩
  obtain ⟨k, g, bv, t, f1, f2, htk, hk, N', hI'⟩ := q_many (fu := 2000) (ol := ol) (th := th) hI (Nat.le_refl 2000) x1 x2 x3
  obtain rfl : k = t := htk.symm
  refine lv_aload_n hx hb dL_law_1292 rfl (lv_at hl 1 rfl) ?_
  refine ll_ld hx hb hX hbl X.2.2.2.2 (lv_at hl 0 rfl) (lv_at hl 5 rfl) 1 (by decide) (hin 1 (by decide)) e1 dL_law_1293 dL_law_1294 dL_law_1296 dL_law_1297 dL_law_1298 ?_
  refine ll_ld hx hb hX hbl X.2.2.2.2 (lv_at hl 0 rfl) (lv_at hl 5 rfl) 2 (by decide) (hin 2 (by decide)) e2 dL_law_1299 dL_law_1300 dL_law_1302 dL_law_1303 dL_law_1304 ?_
  refine ll_ld hx hb hX hbl X.2.2.2.2 (lv_at hl 0 rfl) (lv_at hl 5 rfl) 3 (by decide) (hin 3 (by decide)) e3 dL_law_1305 dL_law_1306 dL_law_1308 dL_law_1309 dL_law_1310 ?_
  refine ll_bool hx hb c3 dL_law_1311 dL_law_1314 dL_law_1315 dL_law_1318 ?_
  refine lv_aload_n hx hb dL_law_1319 rfl (lv_at hl 3 rfl) ?_
  refine xf_S (As := [.ref (ad 14), .int x1, .int x2, .int x3, .ref (ad 24)]) (rest := []) S (mL_many htr f1) (vx_cwSW 5 hts gL_law_L_many rfl rfl rfl (by decide +kernel) ⟨Nat.le_of_ble_eq_true rfl, Nat.le_of_ble_eq_true rfl⟩) X hT rfl hl.1 rfl (Nat.le_of_ble_eq_true rfl) dL_law_1320 hR (fun H locs X => ?_)
  refine lv_istore (lv' := (6, .int k) :: LV b ad bd i) hx hb dL_law_1323 hl (by decide) rfl (fun ls hl => ?_)
  refine lv_aload_n hx hb dL_law_1325 rfl (lv_at hl 3 rfl) ?_
  refine ll_ld hx hb hX hbl X.2.2.2.2 (lv_at hl 1 rfl) (lv_at hl 6 rfl) 1 (by decide) (hin 1 (by decide)) e1 dL_law_1326 dL_law_1327 dL_law_1329 dL_law_1330 dL_law_1331 ?_
  refine ll_ld hx hb hX hbl X.2.2.2.2 (lv_at hl 1 rfl) (lv_at hl 6 rfl) 2 (by decide) (hin 2 (by decide)) e2 dL_law_1332 dL_law_1333 dL_law_1335 dL_law_1336 dL_law_1337 ?_
  refine ll_ld hx hb hX hbl X.2.2.2.2 (lv_at hl 1 rfl) (lv_at hl 6 rfl) 3 (by decide) (hin 3 (by decide)) e3 dL_law_1338 dL_law_1339 dL_law_1341 dL_law_1342 dL_law_1343 ?_
  refine ll_bool hx hb c3 dL_law_1344 dL_law_1347 dL_law_1348 dL_law_1351 ?_
  refine xf_V (As := [.int x1, .int x2, .int x3]) (rest := []) S (mX6_many f2) (cwV 3 hts gL_law_X6_many rfl rfl rfl hqX6_many ⟨Nat.le_of_ble_eq_true rfl, Nat.le_of_ble_eq_true rfl⟩) X.swap (va_recv X.swap.1 X.swap.2.1 (ci := 4) (q0 := 0) rfl (ap_l wlR_0)) rfl hl.1 rfl (Nat.le_of_ble_eq_true rfl) dL_law_1352 hR (fun H locs X => ?_)
  have X := X.swap
  refine lv_istore (lv' := (7, .int bv) :: (6, .int k) :: LV b ad bd i) hx hb dL_law_1355 hl (by decide) rfl (fun ls hl => ?_)
  refine ll_thr S gL_law_X6_thrown X (lv_at hl 4 rfl) (lv_at hl 1 rfl) hl.1 hR dL_law_1357 dL_law_1358 dL_law_1361 dL_law_1363 (fun H locs X => ?_)
  refine ll_endI hx hb X hk (lv_at hl 5 rfl) (lv_at hl 1 rfl) (lv_at hl 0 rfl) dL_law_1368 dL_law_1370 dL_law_1373 dL_law_1374 dL_law_1375 dL_law_1376 dL_law_1378 dL_law_1379 dL_law_1380 dL_law_1385 (by decide) ?_
  exact kk _ _ _ ⟨_, _, _, _, _, _, _, _, _, _, _, _, _, _, _, _, N', hI', X⟩ (lv_sub hl [2, 3, 4, 5, 6, 7] rfl)
set_option maxRecDepth 100000 in
set_option maxHeartbeats 4000000 in
theorem ca_isSame {p : Program} {l : Launch} {e : Env} {s : State} {m : MethodId} {args : Array Value} {below : List Frame} {meth : Method} {c : Code} {H : Heap} {locs : List Loc} {cells slots : Nat} {Q : State → Prop} {ls : Array Slot} {dd : va_G} {cy : Nat → ClassId} {ad bd : Nat → Nat} {b L : Nat} {xs : Nat → Int32} {i : Int32} (S : CallFix p m c cL_law 9 s args wsL_law RL) (hX : va_X b L xs s s.heap) (hbl : b < s.heap.size) (hT : TH (LA s) s s.heap) (htr : l.stackTraces = false) (J : LI dd cy ad bd s H locs) (hin : ∀ k : Nat, k < 9 → vp_in (i + nI k) L) (hl : lv_has ls 9 (LV b ad bd i)) (hR : cells + 1 ≤ room_1.cells ∧ slots + 6 ≤ room_1.slots) (kk : ∀ (H1 : Heap) (locs1 : List Loc) (ls1 : Array Slot), LI dd cy ad bd s H1 locs1 → lv_has ls1 9 (LV b ad bd i) → W p l e room_1 s m args below meth c H1 locs1 (cells + 1) (slots + 6) Q (F0 m 3206 ls1 [])) : W p l e room_1 s m args below meth c H locs cells slots Q (F0 m 1388 ls []) := by
  have hx := S.1
  have hb := S.2.1
  have hts := S.2.2.2.2
  obtain ⟨ts, tc, rk, pl, ru, sl, bg, kn, rm, ol, od, th, ce, sz, wy, op, N, hI, X⟩ := J
  obtain ⟨x1, e1⟩ : ∃ x, xs (i + nI 1).toNatClampNeg = x := ⟨_, rfl⟩
  obtain ⟨x2, e2⟩ : ∃ x, xs (i + nI 2).toNatClampNeg = x := ⟨_, rfl⟩
  obtain ⟨k, g, bv, t, f1, f2, htk, hk, N', hI'⟩ := q_isSame (fu := 2000) (ol := ol) (th := th) hI (Nat.le_refl 2000) x1 x2
  obtain rfl : k = t := htk.symm
  refine lv_aload_n hx hb dL_law_1388 rfl (lv_at hl 1 rfl) ?_
  refine ll_ld hx hb hX hbl X.2.2.2.2 (lv_at hl 0 rfl) (lv_at hl 5 rfl) 1 (by decide) (hin 1 (by decide)) e1 dL_law_1389 dL_law_1390 dL_law_1392 dL_law_1393 dL_law_1394 ?_
  refine ll_ld hx hb hX hbl X.2.2.2.2 (lv_at hl 0 rfl) (lv_at hl 5 rfl) 2 (by decide) (hin 2 (by decide)) e2 dL_law_1395 dL_law_1396 dL_law_1398 dL_law_1399 dL_law_1400 ?_
  refine lv_aload_n hx hb dL_law_1401 rfl (lv_at hl 3 rfl) ?_
  refine xf_S (As := [.ref (ad 14), .int x1, .int x2, .ref (ad 24)]) (rest := []) S (mL_isSame htr f1) (vx_cwSW 4 hts gL_law_L_isSame rfl rfl rfl (by decide +kernel) ⟨Nat.le_of_ble_eq_true rfl, Nat.le_of_ble_eq_true rfl⟩) X hT rfl hl.1 rfl (Nat.le_of_ble_eq_true rfl) dL_law_1402 hR (fun H locs X => ?_)
  refine lv_istore (lv' := (6, .int k) :: LV b ad bd i) hx hb dL_law_1405 hl (by decide) rfl (fun ls hl => ?_)
  refine lv_aload_n hx hb dL_law_1407 rfl (lv_at hl 3 rfl) ?_
  refine ll_ld hx hb hX hbl X.2.2.2.2 (lv_at hl 1 rfl) (lv_at hl 6 rfl) 1 (by decide) (hin 1 (by decide)) e1 dL_law_1408 dL_law_1409 dL_law_1411 dL_law_1412 dL_law_1413 ?_
  refine ll_ld hx hb hX hbl X.2.2.2.2 (lv_at hl 1 rfl) (lv_at hl 6 rfl) 2 (by decide) (hin 2 (by decide)) e2 dL_law_1414 dL_law_1415 dL_law_1417 dL_law_1418 dL_law_1419 ?_
  refine xf_V (As := [.int x1, .int x2]) (rest := []) S (mX6_isSame f2) (cwV 2 hts gL_law_X6_isSame rfl rfl rfl hqX6_isSame ⟨Nat.le_of_ble_eq_true rfl, Nat.le_of_ble_eq_true rfl⟩) X.swap (va_recv X.swap.1 X.swap.2.1 (ci := 4) (q0 := 0) rfl (ap_l wlR_0)) rfl hl.1 rfl (Nat.le_of_ble_eq_true rfl) dL_law_1420 hR (fun H locs X => ?_)
  have X := X.swap
  refine lv_istore (lv' := (7, .int bv) :: (6, .int k) :: LV b ad bd i) hx hb dL_law_1423 hl (by decide) rfl (fun ls hl => ?_)
  refine ll_thr S gL_law_X6_thrown X (lv_at hl 4 rfl) (lv_at hl 1 rfl) hl.1 hR dL_law_1425 dL_law_1426 dL_law_1429 dL_law_1431 (fun H locs X => ?_)
  refine ll_endZ hx hb X hk (lv_at hl 5 rfl) (lv_at hl 1 rfl) (lv_at hl 0 rfl) dL_law_1436 dL_law_1438 dL_law_1441 dL_law_1442 dL_law_1443 dL_law_1444 dL_law_1446 dL_law_1449 dL_law_1450 dL_law_1453 dL_law_1454 dL_law_1455 dL_law_1460 (by decide) ?_
  exact kk _ _ _ ⟨_, _, _, _, _, _, _, _, _, _, _, _, _, _, _, _, N', hI', X⟩ (lv_sub hl [2, 3, 4, 5, 6, 7] rfl)
set_option maxRecDepth 100000 in
set_option maxHeartbeats 4000000 in
theorem ca_compare {p : Program} {l : Launch} {e : Env} {s : State} {m : MethodId} {args : Array Value} {below : List Frame} {meth : Method} {c : Code} {H : Heap} {locs : List Loc} {cells slots : Nat} {Q : State → Prop} {ls : Array Slot} {dd : va_G} {cy : Nat → ClassId} {ad bd : Nat → Nat} {b L : Nat} {xs : Nat → Int32} {i : Int32} (S : CallFix p m c cL_law 9 s args wsL_law RL) (hX : va_X b L xs s s.heap) (hbl : b < s.heap.size) (hT : TH (LA s) s s.heap) (htr : l.stackTraces = false) (J : LI dd cy ad bd s H locs) (hin : ∀ k : Nat, k < 9 → vp_in (i + nI k) L) (hl : lv_has ls 9 (LV b ad bd i)) (hR : cells + 1 ≤ room_1.cells ∧ slots + 6 ≤ room_1.slots) (kk : ∀ (H1 : Heap) (locs1 : List Loc) (ls1 : Array Slot), LI dd cy ad bd s H1 locs1 → lv_has ls1 9 (LV b ad bd i) → W p l e room_1 s m args below meth c H1 locs1 (cells + 1) (slots + 6) Q (F0 m 3206 ls1 [])) : W p l e room_1 s m args below meth c H locs cells slots Q (F0 m 1463 ls []) := by
  have hx := S.1
  have hb := S.2.1
  have hts := S.2.2.2.2
  obtain ⟨ts, tc, rk, pl, ru, sl, bg, kn, rm, ol, od, th, ce, sz, wy, op, N, hI, X⟩ := J
  obtain ⟨x1, e1⟩ : ∃ x, xs (i + nI 1).toNatClampNeg = x := ⟨_, rfl⟩
  obtain ⟨x2, e2⟩ : ∃ x, xs (i + nI 2).toNatClampNeg = x := ⟨_, rfl⟩
  obtain ⟨k, g, bv, t, f1, f2, htk, hk, N', hI'⟩ := q_compare (fu := 2000) (ol := ol) (th := th) hI (Nat.le_refl 2000) x1 x2
  obtain rfl : k = t := htk.symm
  refine lv_aload_n hx hb dL_law_1463 rfl (lv_at hl 1 rfl) ?_
  refine ll_ld hx hb hX hbl X.2.2.2.2 (lv_at hl 0 rfl) (lv_at hl 5 rfl) 1 (by decide) (hin 1 (by decide)) e1 dL_law_1464 dL_law_1465 dL_law_1467 dL_law_1468 dL_law_1469 ?_
  refine ll_ld hx hb hX hbl X.2.2.2.2 (lv_at hl 0 rfl) (lv_at hl 5 rfl) 2 (by decide) (hin 2 (by decide)) e2 dL_law_1470 dL_law_1471 dL_law_1473 dL_law_1474 dL_law_1475 ?_
  refine lv_aload_n hx hb dL_law_1476 rfl (lv_at hl 3 rfl) ?_
  refine xf_S (As := [.ref (ad 14), .int x1, .int x2, .ref (ad 24)]) (rest := []) S (mL_compare htr f1) (vx_cwSW 4 hts gL_law_L_compare rfl rfl rfl (by decide +kernel) ⟨Nat.le_of_ble_eq_true rfl, Nat.le_of_ble_eq_true rfl⟩) X hT rfl hl.1 rfl (Nat.le_of_ble_eq_true rfl) dL_law_1477 hR (fun H locs X => ?_)
  refine lv_istore (lv' := (6, .int k) :: LV b ad bd i) hx hb dL_law_1480 hl (by decide) rfl (fun ls hl => ?_)
  refine lv_aload_n hx hb dL_law_1482 rfl (lv_at hl 3 rfl) ?_
  refine ll_ld hx hb hX hbl X.2.2.2.2 (lv_at hl 1 rfl) (lv_at hl 6 rfl) 1 (by decide) (hin 1 (by decide)) e1 dL_law_1483 dL_law_1484 dL_law_1486 dL_law_1487 dL_law_1488 ?_
  refine ll_ld hx hb hX hbl X.2.2.2.2 (lv_at hl 1 rfl) (lv_at hl 6 rfl) 2 (by decide) (hin 2 (by decide)) e2 dL_law_1489 dL_law_1490 dL_law_1492 dL_law_1493 dL_law_1494 ?_
  refine xf_V (As := [.int x1, .int x2]) (rest := []) S (mX6_compare f2) (cwV 2 hts gL_law_X6_compare rfl rfl rfl hqX6_compare ⟨Nat.le_of_ble_eq_true rfl, Nat.le_of_ble_eq_true rfl⟩) X.swap (va_recv X.swap.1 X.swap.2.1 (ci := 4) (q0 := 0) rfl (ap_l wlR_0)) rfl hl.1 rfl (Nat.le_of_ble_eq_true rfl) dL_law_1495 hR (fun H locs X => ?_)
  have X := X.swap
  refine lv_istore (lv' := (7, .int bv) :: (6, .int k) :: LV b ad bd i) hx hb dL_law_1498 hl (by decide) rfl (fun ls hl => ?_)
  refine ll_thr S gL_law_X6_thrown X (lv_at hl 4 rfl) (lv_at hl 1 rfl) hl.1 hR dL_law_1500 dL_law_1501 dL_law_1504 dL_law_1506 (fun H locs X => ?_)
  refine ll_endI hx hb X hk (lv_at hl 5 rfl) (lv_at hl 1 rfl) (lv_at hl 0 rfl) dL_law_1511 dL_law_1513 dL_law_1516 dL_law_1517 dL_law_1518 dL_law_1519 dL_law_1521 dL_law_1522 dL_law_1523 dL_law_1528 (by decide) ?_
  exact kk _ _ _ ⟨_, _, _, _, _, _, _, _, _, _, _, _, _, _, _, _, N', hI', X⟩ (lv_sub hl [2, 3, 4, 5, 6, 7] rfl)
