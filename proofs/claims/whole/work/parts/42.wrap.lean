set_option maxRecDepth 100000 in
set_option maxHeartbeats 4000000 in
theorem mL_type {l : Launch} {dd : va_G} {cy : Nat → ClassId} {ad : Nat → Nat} {A : Nat → Prop} {ts : Nat → Int32} {tc : Nat → Nat → Int32} {rk : Nat → Int32} {pl : Nat → Int32} {ru : Nat → Int64} {sl : Nat → Int32} {bg : Nat → Int32} {kn : Nat → Int64} {rm : Int32} {ol : Nat → Int64} {od : Nat → UInt64} {x1 : Int32} {x2 : Int32} {rv : Int32} {tso : Nat → Int32} {tco : Nat → Nat → Int32} {olo : Nat → Int64} (htr : l.stackTraces = false) (hf : fL_type ts tc ol x1 x2 = some (rv, tso, tco, olo)) : Met l yL_type wsL_type { frames := 8, cells := 1, slots := 6, locals := 144 } (va_Pc [.ref (ad 14), .int x1, .int x2, .ref (ad 24)] (IT dd cy A (wlC ad cy ts tc rk pl ru sl bg kn rm ol od))) (QX dd cy A (some (.int rv)) (wlC ad cy tso tco rk pl ru sl bg kn rm olo od)) 1 6 A := by
  refine va_MetW (cc := cL_type) (maxL := 5) (ret := some .int) (by decide) rfl ?_
  intro p e s m args below meth c s₁ B hml hv
  obtain ⟨hav, hI, hT⟩ := hv
  have hx := B.exec
  have hb := B.bytes
  have hr := B.returns
  have hts := atoms_spec (ws := wsL_type) B.pre
  have hown : s.vm.findClass RL = some m.cls := findClass_of_methodNamed B.named
  have hlocks := B.notSynchronized
  have X := XW.of hI
  have htab : c.exceptionTable.toList = tableOf [(0, 10, 13, 13), (0, 10, 17, 15), (0, 10, 21, 17)] := vx_table (x := yL_type) B (hts (.codeWith yL_type cL_type 5 (some .int) [(0, 10, 13, 13), (0, 10, 17, 15), (0, 10, 21, 17)]) List.mem_cons_self)
  refine xe_in hav (Nat.le_of_ble_eq_true rfl) rfl (fun ls hl => ?_)
  rw [fL_type] at hf
  refine lv_aload_n hx hb dL_type_0 rfl (lv_at hl 3 rfl) ?_
  refine lv_iconst (v := (0 : Int32)) hx hb dL_type_1 rfl ?_
  refine lv_aload_n hx hb dL_type_2 rfl (lv_at hl 0 rfl) ?_
  refine lv_iload_n hx hb dL_type_3 rfl (lv_at hl 1 rfl) ?_
  refine lv_iload_n hx hb dL_type_4 rfl (lv_at hl 2 rfl) ?_
  refine xb hf (fun v1 hv1 hf => ?_)
  refine exb_c hf (fun e9 h9 hf => ?_) (fun r2 h9 hf => ?_)
  · refine xr_str hf (fun he hf => ?_) (fun hf => ?_)
    · subst he
      refine xt_VC (rest := [.int (0 : Int32), .ref (ad 24)]) ⟨hx, hb, hml, hown, hts⟩ (eX5_type htr (exo_p hv1 h9)) (cwV 2 hts gL_type_X5_type rfl rfl rfl hqX5_type ⟨Nat.le_of_ble_eq_true rfl, Nat.le_of_ble_eq_true rfl⟩) X hT (va_recv X.1 X.2.1 (ci := 1) (q0 := 14) rfl wlC_14) rfl hl.1 rfl (Nat.le_of_ble_eq_true rfl) dL_type_5 ⟨Nat.le_of_ble_eq_true rfl, Nat.le_of_ble_eq_true rfl⟩ [] ⟨0, 10, 13, 13⟩ [⟨0, 10, 17, 15⟩, ⟨0, 10, 21, 17⟩] htab xt_p0 (by decide) (by decide) (by decide +kernel) (by decide +kernel) (fun q9 H locs X => ?_)
      refine lv_astore (lv' := [(4, .ref q9), (0, .ref (ad 14)), (1, .int x1), (2, .int x2), (3, .ref (ad 24))]) hx hb dL_type_13 hl (by decide) rfl (fun ls hl => ?_)
      refine lv_iconst (v := (1 : Int32)) hx hb dL_type_15 rfl ?_
      cases hf
      exact xe_i6 hx hb hr hlocks X dL_type_16
    refine xr_str hf (fun he hf => ?_) (fun hf => ?_)
    · subst he
      refine xt_VC (rest := [.int (0 : Int32), .ref (ad 24)]) ⟨hx, hb, hml, hown, hts⟩ (eX5_type htr (exo_p hv1 h9)) (cwV 2 hts gL_type_X5_type rfl rfl rfl hqX5_type ⟨Nat.le_of_ble_eq_true rfl, Nat.le_of_ble_eq_true rfl⟩) X hT (va_recv X.1 X.2.1 (ci := 1) (q0 := 14) rfl wlC_14) rfl hl.1 rfl (Nat.le_of_ble_eq_true rfl) dL_type_5 ⟨Nat.le_of_ble_eq_true rfl, Nat.le_of_ble_eq_true rfl⟩ [⟨0, 10, 13, 13⟩] ⟨0, 10, 17, 15⟩ [⟨0, 10, 21, 17⟩] htab (xt_p1 hts hT (nm := "java/lang/IndexOutOfBoundsException") (by decide) (by decide +kernel) (by decide +kernel) xt_p0) (by decide) (by decide) (by decide +kernel) (by decide +kernel) (fun q9 H locs X => ?_)
      refine lv_astore (lv' := [(4, .ref q9), (0, .ref (ad 14)), (1, .int x1), (2, .int x2), (3, .ref (ad 24))]) hx hb dL_type_17 hl (by decide) rfl (fun ls hl => ?_)
      refine lv_iconst (v := (2 : Int32)) hx hb dL_type_19 rfl ?_
      cases hf
      exact xe_i6 hx hb hr hlocks X dL_type_20
    refine xr_str hf (fun he hf => ?_) (fun hf => ?_)
    · subst he
      refine xt_VC (rest := [.int (0 : Int32), .ref (ad 24)]) ⟨hx, hb, hml, hown, hts⟩ (eX5_type htr (exo_p hv1 h9)) (cwV 2 hts gL_type_X5_type rfl rfl rfl hqX5_type ⟨Nat.le_of_ble_eq_true rfl, Nat.le_of_ble_eq_true rfl⟩) X hT (va_recv X.1 X.2.1 (ci := 1) (q0 := 14) rfl wlC_14) rfl hl.1 rfl (Nat.le_of_ble_eq_true rfl) dL_type_5 ⟨Nat.le_of_ble_eq_true rfl, Nat.le_of_ble_eq_true rfl⟩ [⟨0, 10, 13, 13⟩, ⟨0, 10, 17, 15⟩] ⟨0, 10, 21, 17⟩ [] htab (xt_p1 hts hT (nm := "java/lang/IndexOutOfBoundsException") (by decide) (by decide +kernel) (by decide +kernel) (xt_p1 hts hT (nm := "java/lang/IllegalArgumentException") (by decide) (by decide +kernel) (by decide +kernel) xt_p0)) (by decide) (by decide) (by decide +kernel) (by decide +kernel) (fun q9 H locs X => ?_)
      refine lv_astore (lv' := [(4, .ref q9), (0, .ref (ad 14)), (1, .int x1), (2, .int x2), (3, .ref (ad 24))]) hx hb dL_type_21 hl (by decide) rfl (fun ls hl => ?_)
      refine lv_iconst (v := (3 : Int32)) hx hb dL_type_23 rfl ?_
      cases hf
      exact xe_i6 hx hb hr hlocks X dL_type_24
    cases hf
  · refine xc_V1 (rest := [.int (0 : Int32), .ref (ad 24)]) ⟨hx, hb, hml, hown, hts⟩ (mX5_type (exo_p hv1 h9)) (cwV 2 hts gL_type_X5_type rfl rfl rfl hqX5_type ⟨Nat.le_of_ble_eq_true rfl, Nat.le_of_ble_eq_true rfl⟩) X (va_recv X.1 X.2.1 (ci := 1) (q0 := 14) rfl wlC_14) rfl hl.1 rfl (Nat.le_of_ble_eq_true rfl) dL_type_5 ⟨Nat.zero_le _, Nat.zero_le _⟩ (fun H locs X => ?_)
    refine lv_i2l (v := (r2.toInt64)) hx hb dL_type_8 rfl ?_
    refine xa_last hx hb X 24 wlC_24 wlC_s_ol dL_type_9 hf (fun g3 H locs hf X => ?_)
    refine lv_goto (tgt := 25) hx hb dL_type_10 rfl ?_
    refine lv_iconst (v := (0 : Int32)) hx hb dL_type_25 rfl ?_
    cases hf
    refine W.widen (k := 1) (n := 6) (by decide) (by decide) ?_
    exact xe_i6 hx hb hr hlocks X dL_type_26
set_option maxRecDepth 100000 in
set_option maxHeartbeats 4000000 in
theorem mL_typeMore {l : Launch} {dd : va_G} {cy : Nat → ClassId} {ad : Nat → Nat} {A : Nat → Prop} {fu : Nat} {ts : Nat → Int32} {tc : Nat → Nat → Int32} {rk : Nat → Int32} {pl : Nat → Int32} {ru : Nat → Int64} {sl : Nat → Int32} {bg : Nat → Int32} {kn : Nat → Int64} {rm : Int32} {ol : Nat → Int64} {od : Nat → UInt64} {x1 : Int32} {x2 : Int32} {x3 : Int32} {x4 : Int32} {x5 : Int32} {x6 : Int32} {x7 : Int32} {x8 : Int32} {rv : Int32} {tso : Nat → Int32} {tco : Nat → Nat → Int32} {olo : Nat → Int64} (htr : l.stackTraces = false) (hf : fL_typeMore fu ts tc ol x1 x2 x3 x4 x5 x6 x7 x8 = some (rv, tso, tco, olo)) : Met l yL_typeMore wsL_typeMore { frames := 8, cells := 1, slots := 6, locals := 151 } (va_Pc [.ref (ad 14), .int x1, .int x2, .int x3, .int x4, .int x5, .int x6, .int x7, .int x8, .ref (ad 24)] (IT dd cy A (wlC ad cy ts tc rk pl ru sl bg kn rm ol od))) (QX dd cy A (some (.int rv)) (wlC ad cy tso tco rk pl ru sl bg kn rm olo od)) 1 6 A := by
  refine va_MetW (cc := cL_typeMore) (maxL := 11) (ret := some .int) (by decide) rfl ?_
  intro p e s m args below meth c s₁ B hml hv
  obtain ⟨hav, hI, hT⟩ := hv
  have hx := B.exec
  have hb := B.bytes
  have hr := B.returns
  have hts := atoms_spec (ws := wsL_typeMore) B.pre
  have hown : s.vm.findClass RL = some m.cls := findClass_of_methodNamed B.named
  have hlocks := B.notSynchronized
  have X := XW.of hI
  have htab : c.exceptionTable.toList = tableOf [(0, 22, 25, 13), (0, 22, 29, 15), (0, 22, 33, 17)] := vx_table (x := yL_typeMore) B (hts (.codeWith yL_typeMore cL_typeMore 11 (some .int) [(0, 22, 25, 13), (0, 22, 29, 15), (0, 22, 33, 17)]) List.mem_cons_self)
  refine xe_in hav (Nat.le_of_ble_eq_true rfl) rfl (fun ls hl => ?_)
  rw [fL_typeMore] at hf
  refine lv_aload hx hb dL_typeMore_0 (lv_at hl 9 rfl) ?_
  refine lv_iconst (v := (0 : Int32)) hx hb dL_typeMore_2 rfl ?_
  refine lv_aload_n hx hb dL_typeMore_3 rfl (lv_at hl 0 rfl) ?_
  refine lv_iload_n hx hb dL_typeMore_4 rfl (lv_at hl 1 rfl) ?_
  refine lv_iload_n hx hb dL_typeMore_5 rfl (lv_at hl 2 rfl) ?_
  refine lv_iload_n hx hb dL_typeMore_6 rfl (lv_at hl 3 rfl) ?_
  refine lv_iload hx hb dL_typeMore_7 (lv_at hl 4 rfl) ?_
  refine lv_iload hx hb dL_typeMore_9 (lv_at hl 5 rfl) ?_
  refine lv_iload hx hb dL_typeMore_11 (lv_at hl 6 rfl) ?_
  refine lv_iload hx hb dL_typeMore_13 (lv_at hl 7 rfl) ?_
  refine lv_iload hx hb dL_typeMore_15 (lv_at hl 8 rfl) ?_
  refine xb hf (fun v1 hv1 hf => ?_)
  refine exb_c hf (fun e9 h9 hf => ?_) (fun r2 h9 hf => ?_)
  · refine xr_str hf (fun he hf => ?_) (fun hf => ?_)
    · subst he
      refine xt_VC (rest := [.int (0 : Int32), .ref (ad 24)]) ⟨hx, hb, hml, hown, hts⟩ (eX5_typeMore htr (exo_p hv1 h9)) (cwV 8 hts gL_typeMore_X5_typeMore rfl rfl rfl hqX5_typeMore ⟨Nat.le_of_ble_eq_true rfl, Nat.le_of_ble_eq_true rfl⟩) X hT (va_recv X.1 X.2.1 (ci := 1) (q0 := 14) rfl wlC_14) rfl hl.1 rfl (Nat.le_of_ble_eq_true rfl) dL_typeMore_17 ⟨Nat.le_of_ble_eq_true rfl, Nat.le_of_ble_eq_true rfl⟩ [] ⟨0, 22, 25, 13⟩ [⟨0, 22, 29, 15⟩, ⟨0, 22, 33, 17⟩] htab xt_p0 (by decide) (by decide) (by decide +kernel) (by decide +kernel) (fun q9 H locs X => ?_)
      refine lv_astore (lv' := [(10, .ref q9), (0, .ref (ad 14)), (1, .int x1), (2, .int x2), (3, .int x3), (4, .int x4), (5, .int x5), (6, .int x6), (7, .int x7), (8, .int x8), (9, .ref (ad 24))]) hx hb dL_typeMore_25 hl (by decide) rfl (fun ls hl => ?_)
      refine lv_iconst (v := (1 : Int32)) hx hb dL_typeMore_27 rfl ?_
      cases hf
      exact xe_i6 hx hb hr hlocks X dL_typeMore_28
    refine xr_str hf (fun he hf => ?_) (fun hf => ?_)
    · subst he
      refine xt_VC (rest := [.int (0 : Int32), .ref (ad 24)]) ⟨hx, hb, hml, hown, hts⟩ (eX5_typeMore htr (exo_p hv1 h9)) (cwV 8 hts gL_typeMore_X5_typeMore rfl rfl rfl hqX5_typeMore ⟨Nat.le_of_ble_eq_true rfl, Nat.le_of_ble_eq_true rfl⟩) X hT (va_recv X.1 X.2.1 (ci := 1) (q0 := 14) rfl wlC_14) rfl hl.1 rfl (Nat.le_of_ble_eq_true rfl) dL_typeMore_17 ⟨Nat.le_of_ble_eq_true rfl, Nat.le_of_ble_eq_true rfl⟩ [⟨0, 22, 25, 13⟩] ⟨0, 22, 29, 15⟩ [⟨0, 22, 33, 17⟩] htab (xt_p1 hts hT (nm := "java/lang/IndexOutOfBoundsException") (by decide) (by decide +kernel) (by decide +kernel) xt_p0) (by decide) (by decide) (by decide +kernel) (by decide +kernel) (fun q9 H locs X => ?_)
      refine lv_astore (lv' := [(10, .ref q9), (0, .ref (ad 14)), (1, .int x1), (2, .int x2), (3, .int x3), (4, .int x4), (5, .int x5), (6, .int x6), (7, .int x7), (8, .int x8), (9, .ref (ad 24))]) hx hb dL_typeMore_29 hl (by decide) rfl (fun ls hl => ?_)
      refine lv_iconst (v := (2 : Int32)) hx hb dL_typeMore_31 rfl ?_
      cases hf
      exact xe_i6 hx hb hr hlocks X dL_typeMore_32
    refine xr_str hf (fun he hf => ?_) (fun hf => ?_)
    · subst he
      refine xt_VC (rest := [.int (0 : Int32), .ref (ad 24)]) ⟨hx, hb, hml, hown, hts⟩ (eX5_typeMore htr (exo_p hv1 h9)) (cwV 8 hts gL_typeMore_X5_typeMore rfl rfl rfl hqX5_typeMore ⟨Nat.le_of_ble_eq_true rfl, Nat.le_of_ble_eq_true rfl⟩) X hT (va_recv X.1 X.2.1 (ci := 1) (q0 := 14) rfl wlC_14) rfl hl.1 rfl (Nat.le_of_ble_eq_true rfl) dL_typeMore_17 ⟨Nat.le_of_ble_eq_true rfl, Nat.le_of_ble_eq_true rfl⟩ [⟨0, 22, 25, 13⟩, ⟨0, 22, 29, 15⟩] ⟨0, 22, 33, 17⟩ [] htab (xt_p1 hts hT (nm := "java/lang/IndexOutOfBoundsException") (by decide) (by decide +kernel) (by decide +kernel) (xt_p1 hts hT (nm := "java/lang/IllegalArgumentException") (by decide) (by decide +kernel) (by decide +kernel) xt_p0)) (by decide) (by decide) (by decide +kernel) (by decide +kernel) (fun q9 H locs X => ?_)
      refine lv_astore (lv' := [(10, .ref q9), (0, .ref (ad 14)), (1, .int x1), (2, .int x2), (3, .int x3), (4, .int x4), (5, .int x5), (6, .int x6), (7, .int x7), (8, .int x8), (9, .ref (ad 24))]) hx hb dL_typeMore_33 hl (by decide) rfl (fun ls hl => ?_)
      refine lv_iconst (v := (3 : Int32)) hx hb dL_typeMore_35 rfl ?_
      cases hf
      exact xe_i6 hx hb hr hlocks X dL_typeMore_36
    cases hf
  · refine xc_V1 (rest := [.int (0 : Int32), .ref (ad 24)]) ⟨hx, hb, hml, hown, hts⟩ (mX5_typeMore (exo_p hv1 h9)) (cwV 8 hts gL_typeMore_X5_typeMore rfl rfl rfl hqX5_typeMore ⟨Nat.le_of_ble_eq_true rfl, Nat.le_of_ble_eq_true rfl⟩) X (va_recv X.1 X.2.1 (ci := 1) (q0 := 14) rfl wlC_14) rfl hl.1 rfl (Nat.le_of_ble_eq_true rfl) dL_typeMore_17 ⟨Nat.zero_le _, Nat.zero_le _⟩ (fun H locs X => ?_)
    refine lv_i2l (v := (r2.toInt64)) hx hb dL_typeMore_20 rfl ?_
    refine xa_last hx hb X 24 wlC_24 wlC_s_ol dL_typeMore_21 hf (fun g3 H locs hf X => ?_)
    refine lv_goto (tgt := 37) hx hb dL_typeMore_22 rfl ?_
    refine lv_iconst (v := (0 : Int32)) hx hb dL_typeMore_37 rfl ?_
    cases hf
    refine W.widen (k := 1) (n := 6) (by decide) (by decide) ?_
    exact xe_i6 hx hb hr hlocks X dL_typeMore_38
set_option maxRecDepth 100000 in
set_option maxHeartbeats 4000000 in
theorem mL_erase {l : Launch} {dd : va_G} {cy : Nat → ClassId} {ad : Nat → Nat} {A : Nat → Prop} {ts : Nat → Int32} {tc : Nat → Nat → Int32} {rk : Nat → Int32} {pl : Nat → Int32} {ru : Nat → Int64} {sl : Nat → Int32} {bg : Nat → Int32} {kn : Nat → Int64} {rm : Int32} {ol : Nat → Int64} {od : Nat → UInt64} {x1 : Int32} {rv : Int32} {tso : Nat → Int32} {olo : Nat → Int64} (htr : l.stackTraces = false) (hf : fL_erase ts ol x1 = some (rv, tso, olo)) : Met l yL_erase wsL_erase { frames := 8, cells := 1, slots := 6, locals := 144 } (va_Pc [.ref (ad 14), .int x1, .ref (ad 24)] (IT dd cy A (wlC ad cy ts tc rk pl ru sl bg kn rm ol od))) (QX dd cy A (some (.int rv)) (wlC ad cy tso tc rk pl ru sl bg kn rm olo od)) 1 6 A := by
  refine va_MetW (cc := cL_erase) (maxL := 4) (ret := some .int) (by decide) rfl ?_
  intro p e s m args below meth c s₁ B hml hv
  obtain ⟨hav, hI, hT⟩ := hv
  have hx := B.exec
  have hb := B.bytes
  have hr := B.returns
  have hts := atoms_spec (ws := wsL_erase) B.pre
  have hown : s.vm.findClass RL = some m.cls := findClass_of_methodNamed B.named
  have hlocks := B.notSynchronized
  have X := XW.of hI
  have htab : c.exceptionTable.toList = tableOf [(0, 9, 12, 13)] := vx_table (x := yL_erase) B (hts (.codeWith yL_erase cL_erase 4 (some .int) [(0, 9, 12, 13)]) List.mem_cons_self)
  refine xe_in hav (Nat.le_of_ble_eq_true rfl) rfl (fun ls hl => ?_)
  rw [fL_erase] at hf
  refine lv_aload_n hx hb dL_erase_0 rfl (lv_at hl 2 rfl) ?_
  refine lv_iconst (v := (0 : Int32)) hx hb dL_erase_1 rfl ?_
  refine lv_aload_n hx hb dL_erase_2 rfl (lv_at hl 0 rfl) ?_
  refine lv_iload_n hx hb dL_erase_3 rfl (lv_at hl 1 rfl) ?_
  refine xb hf (fun v1 hv1 hf => ?_)
  refine exb_c hf (fun e9 h9 hf => ?_) (fun r2 h9 hf => ?_)
  · refine xr_str hf (fun he hf => ?_) (fun hf => ?_)
    · subst he
      refine xt_VC (rest := [.int (0 : Int32), .ref (ad 24)]) ⟨hx, hb, hml, hown, hts⟩ (eX5_erase htr (exo_p hv1 h9)) (cwV 1 hts gL_erase_X5_erase rfl rfl rfl hqX5_erase ⟨Nat.le_of_ble_eq_true rfl, Nat.le_of_ble_eq_true rfl⟩) X hT (va_recv X.1 X.2.1 (ci := 1) (q0 := 14) rfl wlC_14) rfl hl.1 rfl (Nat.le_of_ble_eq_true rfl) dL_erase_4 ⟨Nat.le_of_ble_eq_true rfl, Nat.le_of_ble_eq_true rfl⟩ [] ⟨0, 9, 12, 13⟩ [] htab xt_p0 (by decide) (by decide) (by decide +kernel) (by decide +kernel) (fun q9 H locs X => ?_)
      refine lv_astore_n (lv' := [(3, .ref q9), (0, .ref (ad 14)), (1, .int x1), (2, .ref (ad 24))]) hx hb dL_erase_12 rfl hl (by decide) rfl (fun ls hl => ?_)
      refine lv_iconst (v := (1 : Int32)) hx hb dL_erase_13 rfl ?_
      cases hf
      exact xe_i6 hx hb hr hlocks X dL_erase_14
    cases hf
  · refine xc_V1 (rest := [.int (0 : Int32), .ref (ad 24)]) ⟨hx, hb, hml, hown, hts⟩ (mX5_erase (exo_p hv1 h9)) (cwV 1 hts gL_erase_X5_erase rfl rfl rfl hqX5_erase ⟨Nat.le_of_ble_eq_true rfl, Nat.le_of_ble_eq_true rfl⟩) X (va_recv X.1 X.2.1 (ci := 1) (q0 := 14) rfl wlC_14) rfl hl.1 rfl (Nat.le_of_ble_eq_true rfl) dL_erase_4 ⟨Nat.zero_le _, Nat.zero_le _⟩ (fun H locs X => ?_)
    refine lv_i2l (v := (r2.toInt64)) hx hb dL_erase_7 rfl ?_
    refine xa_last hx hb X 24 wlC_24 wlC_s_ol dL_erase_8 hf (fun g3 H locs hf X => ?_)
    refine lv_goto (tgt := 15) hx hb dL_erase_9 rfl ?_
    refine lv_iconst (v := (0 : Int32)) hx hb dL_erase_15 rfl ?_
    cases hf
    refine W.widen (k := 1) (n := 6) (by decide) (by decide) ?_
    exact xe_i6 hx hb hr hlocks X dL_erase_16
set_option maxRecDepth 100000 in
set_option maxHeartbeats 4000000 in
theorem mL_length {l : Launch} {dd : va_G} {cy : Nat → ClassId} {ad : Nat → Nat} {A : Nat → Prop} {ts : Nat → Int32} {tc : Nat → Nat → Int32} {rk : Nat → Int32} {pl : Nat → Int32} {ru : Nat → Int64} {sl : Nat → Int32} {bg : Nat → Int32} {kn : Nat → Int64} {rm : Int32} {ol : Nat → Int64} {od : Nat → UInt64} {x1 : Int32} {rv : Int32} {olo : Nat → Int64} (htr : l.stackTraces = false) (hf : fL_length ts ol x1 = some (rv, olo)) : Met l yL_length wsL_length { frames := 8, cells := 1, slots := 6, locals := 142 } (va_Pc [.ref (ad 14), .int x1, .ref (ad 24)] (IT dd cy A (wlC ad cy ts tc rk pl ru sl bg kn rm ol od))) (QX dd cy A (some (.int rv)) (wlC ad cy ts tc rk pl ru sl bg kn rm olo od)) 1 6 A := by
  refine va_MetW (cc := cL_length) (maxL := 4) (ret := some .int) (by decide) rfl ?_
  intro p e s m args below meth c s₁ B hml hv
  obtain ⟨hav, hI, hT⟩ := hv
  have hx := B.exec
  have hb := B.bytes
  have hr := B.returns
  have hts := atoms_spec (ws := wsL_length) B.pre
  have hown : s.vm.findClass RL = some m.cls := findClass_of_methodNamed B.named
  have hlocks := B.notSynchronized
  have X := XW.of hI
  have htab : c.exceptionTable.toList = tableOf [(0, 9, 12, 13)] := vx_table (x := yL_length) B (hts (.codeWith yL_length cL_length 4 (some .int) [(0, 9, 12, 13)]) List.mem_cons_self)
  refine xe_in hav (Nat.le_of_ble_eq_true rfl) rfl (fun ls hl => ?_)
  rw [fL_length] at hf
  refine lv_aload_n hx hb dL_length_0 rfl (lv_at hl 2 rfl) ?_
  refine lv_iconst (v := (0 : Int32)) hx hb dL_length_1 rfl ?_
  refine lv_aload_n hx hb dL_length_2 rfl (lv_at hl 0 rfl) ?_
  refine lv_iload_n hx hb dL_length_3 rfl (lv_at hl 1 rfl) ?_
  refine xb hf (fun v1 hv1 hf => ?_)
  refine exb_c hf (fun e9 h9 hf => ?_) (fun r2 h9 hf => ?_)
  · refine xr_str hf (fun he hf => ?_) (fun hf => ?_)
    · subst he
      refine xt_VC (rest := [.int (0 : Int32), .ref (ad 24)]) ⟨hx, hb, hml, hown, hts⟩ (eX5_length htr (exo_s hv1 h9)) (cwV 1 hts gL_length_X5_length rfl rfl rfl hqX5_length ⟨Nat.le_of_ble_eq_true rfl, Nat.le_of_ble_eq_true rfl⟩) X hT (va_recv X.1 X.2.1 (ci := 1) (q0 := 14) rfl wlC_14) rfl hl.1 rfl (Nat.le_of_ble_eq_true rfl) dL_length_4 ⟨Nat.le_of_ble_eq_true rfl, Nat.le_of_ble_eq_true rfl⟩ [] ⟨0, 9, 12, 13⟩ [] htab xt_p0 (by decide) (by decide) (by decide +kernel) (by decide +kernel) (fun q9 H locs X => ?_)
      refine lv_astore_n (lv' := [(3, .ref q9), (0, .ref (ad 14)), (1, .int x1), (2, .ref (ad 24))]) hx hb dL_length_12 rfl hl (by decide) rfl (fun ls hl => ?_)
      refine lv_iconst (v := (1 : Int32)) hx hb dL_length_13 rfl ?_
      cases hf
      exact xe_i6 hx hb hr hlocks X dL_length_14
    cases hf
  · refine xc_V1 (rest := [.int (0 : Int32), .ref (ad 24)]) ⟨hx, hb, hml, hown, hts⟩ (mX5_length (exo_s hv1 h9)) (cwV 1 hts gL_length_X5_length rfl rfl rfl hqX5_length ⟨Nat.le_of_ble_eq_true rfl, Nat.le_of_ble_eq_true rfl⟩) X (va_recv X.1 X.2.1 (ci := 1) (q0 := 14) rfl wlC_14) rfl hl.1 rfl (Nat.le_of_ble_eq_true rfl) dL_length_4 ⟨Nat.zero_le _, Nat.zero_le _⟩ (fun H locs X => ?_)
    refine lv_i2l (v := (r2.toInt64)) hx hb dL_length_7 rfl ?_
    refine xa_last hx hb X 24 wlC_24 wlC_s_ol dL_length_8 hf (fun g3 H locs hf X => ?_)
    refine lv_goto (tgt := 15) hx hb dL_length_9 rfl ?_
    refine lv_iconst (v := (0 : Int32)) hx hb dL_length_15 rfl ?_
    cases hf
    refine W.widen (k := 1) (n := 6) (by decide) (by decide) ?_
    exact xe_i6 hx hb hr hlocks X dL_length_16
set_option maxRecDepth 100000 in
set_option maxHeartbeats 4000000 in
theorem mL_signAt {l : Launch} {dd : va_G} {cy : Nat → ClassId} {ad : Nat → Nat} {A : Nat → Prop} {ts : Nat → Int32} {tc : Nat → Nat → Int32} {rk : Nat → Int32} {pl : Nat → Int32} {ru : Nat → Int64} {sl : Nat → Int32} {bg : Nat → Int32} {kn : Nat → Int64} {rm : Int32} {ol : Nat → Int64} {od : Nat → UInt64} {x1 : Int32} {x2 : Int32} {rv : Int32} {olo : Nat → Int64} (htr : l.stackTraces = false) (hf : fL_signAt ts tc ol x1 x2 = some (rv, olo)) : Met l yL_signAt wsL_signAt { frames := 8, cells := 1, slots := 6, locals := 144 } (va_Pc [.ref (ad 14), .int x1, .int x2, .ref (ad 24)] (IT dd cy A (wlC ad cy ts tc rk pl ru sl bg kn rm ol od))) (QX dd cy A (some (.int rv)) (wlC ad cy ts tc rk pl ru sl bg kn rm olo od)) 1 6 A := by
  refine va_MetW (cc := cL_signAt) (maxL := 5) (ret := some .int) (by decide) rfl ?_
  intro p e s m args below meth c s₁ B hml hv
  obtain ⟨hav, hI, hT⟩ := hv
  have hx := B.exec
  have hb := B.bytes
  have hr := B.returns
  have hts := atoms_spec (ws := wsL_signAt) B.pre
  have hown : s.vm.findClass RL = some m.cls := findClass_of_methodNamed B.named
  have hlocks := B.notSynchronized
  have X := XW.of hI
  have htab : c.exceptionTable.toList = tableOf [(0, 10, 13, 13)] := vx_table (x := yL_signAt) B (hts (.codeWith yL_signAt cL_signAt 5 (some .int) [(0, 10, 13, 13)]) List.mem_cons_self)
  refine xe_in hav (Nat.le_of_ble_eq_true rfl) rfl (fun ls hl => ?_)
  rw [fL_signAt] at hf
  refine lv_aload_n hx hb dL_signAt_0 rfl (lv_at hl 3 rfl) ?_
  refine lv_iconst (v := (0 : Int32)) hx hb dL_signAt_1 rfl ?_
  refine lv_aload_n hx hb dL_signAt_2 rfl (lv_at hl 0 rfl) ?_
  refine lv_iload_n hx hb dL_signAt_3 rfl (lv_at hl 1 rfl) ?_
  refine lv_iload_n hx hb dL_signAt_4 rfl (lv_at hl 2 rfl) ?_
  refine xb hf (fun v1 hv1 hf => ?_)
  refine exb_c hf (fun e9 h9 hf => ?_) (fun r2 h9 hf => ?_)
  · refine xr_str hf (fun he hf => ?_) (fun hf => ?_)
    · subst he
      refine xt_VC (rest := [.int (0 : Int32), .ref (ad 24)]) ⟨hx, hb, hml, hown, hts⟩ (eX5_signAt htr (exo_s hv1 h9)) (cwV 2 hts gL_signAt_X5_signAt rfl rfl rfl hqX5_signAt ⟨Nat.le_of_ble_eq_true rfl, Nat.le_of_ble_eq_true rfl⟩) X hT (va_recv X.1 X.2.1 (ci := 1) (q0 := 14) rfl wlC_14) rfl hl.1 rfl (Nat.le_of_ble_eq_true rfl) dL_signAt_5 ⟨Nat.le_of_ble_eq_true rfl, Nat.le_of_ble_eq_true rfl⟩ [] ⟨0, 10, 13, 13⟩ [] htab xt_p0 (by decide) (by decide) (by decide +kernel) (by decide +kernel) (fun q9 H locs X => ?_)
      refine lv_astore (lv' := [(4, .ref q9), (0, .ref (ad 14)), (1, .int x1), (2, .int x2), (3, .ref (ad 24))]) hx hb dL_signAt_13 hl (by decide) rfl (fun ls hl => ?_)
      refine lv_iconst (v := (1 : Int32)) hx hb dL_signAt_15 rfl ?_
      cases hf
      exact xe_i6 hx hb hr hlocks X dL_signAt_16
    cases hf
  · refine xc_V1 (rest := [.int (0 : Int32), .ref (ad 24)]) ⟨hx, hb, hml, hown, hts⟩ (mX5_signAt (exo_s hv1 h9)) (cwV 2 hts gL_signAt_X5_signAt rfl rfl rfl hqX5_signAt ⟨Nat.le_of_ble_eq_true rfl, Nat.le_of_ble_eq_true rfl⟩) X (va_recv X.1 X.2.1 (ci := 1) (q0 := 14) rfl wlC_14) rfl hl.1 rfl (Nat.le_of_ble_eq_true rfl) dL_signAt_5 ⟨Nat.zero_le _, Nat.zero_le _⟩ (fun H locs X => ?_)
    refine lv_i2l (v := (r2.toInt64)) hx hb dL_signAt_8 rfl ?_
    refine xa_last hx hb X 24 wlC_24 wlC_s_ol dL_signAt_9 hf (fun g3 H locs hf X => ?_)
    refine lv_goto (tgt := 17) hx hb dL_signAt_10 rfl ?_
    refine lv_iconst (v := (0 : Int32)) hx hb dL_signAt_17 rfl ?_
    cases hf
    refine W.widen (k := 1) (n := 6) (by decide) (by decide) ?_
    exact xe_i6 hx hb hr hlocks X dL_signAt_18
set_option maxRecDepth 100000 in
set_option maxHeartbeats 4000000 in
theorem mL_join {l : Launch} {dd : va_G} {cy : Nat → ClassId} {ad : Nat → Nat} {A : Nat → Prop} {fu : Nat} {ts : Nat → Int32} {tc : Nat → Nat → Int32} {rk : Nat → Int32} {pl : Nat → Int32} {ru : Nat → Int64} {sl : Nat → Int32} {bg : Nat → Int32} {kn : Nat → Int64} {rm : Int32} {ol : Nat → Int64} {od : Nat → UInt64} {x1 : Int32} {x2 : Int32} {x3 : Int32} {rv : Int32} {tso : Nat → Int32} {tco : Nat → Nat → Int32} {olo : Nat → Int64} (htr : l.stackTraces = false) (hf : fL_join fu ts tc ol x1 x2 x3 = some (rv, tso, tco, olo)) : Met l yL_join wsL_join { frames := 8, cells := 1, slots := 6, locals := 147 } (va_Pc [.ref (ad 14), .int x1, .int x2, .int x3, .ref (ad 24)] (IT dd cy A (wlC ad cy ts tc rk pl ru sl bg kn rm ol od))) (QX dd cy A (some (.int rv)) (wlC ad cy tso tco rk pl ru sl bg kn rm olo od)) 1 6 A := by
  refine va_MetW (cc := cL_join) (maxL := 6) (ret := some .int) (by decide) rfl ?_
  intro p e s m args below meth c s₁ B hml hv
  obtain ⟨hav, hI, hT⟩ := hv
  have hx := B.exec
  have hb := B.bytes
  have hr := B.returns
  have hts := atoms_spec (ws := wsL_join) B.pre
  have hown : s.vm.findClass RL = some m.cls := findClass_of_methodNamed B.named
  have hlocks := B.notSynchronized
  have X := XW.of hI
  have htab : c.exceptionTable.toList = tableOf [(0, 12, 15, 13), (0, 12, 19, 17)] := vx_table (x := yL_join) B (hts (.codeWith yL_join cL_join 6 (some .int) [(0, 12, 15, 13), (0, 12, 19, 17)]) List.mem_cons_self)
  refine xe_in hav (Nat.le_of_ble_eq_true rfl) rfl (fun ls hl => ?_)
  rw [fL_join] at hf
  refine lv_aload hx hb dL_join_0 (lv_at hl 4 rfl) ?_
  refine lv_iconst (v := (0 : Int32)) hx hb dL_join_2 rfl ?_
  refine lv_aload_n hx hb dL_join_3 rfl (lv_at hl 0 rfl) ?_
  refine lv_iload_n hx hb dL_join_4 rfl (lv_at hl 1 rfl) ?_
  refine lv_iload_n hx hb dL_join_5 rfl (lv_at hl 2 rfl) ?_
  refine lv_iload_n hx hb dL_join_6 rfl (lv_at hl 3 rfl) ?_
  refine xb hf (fun v1 hv1 hf => ?_)
  refine exb_c hf (fun e9 h9 hf => ?_) (fun r2 h9 hf => ?_)
  · refine xr_str hf (fun he hf => ?_) (fun hf => ?_)
    · subst he
      refine xt_VC (rest := [.int (0 : Int32), .ref (ad 24)]) ⟨hx, hb, hml, hown, hts⟩ (eX5_join htr (exo_p hv1 h9)) (cwV 3 hts gL_join_X5_join rfl rfl rfl hqX5_join ⟨Nat.le_of_ble_eq_true rfl, Nat.le_of_ble_eq_true rfl⟩) X hT (va_recv X.1 X.2.1 (ci := 1) (q0 := 14) rfl wlC_14) rfl hl.1 rfl (Nat.le_of_ble_eq_true rfl) dL_join_7 ⟨Nat.le_of_ble_eq_true rfl, Nat.le_of_ble_eq_true rfl⟩ [] ⟨0, 12, 15, 13⟩ [⟨0, 12, 19, 17⟩] htab xt_p0 (by decide) (by decide) (by decide +kernel) (by decide +kernel) (fun q9 H locs X => ?_)
      refine lv_astore (lv' := [(5, .ref q9), (0, .ref (ad 14)), (1, .int x1), (2, .int x2), (3, .int x3), (4, .ref (ad 24))]) hx hb dL_join_15 hl (by decide) rfl (fun ls hl => ?_)
      refine lv_iconst (v := (1 : Int32)) hx hb dL_join_17 rfl ?_
      cases hf
      exact xe_i6 hx hb hr hlocks X dL_join_18
    refine xr_str hf (fun he hf => ?_) (fun hf => ?_)
    · subst he
      refine xt_VC (rest := [.int (0 : Int32), .ref (ad 24)]) ⟨hx, hb, hml, hown, hts⟩ (eX5_join htr (exo_p hv1 h9)) (cwV 3 hts gL_join_X5_join rfl rfl rfl hqX5_join ⟨Nat.le_of_ble_eq_true rfl, Nat.le_of_ble_eq_true rfl⟩) X hT (va_recv X.1 X.2.1 (ci := 1) (q0 := 14) rfl wlC_14) rfl hl.1 rfl (Nat.le_of_ble_eq_true rfl) dL_join_7 ⟨Nat.le_of_ble_eq_true rfl, Nat.le_of_ble_eq_true rfl⟩ [⟨0, 12, 15, 13⟩] ⟨0, 12, 19, 17⟩ [] htab (xt_p1 hts hT (nm := "java/lang/IndexOutOfBoundsException") (by decide) (by decide +kernel) (by decide +kernel) xt_p0) (by decide) (by decide) (by decide +kernel) (by decide +kernel) (fun q9 H locs X => ?_)
      refine lv_astore (lv' := [(5, .ref q9), (0, .ref (ad 14)), (1, .int x1), (2, .int x2), (3, .int x3), (4, .ref (ad 24))]) hx hb dL_join_19 hl (by decide) rfl (fun ls hl => ?_)
      refine lv_iconst (v := (2 : Int32)) hx hb dL_join_21 rfl ?_
      cases hf
      exact xe_i6 hx hb hr hlocks X dL_join_22
    cases hf
  · refine xc_V1 (rest := [.int (0 : Int32), .ref (ad 24)]) ⟨hx, hb, hml, hown, hts⟩ (mX5_join (exo_p hv1 h9)) (cwV 3 hts gL_join_X5_join rfl rfl rfl hqX5_join ⟨Nat.le_of_ble_eq_true rfl, Nat.le_of_ble_eq_true rfl⟩) X (va_recv X.1 X.2.1 (ci := 1) (q0 := 14) rfl wlC_14) rfl hl.1 rfl (Nat.le_of_ble_eq_true rfl) dL_join_7 ⟨Nat.zero_le _, Nat.zero_le _⟩ (fun H locs X => ?_)
    refine lv_i2l (v := (r2.toInt64)) hx hb dL_join_10 rfl ?_
    refine xa_last hx hb X 24 wlC_24 wlC_s_ol dL_join_11 hf (fun g3 H locs hf X => ?_)
    refine lv_goto (tgt := 23) hx hb dL_join_12 rfl ?_
    refine lv_iconst (v := (0 : Int32)) hx hb dL_join_23 rfl ?_
    cases hf
    refine W.widen (k := 1) (n := 6) (by decide) (by decide) ?_
    exact xe_i6 hx hb hr hlocks X dL_join_24
set_option maxRecDepth 100000 in
set_option maxHeartbeats 4000000 in
theorem mL_repeat {l : Launch} {dd : va_G} {cy : Nat → ClassId} {ad : Nat → Nat} {A : Nat → Prop} {fu : Nat} {ts : Nat → Int32} {tc : Nat → Nat → Int32} {rk : Nat → Int32} {pl : Nat → Int32} {ru : Nat → Int64} {sl : Nat → Int32} {bg : Nat → Int32} {kn : Nat → Int64} {rm : Int32} {ol : Nat → Int64} {od : Nat → UInt64} {x1 : Int32} {x2 : Int32} {x3 : Int32} {rv : Int32} {tso : Nat → Int32} {tco : Nat → Nat → Int32} {olo : Nat → Int64} (htr : l.stackTraces = false) (hf : fL_repeat fu ts tc ol x1 x2 x3 = some (rv, tso, tco, olo)) : Met l yL_repeat wsL_repeat { frames := 8, cells := 1, slots := 6, locals := 148 } (va_Pc [.ref (ad 14), .int x1, .int x2, .int x3, .ref (ad 24)] (IT dd cy A (wlC ad cy ts tc rk pl ru sl bg kn rm ol od))) (QX dd cy A (some (.int rv)) (wlC ad cy tso tco rk pl ru sl bg kn rm olo od)) 1 6 A := by
  refine va_MetW (cc := cL_repeat) (maxL := 6) (ret := some .int) (by decide) rfl ?_
  intro p e s m args below meth c s₁ B hml hv
  obtain ⟨hav, hI, hT⟩ := hv
  have hx := B.exec
  have hb := B.bytes
  have hr := B.returns
  have hts := atoms_spec (ws := wsL_repeat) B.pre
  have hown : s.vm.findClass RL = some m.cls := findClass_of_methodNamed B.named
  have hlocks := B.notSynchronized
  have X := XW.of hI
  have htab : c.exceptionTable.toList = tableOf [(0, 12, 15, 13), (0, 12, 19, 15), (0, 12, 23, 17)] := vx_table (x := yL_repeat) B (hts (.codeWith yL_repeat cL_repeat 6 (some .int) [(0, 12, 15, 13), (0, 12, 19, 15), (0, 12, 23, 17)]) List.mem_cons_self)
  refine xe_in hav (Nat.le_of_ble_eq_true rfl) rfl (fun ls hl => ?_)
  rw [fL_repeat] at hf
  refine lv_aload hx hb dL_repeat_0 (lv_at hl 4 rfl) ?_
  refine lv_iconst (v := (0 : Int32)) hx hb dL_repeat_2 rfl ?_
  refine lv_aload_n hx hb dL_repeat_3 rfl (lv_at hl 0 rfl) ?_
  refine lv_iload_n hx hb dL_repeat_4 rfl (lv_at hl 1 rfl) ?_
  refine lv_iload_n hx hb dL_repeat_5 rfl (lv_at hl 2 rfl) ?_
  refine lv_iload_n hx hb dL_repeat_6 rfl (lv_at hl 3 rfl) ?_
  refine xb hf (fun v1 hv1 hf => ?_)
  refine exb_c hf (fun e9 h9 hf => ?_) (fun r2 h9 hf => ?_)
  · refine xr_str hf (fun he hf => ?_) (fun hf => ?_)
    · subst he
      refine xt_VC (rest := [.int (0 : Int32), .ref (ad 24)]) ⟨hx, hb, hml, hown, hts⟩ (eX5_repeat htr (exo_p hv1 h9)) (cwV 3 hts gL_repeat_X5_repeat rfl rfl rfl hqX5_repeat ⟨Nat.le_of_ble_eq_true rfl, Nat.le_of_ble_eq_true rfl⟩) X hT (va_recv X.1 X.2.1 (ci := 1) (q0 := 14) rfl wlC_14) rfl hl.1 rfl (Nat.le_of_ble_eq_true rfl) dL_repeat_7 ⟨Nat.le_of_ble_eq_true rfl, Nat.le_of_ble_eq_true rfl⟩ [] ⟨0, 12, 15, 13⟩ [⟨0, 12, 19, 15⟩, ⟨0, 12, 23, 17⟩] htab xt_p0 (by decide) (by decide) (by decide +kernel) (by decide +kernel) (fun q9 H locs X => ?_)
      refine lv_astore (lv' := [(5, .ref q9), (0, .ref (ad 14)), (1, .int x1), (2, .int x2), (3, .int x3), (4, .ref (ad 24))]) hx hb dL_repeat_15 hl (by decide) rfl (fun ls hl => ?_)
      refine lv_iconst (v := (1 : Int32)) hx hb dL_repeat_17 rfl ?_
      cases hf
      exact xe_i6 hx hb hr hlocks X dL_repeat_18
    refine xr_str hf (fun he hf => ?_) (fun hf => ?_)
    · subst he
      refine xt_VC (rest := [.int (0 : Int32), .ref (ad 24)]) ⟨hx, hb, hml, hown, hts⟩ (eX5_repeat htr (exo_p hv1 h9)) (cwV 3 hts gL_repeat_X5_repeat rfl rfl rfl hqX5_repeat ⟨Nat.le_of_ble_eq_true rfl, Nat.le_of_ble_eq_true rfl⟩) X hT (va_recv X.1 X.2.1 (ci := 1) (q0 := 14) rfl wlC_14) rfl hl.1 rfl (Nat.le_of_ble_eq_true rfl) dL_repeat_7 ⟨Nat.le_of_ble_eq_true rfl, Nat.le_of_ble_eq_true rfl⟩ [⟨0, 12, 15, 13⟩] ⟨0, 12, 19, 15⟩ [⟨0, 12, 23, 17⟩] htab (xt_p1 hts hT (nm := "java/lang/IndexOutOfBoundsException") (by decide) (by decide +kernel) (by decide +kernel) xt_p0) (by decide) (by decide) (by decide +kernel) (by decide +kernel) (fun q9 H locs X => ?_)
      refine lv_astore (lv' := [(5, .ref q9), (0, .ref (ad 14)), (1, .int x1), (2, .int x2), (3, .int x3), (4, .ref (ad 24))]) hx hb dL_repeat_19 hl (by decide) rfl (fun ls hl => ?_)
      refine lv_iconst (v := (2 : Int32)) hx hb dL_repeat_21 rfl ?_
      cases hf
      exact xe_i6 hx hb hr hlocks X dL_repeat_22
    refine xr_str hf (fun he hf => ?_) (fun hf => ?_)
    · subst he
      refine xt_VC (rest := [.int (0 : Int32), .ref (ad 24)]) ⟨hx, hb, hml, hown, hts⟩ (eX5_repeat htr (exo_p hv1 h9)) (cwV 3 hts gL_repeat_X5_repeat rfl rfl rfl hqX5_repeat ⟨Nat.le_of_ble_eq_true rfl, Nat.le_of_ble_eq_true rfl⟩) X hT (va_recv X.1 X.2.1 (ci := 1) (q0 := 14) rfl wlC_14) rfl hl.1 rfl (Nat.le_of_ble_eq_true rfl) dL_repeat_7 ⟨Nat.le_of_ble_eq_true rfl, Nat.le_of_ble_eq_true rfl⟩ [⟨0, 12, 15, 13⟩, ⟨0, 12, 19, 15⟩] ⟨0, 12, 23, 17⟩ [] htab (xt_p1 hts hT (nm := "java/lang/IndexOutOfBoundsException") (by decide) (by decide +kernel) (by decide +kernel) (xt_p1 hts hT (nm := "java/lang/IllegalArgumentException") (by decide) (by decide +kernel) (by decide +kernel) xt_p0)) (by decide) (by decide) (by decide +kernel) (by decide +kernel) (fun q9 H locs X => ?_)
      refine lv_astore (lv' := [(5, .ref q9), (0, .ref (ad 14)), (1, .int x1), (2, .int x2), (3, .int x3), (4, .ref (ad 24))]) hx hb dL_repeat_23 hl (by decide) rfl (fun ls hl => ?_)
      refine lv_iconst (v := (3 : Int32)) hx hb dL_repeat_25 rfl ?_
      cases hf
      exact xe_i6 hx hb hr hlocks X dL_repeat_26
    cases hf
  · refine xc_V1 (rest := [.int (0 : Int32), .ref (ad 24)]) ⟨hx, hb, hml, hown, hts⟩ (mX5_repeat (exo_p hv1 h9)) (cwV 3 hts gL_repeat_X5_repeat rfl rfl rfl hqX5_repeat ⟨Nat.le_of_ble_eq_true rfl, Nat.le_of_ble_eq_true rfl⟩) X (va_recv X.1 X.2.1 (ci := 1) (q0 := 14) rfl wlC_14) rfl hl.1 rfl (Nat.le_of_ble_eq_true rfl) dL_repeat_7 ⟨Nat.zero_le _, Nat.zero_le _⟩ (fun H locs X => ?_)
    refine lv_i2l (v := (r2.toInt64)) hx hb dL_repeat_10 rfl ?_
    refine xa_last hx hb X 24 wlC_24 wlC_s_ol dL_repeat_11 hf (fun g3 H locs hf X => ?_)
    refine lv_goto (tgt := 27) hx hb dL_repeat_12 rfl ?_
    refine lv_iconst (v := (0 : Int32)) hx hb dL_repeat_27 rfl ?_
    cases hf
    refine W.widen (k := 1) (n := 6) (by decide) (by decide) ?_
    exact xe_i6 hx hb hr hlocks X dL_repeat_28
set_option maxRecDepth 100000 in
set_option maxHeartbeats 4000000 in
theorem mL_part {l : Launch} {dd : va_G} {cy : Nat → ClassId} {ad : Nat → Nat} {A : Nat → Prop} {fu : Nat} {ts : Nat → Int32} {tc : Nat → Nat → Int32} {rk : Nat → Int32} {pl : Nat → Int32} {ru : Nat → Int64} {sl : Nat → Int32} {bg : Nat → Int32} {kn : Nat → Int64} {rm : Int32} {ol : Nat → Int64} {od : Nat → UInt64} {x1 : Int32} {x2 : Int32} {x3 : Int32} {x4 : Int32} {rv : Int32} {tso : Nat → Int32} {tco : Nat → Nat → Int32} {olo : Nat → Int64} (htr : l.stackTraces = false) (hf : fL_part fu ts tc ol x1 x2 x3 x4 = some (rv, tso, tco, olo)) : Met l yL_part wsL_part { frames := 8, cells := 1, slots := 6, locals := 158 } (va_Pc [.ref (ad 14), .int x1, .int x2, .int x3, .int x4, .ref (ad 24)] (IT dd cy A (wlC ad cy ts tc rk pl ru sl bg kn rm ol od))) (QX dd cy A (some (.int rv)) (wlC ad cy tso tco rk pl ru sl bg kn rm olo od)) 1 6 A := by
  refine va_MetW (cc := cL_part) (maxL := 7) (ret := some .int) (by decide) rfl ?_
  intro p e s m args below meth c s₁ B hml hv
  obtain ⟨hav, hI, hT⟩ := hv
  have hx := B.exec
  have hb := B.bytes
  have hr := B.returns
  have hts := atoms_spec (ws := wsL_part) B.pre
  have hown : s.vm.findClass RL = some m.cls := findClass_of_methodNamed B.named
  have hlocks := B.notSynchronized
  have X := XW.of hI
  have htab : c.exceptionTable.toList = tableOf [(0, 14, 17, 13)] := vx_table (x := yL_part) B (hts (.codeWith yL_part cL_part 7 (some .int) [(0, 14, 17, 13)]) List.mem_cons_self)
  refine xe_in hav (Nat.le_of_ble_eq_true rfl) rfl (fun ls hl => ?_)
  rw [fL_part] at hf
  refine lv_aload hx hb dL_part_0 (lv_at hl 5 rfl) ?_
  refine lv_iconst (v := (0 : Int32)) hx hb dL_part_2 rfl ?_
  refine lv_aload_n hx hb dL_part_3 rfl (lv_at hl 0 rfl) ?_
  refine lv_iload_n hx hb dL_part_4 rfl (lv_at hl 1 rfl) ?_
  refine lv_iload_n hx hb dL_part_5 rfl (lv_at hl 2 rfl) ?_
  refine lv_iload_n hx hb dL_part_6 rfl (lv_at hl 3 rfl) ?_
  refine lv_iload hx hb dL_part_7 (lv_at hl 4 rfl) ?_
  refine xb hf (fun v1 hv1 hf => ?_)
  refine exb_c hf (fun e9 h9 hf => ?_) (fun r2 h9 hf => ?_)
  · refine xr_str hf (fun he hf => ?_) (fun hf => ?_)
    · subst he
      refine xt_VC (rest := [.int (0 : Int32), .ref (ad 24)]) ⟨hx, hb, hml, hown, hts⟩ (eX5_part htr (exo_p hv1 h9)) (cwV 4 hts gL_part_X5_part rfl rfl rfl hqX5_part ⟨Nat.le_of_ble_eq_true rfl, Nat.le_of_ble_eq_true rfl⟩) X hT (va_recv X.1 X.2.1 (ci := 1) (q0 := 14) rfl wlC_14) rfl hl.1 rfl (Nat.le_of_ble_eq_true rfl) dL_part_9 ⟨Nat.le_of_ble_eq_true rfl, Nat.le_of_ble_eq_true rfl⟩ [] ⟨0, 14, 17, 13⟩ [] htab xt_p0 (by decide) (by decide) (by decide +kernel) (by decide +kernel) (fun q9 H locs X => ?_)
      refine lv_astore (lv' := [(6, .ref q9), (0, .ref (ad 14)), (1, .int x1), (2, .int x2), (3, .int x3), (4, .int x4), (5, .ref (ad 24))]) hx hb dL_part_17 hl (by decide) rfl (fun ls hl => ?_)
      refine lv_iconst (v := (1 : Int32)) hx hb dL_part_19 rfl ?_
      cases hf
      exact xe_i6 hx hb hr hlocks X dL_part_20
    cases hf
  · refine xc_V1 (rest := [.int (0 : Int32), .ref (ad 24)]) ⟨hx, hb, hml, hown, hts⟩ (mX5_part (exo_p hv1 h9)) (cwV 4 hts gL_part_X5_part rfl rfl rfl hqX5_part ⟨Nat.le_of_ble_eq_true rfl, Nat.le_of_ble_eq_true rfl⟩) X (va_recv X.1 X.2.1 (ci := 1) (q0 := 14) rfl wlC_14) rfl hl.1 rfl (Nat.le_of_ble_eq_true rfl) dL_part_9 ⟨Nat.zero_le _, Nat.zero_le _⟩ (fun H locs X => ?_)
    refine lv_i2l (v := (r2.toInt64)) hx hb dL_part_12 rfl ?_
    refine xa_last hx hb X 24 wlC_24 wlC_s_ol dL_part_13 hf (fun g3 H locs hf X => ?_)
    refine lv_goto (tgt := 21) hx hb dL_part_14 rfl ?_
    refine lv_iconst (v := (0 : Int32)) hx hb dL_part_21 rfl ?_
    cases hf
    refine W.widen (k := 1) (n := 6) (by decide) (by decide) ?_
    exact xe_i6 hx hb hr hlocks X dL_part_22
set_option maxRecDepth 100000 in
set_option maxHeartbeats 4000000 in
theorem mL_turn {l : Launch} {dd : va_G} {cy : Nat → ClassId} {ad : Nat → Nat} {A : Nat → Prop} {fu : Nat} {ts : Nat → Int32} {tc : Nat → Nat → Int32} {rk : Nat → Int32} {pl : Nat → Int32} {ru : Nat → Int64} {sl : Nat → Int32} {bg : Nat → Int32} {kn : Nat → Int64} {rm : Int32} {ol : Nat → Int64} {od : Nat → UInt64} {x1 : Int32} {x2 : Int32} {x3 : Int32} {rv : Int32} {tso : Nat → Int32} {tco : Nat → Nat → Int32} {olo : Nat → Int64} (htr : l.stackTraces = false) (hf : fL_turn fu ts tc ol x1 x2 x3 = some (rv, tso, tco, olo)) : Met l yL_turn wsL_turn { frames := 8, cells := 1, slots := 6, locals := 146 } (va_Pc [.ref (ad 14), .int x1, .int x2, .int x3, .ref (ad 24)] (IT dd cy A (wlC ad cy ts tc rk pl ru sl bg kn rm ol od))) (QX dd cy A (some (.int rv)) (wlC ad cy tso tco rk pl ru sl bg kn rm olo od)) 1 6 A := by
  refine va_MetW (cc := cL_turn) (maxL := 6) (ret := some .int) (by decide) rfl ?_
  intro p e s m args below meth c s₁ B hml hv
  obtain ⟨hav, hI, hT⟩ := hv
  have hx := B.exec
  have hb := B.bytes
  have hr := B.returns
  have hts := atoms_spec (ws := wsL_turn) B.pre
  have hown : s.vm.findClass RL = some m.cls := findClass_of_methodNamed B.named
  have hlocks := B.notSynchronized
  have X := XW.of hI
  have htab : c.exceptionTable.toList = tableOf [(0, 12, 15, 13)] := vx_table (x := yL_turn) B (hts (.codeWith yL_turn cL_turn 6 (some .int) [(0, 12, 15, 13)]) List.mem_cons_self)
  refine xe_in hav (Nat.le_of_ble_eq_true rfl) rfl (fun ls hl => ?_)
  rw [fL_turn] at hf
  refine lv_aload hx hb dL_turn_0 (lv_at hl 4 rfl) ?_
  refine lv_iconst (v := (0 : Int32)) hx hb dL_turn_2 rfl ?_
  refine lv_aload_n hx hb dL_turn_3 rfl (lv_at hl 0 rfl) ?_
  refine lv_iload_n hx hb dL_turn_4 rfl (lv_at hl 1 rfl) ?_
  refine lv_iload_n hx hb dL_turn_5 rfl (lv_at hl 2 rfl) ?_
  refine lv_iload_n hx hb dL_turn_6 rfl (lv_at hl 3 rfl) ?_
  refine xb hf (fun v1 hv1 hf => ?_)
  refine exb_c hf (fun e9 h9 hf => ?_) (fun r2 h9 hf => ?_)
  · refine xr_str hf (fun he hf => ?_) (fun hf => ?_)
    · subst he
      refine xt_VC (rest := [.int (0 : Int32), .ref (ad 24)]) ⟨hx, hb, hml, hown, hts⟩ (eX5_turn htr (exo_p hv1 h9)) (cwV 3 hts gL_turn_X5_turn rfl rfl rfl hqX5_turn ⟨Nat.le_of_ble_eq_true rfl, Nat.le_of_ble_eq_true rfl⟩) X hT (va_recv X.1 X.2.1 (ci := 1) (q0 := 14) rfl wlC_14) rfl hl.1 rfl (Nat.le_of_ble_eq_true rfl) dL_turn_7 ⟨Nat.le_of_ble_eq_true rfl, Nat.le_of_ble_eq_true rfl⟩ [] ⟨0, 12, 15, 13⟩ [] htab xt_p0 (by decide) (by decide) (by decide +kernel) (by decide +kernel) (fun q9 H locs X => ?_)
      refine lv_astore (lv' := [(5, .ref q9), (0, .ref (ad 14)), (1, .int x1), (2, .int x2), (3, .int x3), (4, .ref (ad 24))]) hx hb dL_turn_15 hl (by decide) rfl (fun ls hl => ?_)
      refine lv_iconst (v := (1 : Int32)) hx hb dL_turn_17 rfl ?_
      cases hf
      exact xe_i6 hx hb hr hlocks X dL_turn_18
    cases hf
  · refine xc_V1 (rest := [.int (0 : Int32), .ref (ad 24)]) ⟨hx, hb, hml, hown, hts⟩ (mX5_turn (exo_p hv1 h9)) (cwV 3 hts gL_turn_X5_turn rfl rfl rfl hqX5_turn ⟨Nat.le_of_ble_eq_true rfl, Nat.le_of_ble_eq_true rfl⟩) X (va_recv X.1 X.2.1 (ci := 1) (q0 := 14) rfl wlC_14) rfl hl.1 rfl (Nat.le_of_ble_eq_true rfl) dL_turn_7 ⟨Nat.zero_le _, Nat.zero_le _⟩ (fun H locs X => ?_)
    refine lv_i2l (v := (r2.toInt64)) hx hb dL_turn_10 rfl ?_
    refine xa_last hx hb X 24 wlC_24 wlC_s_ol dL_turn_11 hf (fun g3 H locs hf X => ?_)
    refine lv_goto (tgt := 19) hx hb dL_turn_12 rfl ?_
    refine lv_iconst (v := (0 : Int32)) hx hb dL_turn_19 rfl ?_
    cases hf
    refine W.widen (k := 1) (n := 6) (by decide) (by decide) ?_
    exact xe_i6 hx hb hr hlocks X dL_turn_20
set_option maxRecDepth 100000 in
set_option maxHeartbeats 4000000 in
theorem mL_back {l : Launch} {dd : va_G} {cy : Nat → ClassId} {ad : Nat → Nat} {A : Nat → Prop} {fu : Nat} {ts : Nat → Int32} {tc : Nat → Nat → Int32} {rk : Nat → Int32} {pl : Nat → Int32} {ru : Nat → Int64} {sl : Nat → Int32} {bg : Nat → Int32} {kn : Nat → Int64} {rm : Int32} {ol : Nat → Int64} {od : Nat → UInt64} {x1 : Int32} {x2 : Int32} {rv : Int32} {tso : Nat → Int32} {tco : Nat → Nat → Int32} {olo : Nat → Int64} (htr : l.stackTraces = false) (hf : fL_back fu ts tc ol x1 x2 = some (rv, tso, tco, olo)) : Met l yL_back wsL_back { frames := 8, cells := 1, slots := 6, locals := 146 } (va_Pc [.ref (ad 14), .int x1, .int x2, .ref (ad 24)] (IT dd cy A (wlC ad cy ts tc rk pl ru sl bg kn rm ol od))) (QX dd cy A (some (.int rv)) (wlC ad cy tso tco rk pl ru sl bg kn rm olo od)) 1 6 A := by
  refine va_MetW (cc := cL_back) (maxL := 5) (ret := some .int) (by decide) rfl ?_
  intro p e s m args below meth c s₁ B hml hv
  obtain ⟨hav, hI, hT⟩ := hv
  have hx := B.exec
  have hb := B.bytes
  have hr := B.returns
  have hts := atoms_spec (ws := wsL_back) B.pre
  have hown : s.vm.findClass RL = some m.cls := findClass_of_methodNamed B.named
  have hlocks := B.notSynchronized
  have X := XW.of hI
  have htab : c.exceptionTable.toList = tableOf [(0, 10, 13, 13)] := vx_table (x := yL_back) B (hts (.codeWith yL_back cL_back 5 (some .int) [(0, 10, 13, 13)]) List.mem_cons_self)
  refine xe_in hav (Nat.le_of_ble_eq_true rfl) rfl (fun ls hl => ?_)
  rw [fL_back] at hf
  refine lv_aload_n hx hb dL_back_0 rfl (lv_at hl 3 rfl) ?_
  refine lv_iconst (v := (0 : Int32)) hx hb dL_back_1 rfl ?_
  refine lv_aload_n hx hb dL_back_2 rfl (lv_at hl 0 rfl) ?_
  refine lv_iload_n hx hb dL_back_3 rfl (lv_at hl 1 rfl) ?_
  refine lv_iload_n hx hb dL_back_4 rfl (lv_at hl 2 rfl) ?_
  refine xb hf (fun v1 hv1 hf => ?_)
  refine exb_c hf (fun e9 h9 hf => ?_) (fun r2 h9 hf => ?_)
  · refine xr_str hf (fun he hf => ?_) (fun hf => ?_)
    · subst he
      refine xt_VC (rest := [.int (0 : Int32), .ref (ad 24)]) ⟨hx, hb, hml, hown, hts⟩ (eX5_back htr (exo_p hv1 h9)) (cwV 2 hts gL_back_X5_back rfl rfl rfl hqX5_back ⟨Nat.le_of_ble_eq_true rfl, Nat.le_of_ble_eq_true rfl⟩) X hT (va_recv X.1 X.2.1 (ci := 1) (q0 := 14) rfl wlC_14) rfl hl.1 rfl (Nat.le_of_ble_eq_true rfl) dL_back_5 ⟨Nat.le_of_ble_eq_true rfl, Nat.le_of_ble_eq_true rfl⟩ [] ⟨0, 10, 13, 13⟩ [] htab xt_p0 (by decide) (by decide) (by decide +kernel) (by decide +kernel) (fun q9 H locs X => ?_)
      refine lv_astore (lv' := [(4, .ref q9), (0, .ref (ad 14)), (1, .int x1), (2, .int x2), (3, .ref (ad 24))]) hx hb dL_back_13 hl (by decide) rfl (fun ls hl => ?_)
      refine lv_iconst (v := (1 : Int32)) hx hb dL_back_15 rfl ?_
      cases hf
      exact xe_i6 hx hb hr hlocks X dL_back_16
    cases hf
  · refine xc_V1 (rest := [.int (0 : Int32), .ref (ad 24)]) ⟨hx, hb, hml, hown, hts⟩ (mX5_back (exo_p hv1 h9)) (cwV 2 hts gL_back_X5_back rfl rfl rfl hqX5_back ⟨Nat.le_of_ble_eq_true rfl, Nat.le_of_ble_eq_true rfl⟩) X (va_recv X.1 X.2.1 (ci := 1) (q0 := 14) rfl wlC_14) rfl hl.1 rfl (Nat.le_of_ble_eq_true rfl) dL_back_5 ⟨Nat.zero_le _, Nat.zero_le _⟩ (fun H locs X => ?_)
    refine lv_i2l (v := (r2.toInt64)) hx hb dL_back_8 rfl ?_
    refine xa_last hx hb X 24 wlC_24 wlC_s_ol dL_back_9 hf (fun g3 H locs hf X => ?_)
    refine lv_goto (tgt := 17) hx hb dL_back_10 rfl ?_
    refine lv_iconst (v := (0 : Int32)) hx hb dL_back_17 rfl ?_
    cases hf
    refine W.widen (k := 1) (n := 6) (by decide) (by decide) ?_
    exact xe_i6 hx hb hr hlocks X dL_back_18
set_option maxRecDepth 100000 in
set_option maxHeartbeats 4000000 in
theorem mL_put {l : Launch} {dd : va_G} {cy : Nat → ClassId} {ad : Nat → Nat} {A : Nat → Prop} {fu : Nat} {ts : Nat → Int32} {tc : Nat → Nat → Int32} {rk : Nat → Int32} {pl : Nat → Int32} {ru : Nat → Int64} {sl : Nat → Int32} {bg : Nat → Int32} {kn : Nat → Int64} {rm : Int32} {ol : Nat → Int64} {od : Nat → UInt64} {x1 : Int32} {x2 : Int32} {x3 : Int32} {x4 : Int32} {rv : Int32} {tso : Nat → Int32} {tco : Nat → Nat → Int32} {olo : Nat → Int64} (htr : l.stackTraces = false) (hf : fL_put fu ts tc ol x1 x2 x3 x4 = some (rv, tso, tco, olo)) : Met l yL_put wsL_put { frames := 8, cells := 1, slots := 6, locals := 150 } (va_Pc [.ref (ad 14), .int x1, .int x2, .int x3, .int x4, .ref (ad 24)] (IT dd cy A (wlC ad cy ts tc rk pl ru sl bg kn rm ol od))) (QX dd cy A (some (.int rv)) (wlC ad cy tso tco rk pl ru sl bg kn rm olo od)) 1 6 A := by
  refine va_MetW (cc := cL_put) (maxL := 7) (ret := some .int) (by decide) rfl ?_
  intro p e s m args below meth c s₁ B hml hv
  obtain ⟨hav, hI, hT⟩ := hv
  have hx := B.exec
  have hb := B.bytes
  have hr := B.returns
  have hts := atoms_spec (ws := wsL_put) B.pre
  have hown : s.vm.findClass RL = some m.cls := findClass_of_methodNamed B.named
  have hlocks := B.notSynchronized
  have X := XW.of hI
  have htab : c.exceptionTable.toList = tableOf [(0, 14, 17, 13), (0, 14, 21, 55), (0, 14, 25, 17)] := vx_table (x := yL_put) B (hts (.codeWith yL_put cL_put 7 (some .int) [(0, 14, 17, 13), (0, 14, 21, 55), (0, 14, 25, 17)]) List.mem_cons_self)
  refine xe_in hav (Nat.le_of_ble_eq_true rfl) rfl (fun ls hl => ?_)
  rw [fL_put] at hf
  refine lv_aload hx hb dL_put_0 (lv_at hl 5 rfl) ?_
  refine lv_iconst (v := (0 : Int32)) hx hb dL_put_2 rfl ?_
  refine lv_aload_n hx hb dL_put_3 rfl (lv_at hl 0 rfl) ?_
  refine lv_iload_n hx hb dL_put_4 rfl (lv_at hl 1 rfl) ?_
  refine lv_iload_n hx hb dL_put_5 rfl (lv_at hl 2 rfl) ?_
  refine lv_iload_n hx hb dL_put_6 rfl (lv_at hl 3 rfl) ?_
  refine lv_iload hx hb dL_put_7 (lv_at hl 4 rfl) ?_
  refine xb hf (fun v1 hv1 hf => ?_)
  refine exb_c hf (fun e9 h9 hf => ?_) (fun r2 h9 hf => ?_)
  · refine xr_str hf (fun he hf => ?_) (fun hf => ?_)
    · subst he
      refine xt_VC (rest := [.int (0 : Int32), .ref (ad 24)]) ⟨hx, hb, hml, hown, hts⟩ (eX5_put htr (exo_p hv1 h9)) (cwV 4 hts gL_put_X5_put rfl rfl rfl hqX5_put ⟨Nat.le_of_ble_eq_true rfl, Nat.le_of_ble_eq_true rfl⟩) X hT (va_recv X.1 X.2.1 (ci := 1) (q0 := 14) rfl wlC_14) rfl hl.1 rfl (Nat.le_of_ble_eq_true rfl) dL_put_9 ⟨Nat.le_of_ble_eq_true rfl, Nat.le_of_ble_eq_true rfl⟩ [] ⟨0, 14, 17, 13⟩ [⟨0, 14, 21, 55⟩, ⟨0, 14, 25, 17⟩] htab xt_p0 (by decide) (by decide) (by decide +kernel) (by decide +kernel) (fun q9 H locs X => ?_)
      refine lv_astore (lv' := [(6, .ref q9), (0, .ref (ad 14)), (1, .int x1), (2, .int x2), (3, .int x3), (4, .int x4), (5, .ref (ad 24))]) hx hb dL_put_17 hl (by decide) rfl (fun ls hl => ?_)
      refine lv_iconst (v := (1 : Int32)) hx hb dL_put_19 rfl ?_
      cases hf
      exact xe_i6 hx hb hr hlocks X dL_put_20
    refine xr_str hf (fun he hf => ?_) (fun hf => ?_)
    · subst he
      refine xt_VC (rest := [.int (0 : Int32), .ref (ad 24)]) ⟨hx, hb, hml, hown, hts⟩ (eX5_put htr (exo_p hv1 h9)) (cwV 4 hts gL_put_X5_put rfl rfl rfl hqX5_put ⟨Nat.le_of_ble_eq_true rfl, Nat.le_of_ble_eq_true rfl⟩) X hT (va_recv X.1 X.2.1 (ci := 1) (q0 := 14) rfl wlC_14) rfl hl.1 rfl (Nat.le_of_ble_eq_true rfl) dL_put_9 ⟨Nat.le_of_ble_eq_true rfl, Nat.le_of_ble_eq_true rfl⟩ [⟨0, 14, 17, 13⟩] ⟨0, 14, 21, 55⟩ [⟨0, 14, 25, 17⟩] htab (xt_p1 hts hT (nm := "java/lang/IndexOutOfBoundsException") (by decide) (by decide +kernel) (by decide +kernel) xt_p0) (by decide) (by decide) (by decide +kernel) (by decide +kernel) (fun q9 H locs X => ?_)
      refine lv_astore (lv' := [(6, .ref q9), (0, .ref (ad 14)), (1, .int x1), (2, .int x2), (3, .int x3), (4, .int x4), (5, .ref (ad 24))]) hx hb dL_put_21 hl (by decide) rfl (fun ls hl => ?_)
      refine lv_iconst (v := (2 : Int32)) hx hb dL_put_23 rfl ?_
      cases hf
      exact xe_i6 hx hb hr hlocks X dL_put_24
    refine xr_str hf (fun he hf => ?_) (fun hf => ?_)
    · subst he
      refine xt_VC (rest := [.int (0 : Int32), .ref (ad 24)]) ⟨hx, hb, hml, hown, hts⟩ (eX5_put htr (exo_p hv1 h9)) (cwV 4 hts gL_put_X5_put rfl rfl rfl hqX5_put ⟨Nat.le_of_ble_eq_true rfl, Nat.le_of_ble_eq_true rfl⟩) X hT (va_recv X.1 X.2.1 (ci := 1) (q0 := 14) rfl wlC_14) rfl hl.1 rfl (Nat.le_of_ble_eq_true rfl) dL_put_9 ⟨Nat.le_of_ble_eq_true rfl, Nat.le_of_ble_eq_true rfl⟩ [⟨0, 14, 17, 13⟩, ⟨0, 14, 21, 55⟩] ⟨0, 14, 25, 17⟩ [] htab (xt_p1 hts hT (nm := "java/lang/IndexOutOfBoundsException") (by decide) (by decide +kernel) (by decide +kernel) (xt_p1 hts hT (nm := "java/lang/UnsupportedOperationException") (by decide) (by decide +kernel) (by decide +kernel) xt_p0)) (by decide) (by decide) (by decide +kernel) (by decide +kernel) (fun q9 H locs X => ?_)
      refine lv_astore (lv' := [(6, .ref q9), (0, .ref (ad 14)), (1, .int x1), (2, .int x2), (3, .int x3), (4, .int x4), (5, .ref (ad 24))]) hx hb dL_put_25 hl (by decide) rfl (fun ls hl => ?_)
      refine lv_iconst (v := (3 : Int32)) hx hb dL_put_27 rfl ?_
      cases hf
      exact xe_i6 hx hb hr hlocks X dL_put_28
    cases hf
  · refine xc_V1 (rest := [.int (0 : Int32), .ref (ad 24)]) ⟨hx, hb, hml, hown, hts⟩ (mX5_put (exo_p hv1 h9)) (cwV 4 hts gL_put_X5_put rfl rfl rfl hqX5_put ⟨Nat.le_of_ble_eq_true rfl, Nat.le_of_ble_eq_true rfl⟩) X (va_recv X.1 X.2.1 (ci := 1) (q0 := 14) rfl wlC_14) rfl hl.1 rfl (Nat.le_of_ble_eq_true rfl) dL_put_9 ⟨Nat.zero_le _, Nat.zero_le _⟩ (fun H locs X => ?_)
    refine lv_i2l (v := (r2.toInt64)) hx hb dL_put_12 rfl ?_
    refine xa_last hx hb X 24 wlC_24 wlC_s_ol dL_put_13 hf (fun g3 H locs hf X => ?_)
    refine lv_goto (tgt := 29) hx hb dL_put_14 rfl ?_
    refine lv_iconst (v := (0 : Int32)) hx hb dL_put_29 rfl ?_
    cases hf
    refine W.widen (k := 1) (n := 6) (by decide) (by decide) ?_
    exact xe_i6 hx hb hr hlocks X dL_put_30
set_option maxRecDepth 100000 in
set_option maxHeartbeats 4000000 in
theorem mL_first {l : Launch} {dd : va_G} {cy : Nat → ClassId} {ad : Nat → Nat} {A : Nat → Prop} {fu : Nat} {ts : Nat → Int32} {tc : Nat → Nat → Int32} {rk : Nat → Int32} {pl : Nat → Int32} {ru : Nat → Int64} {sl : Nat → Int32} {bg : Nat → Int32} {kn : Nat → Int64} {rm : Int32} {ol : Nat → Int64} {od : Nat → UInt64} {x1 : Int32} {x2 : Int32} {x3 : Int32} {rv : Int32} {olo : Nat → Int64} (htr : l.stackTraces = false) (hf : fL_first fu ts tc ol x1 x2 x3 = some (rv, olo)) : Met l yL_first wsL_first { frames := 8, cells := 1, slots := 6, locals := 148 } (va_Pc [.ref (ad 14), .int x1, .int x2, .int x3, .ref (ad 24)] (IT dd cy A (wlC ad cy ts tc rk pl ru sl bg kn rm ol od))) (QX dd cy A (some (.int rv)) (wlC ad cy ts tc rk pl ru sl bg kn rm olo od)) 1 6 A := by
  refine va_MetW (cc := cL_first) (maxL := 6) (ret := some .int) (by decide) rfl ?_
  intro p e s m args below meth c s₁ B hml hv
  obtain ⟨hav, hI, hT⟩ := hv
  have hx := B.exec
  have hb := B.bytes
  have hr := B.returns
  have hts := atoms_spec (ws := wsL_first) B.pre
  have hown : s.vm.findClass RL = some m.cls := findClass_of_methodNamed B.named
  have hlocks := B.notSynchronized
  have X := XW.of hI
  have htab : c.exceptionTable.toList = tableOf [(0, 12, 15, 13)] := vx_table (x := yL_first) B (hts (.codeWith yL_first cL_first 6 (some .int) [(0, 12, 15, 13)]) List.mem_cons_self)
  refine xe_in hav (Nat.le_of_ble_eq_true rfl) rfl (fun ls hl => ?_)
  rw [fL_first] at hf
  refine lv_aload hx hb dL_first_0 (lv_at hl 4 rfl) ?_
  refine lv_iconst (v := (0 : Int32)) hx hb dL_first_2 rfl ?_
  refine lv_aload_n hx hb dL_first_3 rfl (lv_at hl 0 rfl) ?_
  refine lv_iload_n hx hb dL_first_4 rfl (lv_at hl 1 rfl) ?_
  refine lv_iload_n hx hb dL_first_5 rfl (lv_at hl 2 rfl) ?_
  refine lv_iload_n hx hb dL_first_6 rfl (lv_at hl 3 rfl) ?_
  refine xb hf (fun v1 hv1 hf => ?_)
  refine exb_c hf (fun e9 h9 hf => ?_) (fun r2 h9 hf => ?_)
  · refine xr_str hf (fun he hf => ?_) (fun hf => ?_)
    · subst he
      refine xt_VC (rest := [.int (0 : Int32), .ref (ad 24)]) ⟨hx, hb, hml, hown, hts⟩ (eX5_first htr (exo_s hv1 h9)) (cwV 3 hts gL_first_X5_first rfl rfl rfl hqX5_first ⟨Nat.le_of_ble_eq_true rfl, Nat.le_of_ble_eq_true rfl⟩) X hT (va_recv X.1 X.2.1 (ci := 1) (q0 := 14) rfl wlC_14) rfl hl.1 rfl (Nat.le_of_ble_eq_true rfl) dL_first_7 ⟨Nat.le_of_ble_eq_true rfl, Nat.le_of_ble_eq_true rfl⟩ [] ⟨0, 12, 15, 13⟩ [] htab xt_p0 (by decide) (by decide) (by decide +kernel) (by decide +kernel) (fun q9 H locs X => ?_)
      refine lv_astore (lv' := [(5, .ref q9), (0, .ref (ad 14)), (1, .int x1), (2, .int x2), (3, .int x3), (4, .ref (ad 24))]) hx hb dL_first_15 hl (by decide) rfl (fun ls hl => ?_)
      refine lv_iconst (v := (1 : Int32)) hx hb dL_first_17 rfl ?_
      cases hf
      exact xe_i6 hx hb hr hlocks X dL_first_18
    cases hf
  · refine xc_V1 (rest := [.int (0 : Int32), .ref (ad 24)]) ⟨hx, hb, hml, hown, hts⟩ (mX5_first (exo_s hv1 h9)) (cwV 3 hts gL_first_X5_first rfl rfl rfl hqX5_first ⟨Nat.le_of_ble_eq_true rfl, Nat.le_of_ble_eq_true rfl⟩) X (va_recv X.1 X.2.1 (ci := 1) (q0 := 14) rfl wlC_14) rfl hl.1 rfl (Nat.le_of_ble_eq_true rfl) dL_first_7 ⟨Nat.zero_le _, Nat.zero_le _⟩ (fun H locs X => ?_)
    refine lv_i2l (v := (r2.toInt64)) hx hb dL_first_10 rfl ?_
    refine xa_last hx hb X 24 wlC_24 wlC_s_ol dL_first_11 hf (fun g3 H locs hf X => ?_)
    refine lv_goto (tgt := 19) hx hb dL_first_12 rfl ?_
    refine lv_iconst (v := (0 : Int32)) hx hb dL_first_19 rfl ?_
    cases hf
    refine W.widen (k := 1) (n := 6) (by decide) (by decide) ?_
    exact xe_i6 hx hb hr hlocks X dL_first_20
set_option maxRecDepth 100000 in
set_option maxHeartbeats 4000000 in
theorem mL_last {l : Launch} {dd : va_G} {cy : Nat → ClassId} {ad : Nat → Nat} {A : Nat → Prop} {fu : Nat} {ts : Nat → Int32} {tc : Nat → Nat → Int32} {rk : Nat → Int32} {pl : Nat → Int32} {ru : Nat → Int64} {sl : Nat → Int32} {bg : Nat → Int32} {kn : Nat → Int64} {rm : Int32} {ol : Nat → Int64} {od : Nat → UInt64} {x1 : Int32} {x2 : Int32} {x3 : Int32} {rv : Int32} {olo : Nat → Int64} (htr : l.stackTraces = false) (hf : fL_last fu ts tc ol x1 x2 x3 = some (rv, olo)) : Met l yL_last wsL_last { frames := 8, cells := 1, slots := 6, locals := 147 } (va_Pc [.ref (ad 14), .int x1, .int x2, .int x3, .ref (ad 24)] (IT dd cy A (wlC ad cy ts tc rk pl ru sl bg kn rm ol od))) (QX dd cy A (some (.int rv)) (wlC ad cy ts tc rk pl ru sl bg kn rm olo od)) 1 6 A := by
  refine va_MetW (cc := cL_last) (maxL := 6) (ret := some .int) (by decide) rfl ?_
  intro p e s m args below meth c s₁ B hml hv
  obtain ⟨hav, hI, hT⟩ := hv
  have hx := B.exec
  have hb := B.bytes
  have hr := B.returns
  have hts := atoms_spec (ws := wsL_last) B.pre
  have hown : s.vm.findClass RL = some m.cls := findClass_of_methodNamed B.named
  have hlocks := B.notSynchronized
  have X := XW.of hI
  have htab : c.exceptionTable.toList = tableOf [(0, 12, 15, 13)] := vx_table (x := yL_last) B (hts (.codeWith yL_last cL_last 6 (some .int) [(0, 12, 15, 13)]) List.mem_cons_self)
  refine xe_in hav (Nat.le_of_ble_eq_true rfl) rfl (fun ls hl => ?_)
  rw [fL_last] at hf
  refine lv_aload hx hb dL_last_0 (lv_at hl 4 rfl) ?_
  refine lv_iconst (v := (0 : Int32)) hx hb dL_last_2 rfl ?_
  refine lv_aload_n hx hb dL_last_3 rfl (lv_at hl 0 rfl) ?_
  refine lv_iload_n hx hb dL_last_4 rfl (lv_at hl 1 rfl) ?_
  refine lv_iload_n hx hb dL_last_5 rfl (lv_at hl 2 rfl) ?_
  refine lv_iload_n hx hb dL_last_6 rfl (lv_at hl 3 rfl) ?_
  refine xb hf (fun v1 hv1 hf => ?_)
  refine exb_c hf (fun e9 h9 hf => ?_) (fun r2 h9 hf => ?_)
  · refine xr_str hf (fun he hf => ?_) (fun hf => ?_)
    · subst he
      refine xt_VC (rest := [.int (0 : Int32), .ref (ad 24)]) ⟨hx, hb, hml, hown, hts⟩ (eX5_last htr (exo_s hv1 h9)) (cwV 3 hts gL_last_X5_last rfl rfl rfl hqX5_last ⟨Nat.le_of_ble_eq_true rfl, Nat.le_of_ble_eq_true rfl⟩) X hT (va_recv X.1 X.2.1 (ci := 1) (q0 := 14) rfl wlC_14) rfl hl.1 rfl (Nat.le_of_ble_eq_true rfl) dL_last_7 ⟨Nat.le_of_ble_eq_true rfl, Nat.le_of_ble_eq_true rfl⟩ [] ⟨0, 12, 15, 13⟩ [] htab xt_p0 (by decide) (by decide) (by decide +kernel) (by decide +kernel) (fun q9 H locs X => ?_)
      refine lv_astore (lv' := [(5, .ref q9), (0, .ref (ad 14)), (1, .int x1), (2, .int x2), (3, .int x3), (4, .ref (ad 24))]) hx hb dL_last_15 hl (by decide) rfl (fun ls hl => ?_)
      refine lv_iconst (v := (1 : Int32)) hx hb dL_last_17 rfl ?_
      cases hf
      exact xe_i6 hx hb hr hlocks X dL_last_18
    cases hf
  · refine xc_V1 (rest := [.int (0 : Int32), .ref (ad 24)]) ⟨hx, hb, hml, hown, hts⟩ (mX5_last (exo_s hv1 h9)) (cwV 3 hts gL_last_X5_last rfl rfl rfl hqX5_last ⟨Nat.le_of_ble_eq_true rfl, Nat.le_of_ble_eq_true rfl⟩) X (va_recv X.1 X.2.1 (ci := 1) (q0 := 14) rfl wlC_14) rfl hl.1 rfl (Nat.le_of_ble_eq_true rfl) dL_last_7 ⟨Nat.zero_le _, Nat.zero_le _⟩ (fun H locs X => ?_)
    refine lv_i2l (v := (r2.toInt64)) hx hb dL_last_10 rfl ?_
    refine xa_last hx hb X 24 wlC_24 wlC_s_ol dL_last_11 hf (fun g3 H locs hf X => ?_)
    refine lv_goto (tgt := 19) hx hb dL_last_12 rfl ?_
    refine lv_iconst (v := (0 : Int32)) hx hb dL_last_19 rfl ?_
    cases hf
    refine W.widen (k := 1) (n := 6) (by decide) (by decide) ?_
    exact xe_i6 hx hb hr hlocks X dL_last_20
set_option maxRecDepth 100000 in
set_option maxHeartbeats 4000000 in
theorem mL_many {l : Launch} {dd : va_G} {cy : Nat → ClassId} {ad : Nat → Nat} {A : Nat → Prop} {fu : Nat} {ts : Nat → Int32} {tc : Nat → Nat → Int32} {rk : Nat → Int32} {pl : Nat → Int32} {ru : Nat → Int64} {sl : Nat → Int32} {bg : Nat → Int32} {kn : Nat → Int64} {rm : Int32} {ol : Nat → Int64} {od : Nat → UInt64} {x1 : Int32} {x2 : Int32} {x3 : Int32} {rv : Int32} {olo : Nat → Int64} (htr : l.stackTraces = false) (hf : fL_many fu ts tc ol x1 x2 x3 = some (rv, olo)) : Met l yL_many wsL_many { frames := 8, cells := 1, slots := 6, locals := 146 } (va_Pc [.ref (ad 14), .int x1, .int x2, .int x3, .ref (ad 24)] (IT dd cy A (wlC ad cy ts tc rk pl ru sl bg kn rm ol od))) (QX dd cy A (some (.int rv)) (wlC ad cy ts tc rk pl ru sl bg kn rm olo od)) 1 6 A := by
  refine va_MetW (cc := cL_many) (maxL := 6) (ret := some .int) (by decide) rfl ?_
  intro p e s m args below meth c s₁ B hml hv
  obtain ⟨hav, hI, hT⟩ := hv
  have hx := B.exec
  have hb := B.bytes
  have hr := B.returns
  have hts := atoms_spec (ws := wsL_many) B.pre
  have hown : s.vm.findClass RL = some m.cls := findClass_of_methodNamed B.named
  have hlocks := B.notSynchronized
  have X := XW.of hI
  have htab : c.exceptionTable.toList = tableOf [(0, 12, 15, 13), (0, 12, 19, 55)] := vx_table (x := yL_many) B (hts (.codeWith yL_many cL_many 6 (some .int) [(0, 12, 15, 13), (0, 12, 19, 55)]) List.mem_cons_self)
  refine xe_in hav (Nat.le_of_ble_eq_true rfl) rfl (fun ls hl => ?_)
  rw [fL_many] at hf
  refine lv_aload hx hb dL_many_0 (lv_at hl 4 rfl) ?_
  refine lv_iconst (v := (0 : Int32)) hx hb dL_many_2 rfl ?_
  refine lv_aload_n hx hb dL_many_3 rfl (lv_at hl 0 rfl) ?_
  refine lv_iload_n hx hb dL_many_4 rfl (lv_at hl 1 rfl) ?_
  refine lv_iload_n hx hb dL_many_5 rfl (lv_at hl 2 rfl) ?_
  refine lv_iload_n hx hb dL_many_6 rfl (lv_at hl 3 rfl) ?_
  refine xb hf (fun v1 hv1 hf => ?_)
  refine exb_c hf (fun e9 h9 hf => ?_) (fun r2 h9 hf => ?_)
  · refine xr_str hf (fun he hf => ?_) (fun hf => ?_)
    · subst he
      refine xt_VC (rest := [.int (0 : Int32), .ref (ad 24)]) ⟨hx, hb, hml, hown, hts⟩ (eX5_many htr (exo_s hv1 h9)) (cwV 3 hts gL_many_X5_many rfl rfl rfl hqX5_many ⟨Nat.le_of_ble_eq_true rfl, Nat.le_of_ble_eq_true rfl⟩) X hT (va_recv X.1 X.2.1 (ci := 1) (q0 := 14) rfl wlC_14) rfl hl.1 rfl (Nat.le_of_ble_eq_true rfl) dL_many_7 ⟨Nat.le_of_ble_eq_true rfl, Nat.le_of_ble_eq_true rfl⟩ [] ⟨0, 12, 15, 13⟩ [⟨0, 12, 19, 55⟩] htab xt_p0 (by decide) (by decide) (by decide +kernel) (by decide +kernel) (fun q9 H locs X => ?_)
      refine lv_astore (lv' := [(5, .ref q9), (0, .ref (ad 14)), (1, .int x1), (2, .int x2), (3, .int x3), (4, .ref (ad 24))]) hx hb dL_many_15 hl (by decide) rfl (fun ls hl => ?_)
      refine lv_iconst (v := (1 : Int32)) hx hb dL_many_17 rfl ?_
      cases hf
      exact xe_i6 hx hb hr hlocks X dL_many_18
    refine xr_str hf (fun he hf => ?_) (fun hf => ?_)
    · subst he
      refine xt_VC (rest := [.int (0 : Int32), .ref (ad 24)]) ⟨hx, hb, hml, hown, hts⟩ (eX5_many htr (exo_s hv1 h9)) (cwV 3 hts gL_many_X5_many rfl rfl rfl hqX5_many ⟨Nat.le_of_ble_eq_true rfl, Nat.le_of_ble_eq_true rfl⟩) X hT (va_recv X.1 X.2.1 (ci := 1) (q0 := 14) rfl wlC_14) rfl hl.1 rfl (Nat.le_of_ble_eq_true rfl) dL_many_7 ⟨Nat.le_of_ble_eq_true rfl, Nat.le_of_ble_eq_true rfl⟩ [⟨0, 12, 15, 13⟩] ⟨0, 12, 19, 55⟩ [] htab (xt_p1 hts hT (nm := "java/lang/IndexOutOfBoundsException") (by decide) (by decide +kernel) (by decide +kernel) xt_p0) (by decide) (by decide) (by decide +kernel) (by decide +kernel) (fun q9 H locs X => ?_)
      refine lv_astore (lv' := [(5, .ref q9), (0, .ref (ad 14)), (1, .int x1), (2, .int x2), (3, .int x3), (4, .ref (ad 24))]) hx hb dL_many_19 hl (by decide) rfl (fun ls hl => ?_)
      refine lv_iconst (v := (2 : Int32)) hx hb dL_many_21 rfl ?_
      cases hf
      exact xe_i6 hx hb hr hlocks X dL_many_22
    cases hf
  · refine xc_V1 (rest := [.int (0 : Int32), .ref (ad 24)]) ⟨hx, hb, hml, hown, hts⟩ (mX5_many (exo_s hv1 h9)) (cwV 3 hts gL_many_X5_many rfl rfl rfl hqX5_many ⟨Nat.le_of_ble_eq_true rfl, Nat.le_of_ble_eq_true rfl⟩) X (va_recv X.1 X.2.1 (ci := 1) (q0 := 14) rfl wlC_14) rfl hl.1 rfl (Nat.le_of_ble_eq_true rfl) dL_many_7 ⟨Nat.zero_le _, Nat.zero_le _⟩ (fun H locs X => ?_)
    refine lv_i2l (v := (r2.toInt64)) hx hb dL_many_10 rfl ?_
    refine xa_last hx hb X 24 wlC_24 wlC_s_ol dL_many_11 hf (fun g3 H locs hf X => ?_)
    refine lv_goto (tgt := 23) hx hb dL_many_12 rfl ?_
    refine lv_iconst (v := (0 : Int32)) hx hb dL_many_23 rfl ?_
    cases hf
    refine W.widen (k := 1) (n := 6) (by decide) (by decide) ?_
    exact xe_i6 hx hb hr hlocks X dL_many_24
set_option maxRecDepth 100000 in
set_option maxHeartbeats 4000000 in
theorem mL_isSame {l : Launch} {dd : va_G} {cy : Nat → ClassId} {ad : Nat → Nat} {A : Nat → Prop} {fu : Nat} {ts : Nat → Int32} {tc : Nat → Nat → Int32} {rk : Nat → Int32} {pl : Nat → Int32} {ru : Nat → Int64} {sl : Nat → Int32} {bg : Nat → Int32} {kn : Nat → Int64} {rm : Int32} {ol : Nat → Int64} {od : Nat → UInt64} {x1 : Int32} {x2 : Int32} {rv : Int32} {olo : Nat → Int64} (htr : l.stackTraces = false) (hf : fL_isSame fu ts tc ol x1 x2 = some (rv, olo)) : Met l yL_isSame wsL_isSame { frames := 8, cells := 1, slots := 6, locals := 143 } (va_Pc [.ref (ad 14), .int x1, .int x2, .ref (ad 24)] (IT dd cy A (wlC ad cy ts tc rk pl ru sl bg kn rm ol od))) (QX dd cy A (some (.int rv)) (wlC ad cy ts tc rk pl ru sl bg kn rm olo od)) 1 6 A := by
  refine va_MetW (cc := cL_isSame) (maxL := 5) (ret := some .int) (by decide) rfl ?_
  intro p e s m args below meth c s₁ B hml hv
  obtain ⟨hav, hI, hT⟩ := hv
  have hx := B.exec
  have hb := B.bytes
  have hr := B.returns
  have hts := atoms_spec (ws := wsL_isSame) B.pre
  have hown : s.vm.findClass RL = some m.cls := findClass_of_methodNamed B.named
  have hlocks := B.notSynchronized
  have X := XW.of hI
  have htab : c.exceptionTable.toList = tableOf [(0, 17, 20, 13)] := vx_table (x := yL_isSame) B (hts (.codeWith yL_isSame cL_isSame 5 (some .int) [(0, 17, 20, 13)]) List.mem_cons_self)
  refine xe_in hav (Nat.le_of_ble_eq_true rfl) rfl (fun ls hl => ?_)
  rw [fL_isSame] at hf
  refine lv_aload_n hx hb dL_isSame_0 rfl (lv_at hl 3 rfl) ?_
  refine lv_iconst (v := (0 : Int32)) hx hb dL_isSame_1 rfl ?_
  refine lv_aload_n hx hb dL_isSame_2 rfl (lv_at hl 0 rfl) ?_
  refine lv_iload_n hx hb dL_isSame_3 rfl (lv_at hl 1 rfl) ?_
  refine lv_iload_n hx hb dL_isSame_4 rfl (lv_at hl 2 rfl) ?_
  refine xb hf (fun v1 hv1 hf => ?_)
  refine exb_c hf (fun e9 h9 hf => ?_) (fun r2 h9 hf => ?_)
  · refine xr_str hf (fun he hf => ?_) (fun hf => ?_)
    · subst he
      refine xt_VC (rest := [.int (0 : Int32), .ref (ad 24)]) ⟨hx, hb, hml, hown, hts⟩ (eX5_isSame htr (exo_s hv1 h9)) (cwV 2 hts gL_isSame_X5_isSame rfl rfl rfl hqX5_isSame ⟨Nat.le_of_ble_eq_true rfl, Nat.le_of_ble_eq_true rfl⟩) X hT (va_recv X.1 X.2.1 (ci := 1) (q0 := 14) rfl wlC_14) rfl hl.1 rfl (Nat.le_of_ble_eq_true rfl) dL_isSame_5 ⟨Nat.le_of_ble_eq_true rfl, Nat.le_of_ble_eq_true rfl⟩ [] ⟨0, 17, 20, 13⟩ [] htab xt_p0 (by decide) (by decide) (by decide +kernel) (by decide +kernel) (fun q9 H locs X => ?_)
      refine lv_astore (lv' := [(4, .ref q9), (0, .ref (ad 14)), (1, .int x1), (2, .int x2), (3, .ref (ad 24))]) hx hb dL_isSame_20 hl (by decide) rfl (fun ls hl => ?_)
      refine lv_iconst (v := (1 : Int32)) hx hb dL_isSame_22 rfl ?_
      cases hf
      exact xe_i6 hx hb hr hlocks X dL_isSame_23
    cases hf
  · refine xc_V1 (rest := [.int (0 : Int32), .ref (ad 24)]) ⟨hx, hb, hml, hown, hts⟩ (mX5_isSame (exo_s hv1 h9)) (cwV 2 hts gL_isSame_X5_isSame rfl rfl rfl hqX5_isSame ⟨Nat.le_of_ble_eq_true rfl, Nat.le_of_ble_eq_true rfl⟩) X (va_recv X.1 X.2.1 (ci := 1) (q0 := 14) rfl wlC_14) rfl hl.1 rfl (Nat.le_of_ble_eq_true rfl) dL_isSame_5 ⟨Nat.zero_le _, Nat.zero_le _⟩ (fun H locs X => ?_)
    refine xr_if_eq (tgt := 15) hx hb dL_isSame_8 rfl hf (fun hf => ?_) (fun hf => ?_)
    · refine lv_lconst (v := (0 : Int64)) hx hb dL_isSame_15 rfl ?_
      refine xa_last hx hb X 24 wlC_24 wlC_s_ol dL_isSame_16 hf (fun g3 H locs hf X => ?_)
      refine lv_goto (tgt := 24) hx hb dL_isSame_17 rfl ?_
      refine lv_iconst (v := (0 : Int32)) hx hb dL_isSame_24 rfl ?_
      cases hf
      refine W.widen (k := 1) (n := 6) (by decide) (by decide) ?_
      exact xe_i6 hx hb hr hlocks X dL_isSame_25
    · refine lv_lconst (v := (1 : Int64)) hx hb dL_isSame_11 rfl ?_
      refine lv_goto (tgt := 16) hx hb dL_isSame_12 rfl ?_
      refine xa_last hx hb X 24 wlC_24 wlC_s_ol dL_isSame_16 hf (fun g4 H locs hf X => ?_)
      refine lv_goto (tgt := 24) hx hb dL_isSame_17 rfl ?_
      refine lv_iconst (v := (0 : Int32)) hx hb dL_isSame_24 rfl ?_
      cases hf
      refine W.widen (k := 1) (n := 6) (by decide) (by decide) ?_
      exact xe_i6 hx hb hr hlocks X dL_isSame_25
set_option maxRecDepth 100000 in
set_option maxHeartbeats 4000000 in
theorem mL_compare {l : Launch} {dd : va_G} {cy : Nat → ClassId} {ad : Nat → Nat} {A : Nat → Prop} {fu : Nat} {ts : Nat → Int32} {tc : Nat → Nat → Int32} {rk : Nat → Int32} {pl : Nat → Int32} {ru : Nat → Int64} {sl : Nat → Int32} {bg : Nat → Int32} {kn : Nat → Int64} {rm : Int32} {ol : Nat → Int64} {od : Nat → UInt64} {x1 : Int32} {x2 : Int32} {rv : Int32} {olo : Nat → Int64} (htr : l.stackTraces = false) (hf : fL_compare fu ts tc ol x1 x2 = some (rv, olo)) : Met l yL_compare wsL_compare { frames := 8, cells := 1, slots := 6, locals := 143 } (va_Pc [.ref (ad 14), .int x1, .int x2, .ref (ad 24)] (IT dd cy A (wlC ad cy ts tc rk pl ru sl bg kn rm ol od))) (QX dd cy A (some (.int rv)) (wlC ad cy ts tc rk pl ru sl bg kn rm olo od)) 1 6 A := by
  refine va_MetW (cc := cL_compare) (maxL := 5) (ret := some .int) (by decide) rfl ?_
  intro p e s m args below meth c s₁ B hml hv
  obtain ⟨hav, hI, hT⟩ := hv
  have hx := B.exec
  have hb := B.bytes
  have hr := B.returns
  have hts := atoms_spec (ws := wsL_compare) B.pre
  have hown : s.vm.findClass RL = some m.cls := findClass_of_methodNamed B.named
  have hlocks := B.notSynchronized
  have X := XW.of hI
  have htab : c.exceptionTable.toList = tableOf [(0, 10, 13, 13)] := vx_table (x := yL_compare) B (hts (.codeWith yL_compare cL_compare 5 (some .int) [(0, 10, 13, 13)]) List.mem_cons_self)
  refine xe_in hav (Nat.le_of_ble_eq_true rfl) rfl (fun ls hl => ?_)
  rw [fL_compare] at hf
  refine lv_aload_n hx hb dL_compare_0 rfl (lv_at hl 3 rfl) ?_
  refine lv_iconst (v := (0 : Int32)) hx hb dL_compare_1 rfl ?_
  refine lv_aload_n hx hb dL_compare_2 rfl (lv_at hl 0 rfl) ?_
  refine lv_iload_n hx hb dL_compare_3 rfl (lv_at hl 1 rfl) ?_
  refine lv_iload_n hx hb dL_compare_4 rfl (lv_at hl 2 rfl) ?_
  refine xb hf (fun v1 hv1 hf => ?_)
  refine exb_c hf (fun e9 h9 hf => ?_) (fun r2 h9 hf => ?_)
  · refine xr_str hf (fun he hf => ?_) (fun hf => ?_)
    · subst he
      refine xt_VC (rest := [.int (0 : Int32), .ref (ad 24)]) ⟨hx, hb, hml, hown, hts⟩ (eX5_compare htr (exo_s hv1 h9)) (cwV 2 hts gL_compare_X5_compare rfl rfl rfl hqX5_compare ⟨Nat.le_of_ble_eq_true rfl, Nat.le_of_ble_eq_true rfl⟩) X hT (va_recv X.1 X.2.1 (ci := 1) (q0 := 14) rfl wlC_14) rfl hl.1 rfl (Nat.le_of_ble_eq_true rfl) dL_compare_5 ⟨Nat.le_of_ble_eq_true rfl, Nat.le_of_ble_eq_true rfl⟩ [] ⟨0, 10, 13, 13⟩ [] htab xt_p0 (by decide) (by decide) (by decide +kernel) (by decide +kernel) (fun q9 H locs X => ?_)
      refine lv_astore (lv' := [(4, .ref q9), (0, .ref (ad 14)), (1, .int x1), (2, .int x2), (3, .ref (ad 24))]) hx hb dL_compare_13 hl (by decide) rfl (fun ls hl => ?_)
      refine lv_iconst (v := (1 : Int32)) hx hb dL_compare_15 rfl ?_
      cases hf
      exact xe_i6 hx hb hr hlocks X dL_compare_16
    cases hf
  · refine xc_V1 (rest := [.int (0 : Int32), .ref (ad 24)]) ⟨hx, hb, hml, hown, hts⟩ (mX5_compare (exo_s hv1 h9)) (cwV 2 hts gL_compare_X5_compare rfl rfl rfl hqX5_compare ⟨Nat.le_of_ble_eq_true rfl, Nat.le_of_ble_eq_true rfl⟩) X (va_recv X.1 X.2.1 (ci := 1) (q0 := 14) rfl wlC_14) rfl hl.1 rfl (Nat.le_of_ble_eq_true rfl) dL_compare_5 ⟨Nat.zero_le _, Nat.zero_le _⟩ (fun H locs X => ?_)
    refine lv_i2l (v := (r2.toInt64)) hx hb dL_compare_8 rfl ?_
    refine xa_last hx hb X 24 wlC_24 wlC_s_ol dL_compare_9 hf (fun g3 H locs hf X => ?_)
    refine lv_goto (tgt := 17) hx hb dL_compare_10 rfl ?_
    refine lv_iconst (v := (0 : Int32)) hx hb dL_compare_17 rfl ?_
    cases hf
    refine W.widen (k := 1) (n := 6) (by decide) (by decide) ?_
    exact xe_i6 hx hb hr hlocks X dL_compare_18
set_option maxRecDepth 100000 in
set_option maxHeartbeats 4000000 in
theorem mL_common {l : Launch} {dd : va_G} {cy : Nat → ClassId} {ad : Nat → Nat} {A : Nat → Prop} {fu : Nat} {ts : Nat → Int32} {tc : Nat → Nat → Int32} {rk : Nat → Int32} {pl : Nat → Int32} {ru : Nat → Int64} {sl : Nat → Int32} {bg : Nat → Int32} {kn : Nat → Int64} {rm : Int32} {ol : Nat → Int64} {od : Nat → UInt64} {x1 : Int32} {x2 : Int32} {rv : Int32} {olo : Nat → Int64} (htr : l.stackTraces = false) (hf : fL_common fu ts tc ol x1 x2 = some (rv, olo)) : Met l yL_common wsL_common { frames := 8, cells := 1, slots := 6, locals := 143 } (va_Pc [.ref (ad 14), .int x1, .int x2, .ref (ad 24)] (IT dd cy A (wlC ad cy ts tc rk pl ru sl bg kn rm ol od))) (QX dd cy A (some (.int rv)) (wlC ad cy ts tc rk pl ru sl bg kn rm olo od)) 1 6 A := by
  refine va_MetW (cc := cL_common) (maxL := 5) (ret := some .int) (by decide) rfl ?_
  intro p e s m args below meth c s₁ B hml hv
  obtain ⟨hav, hI, hT⟩ := hv
  have hx := B.exec
  have hb := B.bytes
  have hr := B.returns
  have hts := atoms_spec (ws := wsL_common) B.pre
  have hown : s.vm.findClass RL = some m.cls := findClass_of_methodNamed B.named
  have hlocks := B.notSynchronized
  have X := XW.of hI
  have htab : c.exceptionTable.toList = tableOf [(0, 10, 13, 13)] := vx_table (x := yL_common) B (hts (.codeWith yL_common cL_common 5 (some .int) [(0, 10, 13, 13)]) List.mem_cons_self)
  refine xe_in hav (Nat.le_of_ble_eq_true rfl) rfl (fun ls hl => ?_)
  rw [fL_common] at hf
  refine lv_aload_n hx hb dL_common_0 rfl (lv_at hl 3 rfl) ?_
  refine lv_iconst (v := (0 : Int32)) hx hb dL_common_1 rfl ?_
  refine lv_aload_n hx hb dL_common_2 rfl (lv_at hl 0 rfl) ?_
  refine lv_iload_n hx hb dL_common_3 rfl (lv_at hl 1 rfl) ?_
  refine lv_iload_n hx hb dL_common_4 rfl (lv_at hl 2 rfl) ?_
  refine xb hf (fun v1 hv1 hf => ?_)
  refine exb_c hf (fun e9 h9 hf => ?_) (fun r2 h9 hf => ?_)
  · refine xr_str hf (fun he hf => ?_) (fun hf => ?_)
    · subst he
      refine xt_VC (rest := [.int (0 : Int32), .ref (ad 24)]) ⟨hx, hb, hml, hown, hts⟩ (eX5_common htr (exo_s hv1 h9)) (cwV 2 hts gL_common_X5_common rfl rfl rfl hqX5_common ⟨Nat.le_of_ble_eq_true rfl, Nat.le_of_ble_eq_true rfl⟩) X hT (va_recv X.1 X.2.1 (ci := 1) (q0 := 14) rfl wlC_14) rfl hl.1 rfl (Nat.le_of_ble_eq_true rfl) dL_common_5 ⟨Nat.le_of_ble_eq_true rfl, Nat.le_of_ble_eq_true rfl⟩ [] ⟨0, 10, 13, 13⟩ [] htab xt_p0 (by decide) (by decide) (by decide +kernel) (by decide +kernel) (fun q9 H locs X => ?_)
      refine lv_astore (lv' := [(4, .ref q9), (0, .ref (ad 14)), (1, .int x1), (2, .int x2), (3, .ref (ad 24))]) hx hb dL_common_13 hl (by decide) rfl (fun ls hl => ?_)
      refine lv_iconst (v := (1 : Int32)) hx hb dL_common_15 rfl ?_
      cases hf
      exact xe_i6 hx hb hr hlocks X dL_common_16
    cases hf
  · refine xc_V1 (rest := [.int (0 : Int32), .ref (ad 24)]) ⟨hx, hb, hml, hown, hts⟩ (mX5_common (exo_s hv1 h9)) (cwV 2 hts gL_common_X5_common rfl rfl rfl hqX5_common ⟨Nat.le_of_ble_eq_true rfl, Nat.le_of_ble_eq_true rfl⟩) X (va_recv X.1 X.2.1 (ci := 1) (q0 := 14) rfl wlC_14) rfl hl.1 rfl (Nat.le_of_ble_eq_true rfl) dL_common_5 ⟨Nat.zero_le _, Nat.zero_le _⟩ (fun H locs X => ?_)
    refine lv_i2l (v := (r2.toInt64)) hx hb dL_common_8 rfl ?_
    refine xa_last hx hb X 24 wlC_24 wlC_s_ol dL_common_9 hf (fun g3 H locs hf X => ?_)
    refine lv_goto (tgt := 17) hx hb dL_common_10 rfl ?_
    refine lv_iconst (v := (0 : Int32)) hx hb dL_common_17 rfl ?_
    cases hf
    refine W.widen (k := 1) (n := 6) (by decide) (by decide) ?_
    exact xe_i6 hx hb hr hlocks X dL_common_18
set_option maxRecDepth 100000 in
set_option maxHeartbeats 4000000 in
theorem mL_commonEnd {l : Launch} {dd : va_G} {cy : Nat → ClassId} {ad : Nat → Nat} {A : Nat → Prop} {fu : Nat} {ts : Nat → Int32} {tc : Nat → Nat → Int32} {rk : Nat → Int32} {pl : Nat → Int32} {ru : Nat → Int64} {sl : Nat → Int32} {bg : Nat → Int32} {kn : Nat → Int64} {rm : Int32} {ol : Nat → Int64} {od : Nat → UInt64} {x1 : Int32} {x2 : Int32} {rv : Int32} {olo : Nat → Int64} (htr : l.stackTraces = false) (hf : fL_commonEnd fu ts tc ol x1 x2 = some (rv, olo)) : Met l yL_commonEnd wsL_commonEnd { frames := 8, cells := 1, slots := 6, locals := 143 } (va_Pc [.ref (ad 14), .int x1, .int x2, .ref (ad 24)] (IT dd cy A (wlC ad cy ts tc rk pl ru sl bg kn rm ol od))) (QX dd cy A (some (.int rv)) (wlC ad cy ts tc rk pl ru sl bg kn rm olo od)) 1 6 A := by
  refine va_MetW (cc := cL_commonEnd) (maxL := 5) (ret := some .int) (by decide) rfl ?_
  intro p e s m args below meth c s₁ B hml hv
  obtain ⟨hav, hI, hT⟩ := hv
  have hx := B.exec
  have hb := B.bytes
  have hr := B.returns
  have hts := atoms_spec (ws := wsL_commonEnd) B.pre
  have hown : s.vm.findClass RL = some m.cls := findClass_of_methodNamed B.named
  have hlocks := B.notSynchronized
  have X := XW.of hI
  have htab : c.exceptionTable.toList = tableOf [(0, 10, 13, 13)] := vx_table (x := yL_commonEnd) B (hts (.codeWith yL_commonEnd cL_commonEnd 5 (some .int) [(0, 10, 13, 13)]) List.mem_cons_self)
  refine xe_in hav (Nat.le_of_ble_eq_true rfl) rfl (fun ls hl => ?_)
  rw [fL_commonEnd] at hf
  refine lv_aload_n hx hb dL_commonEnd_0 rfl (lv_at hl 3 rfl) ?_
  refine lv_iconst (v := (0 : Int32)) hx hb dL_commonEnd_1 rfl ?_
  refine lv_aload_n hx hb dL_commonEnd_2 rfl (lv_at hl 0 rfl) ?_
  refine lv_iload_n hx hb dL_commonEnd_3 rfl (lv_at hl 1 rfl) ?_
  refine lv_iload_n hx hb dL_commonEnd_4 rfl (lv_at hl 2 rfl) ?_
  refine xb hf (fun v1 hv1 hf => ?_)
  refine exb_c hf (fun e9 h9 hf => ?_) (fun r2 h9 hf => ?_)
  · refine xr_str hf (fun he hf => ?_) (fun hf => ?_)
    · subst he
      refine xt_VC (rest := [.int (0 : Int32), .ref (ad 24)]) ⟨hx, hb, hml, hown, hts⟩ (eX5_commonEnd htr (exo_s hv1 h9)) (cwV 2 hts gL_commonEnd_X5_commonEnd rfl rfl rfl hqX5_commonEnd ⟨Nat.le_of_ble_eq_true rfl, Nat.le_of_ble_eq_true rfl⟩) X hT (va_recv X.1 X.2.1 (ci := 1) (q0 := 14) rfl wlC_14) rfl hl.1 rfl (Nat.le_of_ble_eq_true rfl) dL_commonEnd_5 ⟨Nat.le_of_ble_eq_true rfl, Nat.le_of_ble_eq_true rfl⟩ [] ⟨0, 10, 13, 13⟩ [] htab xt_p0 (by decide) (by decide) (by decide +kernel) (by decide +kernel) (fun q9 H locs X => ?_)
      refine lv_astore (lv' := [(4, .ref q9), (0, .ref (ad 14)), (1, .int x1), (2, .int x2), (3, .ref (ad 24))]) hx hb dL_commonEnd_13 hl (by decide) rfl (fun ls hl => ?_)
      refine lv_iconst (v := (1 : Int32)) hx hb dL_commonEnd_15 rfl ?_
      cases hf
      exact xe_i6 hx hb hr hlocks X dL_commonEnd_16
    cases hf
  · refine xc_V1 (rest := [.int (0 : Int32), .ref (ad 24)]) ⟨hx, hb, hml, hown, hts⟩ (mX5_commonEnd (exo_s hv1 h9)) (cwV 2 hts gL_commonEnd_X5_commonEnd rfl rfl rfl hqX5_commonEnd ⟨Nat.le_of_ble_eq_true rfl, Nat.le_of_ble_eq_true rfl⟩) X (va_recv X.1 X.2.1 (ci := 1) (q0 := 14) rfl wlC_14) rfl hl.1 rfl (Nat.le_of_ble_eq_true rfl) dL_commonEnd_5 ⟨Nat.zero_le _, Nat.zero_le _⟩ (fun H locs X => ?_)
    refine lv_i2l (v := (r2.toInt64)) hx hb dL_commonEnd_8 rfl ?_
    refine xa_last hx hb X 24 wlC_24 wlC_s_ol dL_commonEnd_9 hf (fun g3 H locs hf X => ?_)
    refine lv_goto (tgt := 17) hx hb dL_commonEnd_10 rfl ?_
    refine lv_iconst (v := (0 : Int32)) hx hb dL_commonEnd_17 rfl ?_
    cases hf
    refine W.widen (k := 1) (n := 6) (by decide) (by decide) ?_
    exact xe_i6 hx hb hr hlocks X dL_commonEnd_18
set_option maxRecDepth 100000 in
set_option maxHeartbeats 4000000 in
theorem mL_hash {l : Launch} {dd : va_G} {cy : Nat → ClassId} {ad : Nat → Nat} {A : Nat → Prop} {fu : Nat} {ts : Nat → Int32} {tc : Nat → Nat → Int32} {rk : Nat → Int32} {pl : Nat → Int32} {ru : Nat → Int64} {sl : Nat → Int32} {bg : Nat → Int32} {kn : Nat → Int64} {rm : Int32} {ol : Nat → Int64} {od : Nat → UInt64} {x1 : Int32} {rv : Int32} {olo : Nat → Int64} (htr : l.stackTraces = false) (hf : fL_hash fu ts tc ol x1 = some (rv, olo)) : Met l yL_hash wsL_hash { frames := 8, cells := 1, slots := 6, locals := 142 } (va_Pc [.ref (ad 14), .int x1, .ref (ad 24)] (IT dd cy A (wlC ad cy ts tc rk pl ru sl bg kn rm ol od))) (QX dd cy A (some (.int rv)) (wlC ad cy ts tc rk pl ru sl bg kn rm olo od)) 1 6 A := by
  refine va_MetW (cc := cL_hash) (maxL := 4) (ret := some .int) (by decide) rfl ?_
  intro p e s m args below meth c s₁ B hml hv
  obtain ⟨hav, hI, hT⟩ := hv
  have hx := B.exec
  have hb := B.bytes
  have hr := B.returns
  have hts := atoms_spec (ws := wsL_hash) B.pre
  have hown : s.vm.findClass RL = some m.cls := findClass_of_methodNamed B.named
  have hlocks := B.notSynchronized
  have X := XW.of hI
  have htab : c.exceptionTable.toList = tableOf [(0, 9, 12, 13)] := vx_table (x := yL_hash) B (hts (.codeWith yL_hash cL_hash 4 (some .int) [(0, 9, 12, 13)]) List.mem_cons_self)
  refine xe_in hav (Nat.le_of_ble_eq_true rfl) rfl (fun ls hl => ?_)
  rw [fL_hash] at hf
  refine lv_aload_n hx hb dL_hash_0 rfl (lv_at hl 2 rfl) ?_
  refine lv_iconst (v := (0 : Int32)) hx hb dL_hash_1 rfl ?_
  refine lv_aload_n hx hb dL_hash_2 rfl (lv_at hl 0 rfl) ?_
  refine lv_iload_n hx hb dL_hash_3 rfl (lv_at hl 1 rfl) ?_
  refine xb hf (fun v1 hv1 hf => ?_)
  refine exb_c hf (fun e9 h9 hf => ?_) (fun r2 h9 hf => ?_)
  · refine xr_str hf (fun he hf => ?_) (fun hf => ?_)
    · subst he
      refine xt_VC (rest := [.int (0 : Int32), .ref (ad 24)]) ⟨hx, hb, hml, hown, hts⟩ (eX5_hash htr (exo_s hv1 h9)) (cwV 1 hts gL_hash_X5_hash rfl rfl rfl hqX5_hash ⟨Nat.le_of_ble_eq_true rfl, Nat.le_of_ble_eq_true rfl⟩) X hT (va_recv X.1 X.2.1 (ci := 1) (q0 := 14) rfl wlC_14) rfl hl.1 rfl (Nat.le_of_ble_eq_true rfl) dL_hash_4 ⟨Nat.le_of_ble_eq_true rfl, Nat.le_of_ble_eq_true rfl⟩ [] ⟨0, 9, 12, 13⟩ [] htab xt_p0 (by decide) (by decide) (by decide +kernel) (by decide +kernel) (fun q9 H locs X => ?_)
      refine lv_astore_n (lv' := [(3, .ref q9), (0, .ref (ad 14)), (1, .int x1), (2, .ref (ad 24))]) hx hb dL_hash_12 rfl hl (by decide) rfl (fun ls hl => ?_)
      refine lv_iconst (v := (1 : Int32)) hx hb dL_hash_13 rfl ?_
      cases hf
      exact xe_i6 hx hb hr hlocks X dL_hash_14
    cases hf
  · refine xc_V1 (rest := [.int (0 : Int32), .ref (ad 24)]) ⟨hx, hb, hml, hown, hts⟩ (mX5_hash (exo_s hv1 h9)) (cwV 1 hts gL_hash_X5_hash rfl rfl rfl hqX5_hash ⟨Nat.le_of_ble_eq_true rfl, Nat.le_of_ble_eq_true rfl⟩) X (va_recv X.1 X.2.1 (ci := 1) (q0 := 14) rfl wlC_14) rfl hl.1 rfl (Nat.le_of_ble_eq_true rfl) dL_hash_4 ⟨Nat.zero_le _, Nat.zero_le _⟩ (fun H locs X => ?_)
    refine lv_i2l (v := (r2.toInt64)) hx hb dL_hash_7 rfl ?_
    refine xa_last hx hb X 24 wlC_24 wlC_s_ol dL_hash_8 hf (fun g3 H locs hf X => ?_)
    refine lv_goto (tgt := 15) hx hb dL_hash_9 rfl ?_
    refine lv_iconst (v := (0 : Int32)) hx hb dL_hash_15 rfl ?_
    cases hf
    refine W.widen (k := 1) (n := 6) (by decide) (by decide) ?_
    exact xe_i6 hx hb hr hlocks X dL_hash_16
set_option maxRecDepth 100000 in
set_option maxHeartbeats 4000000 in
theorem mL_hashJoined {l : Launch} {dd : va_G} {cy : Nat → ClassId} {ad : Nat → Nat} {A : Nat → Prop} {fu : Nat} {ts : Nat → Int32} {tc : Nat → Nat → Int32} {rk : Nat → Int32} {pl : Nat → Int32} {ru : Nat → Int64} {sl : Nat → Int32} {bg : Nat → Int32} {kn : Nat → Int64} {rm : Int32} {ol : Nat → Int64} {od : Nat → UInt64} {x1 : Int32} {x2 : Int32} {rv : Int32} {olo : Nat → Int64} (htr : l.stackTraces = false) (hf : fL_hashJoined fu ts tc ol x1 x2 = some (rv, olo)) : Met l yL_hashJoined wsL_hashJoined { frames := 8, cells := 1, slots := 6, locals := 145 } (va_Pc [.ref (ad 14), .int x1, .int x2, .ref (ad 24)] (IT dd cy A (wlC ad cy ts tc rk pl ru sl bg kn rm ol od))) (QX dd cy A (some (.int rv)) (wlC ad cy ts tc rk pl ru sl bg kn rm olo od)) 1 6 A := by
  refine va_MetW (cc := cL_hashJoined) (maxL := 5) (ret := some .int) (by decide) rfl ?_
  intro p e s m args below meth c s₁ B hml hv
  obtain ⟨hav, hI, hT⟩ := hv
  have hx := B.exec
  have hb := B.bytes
  have hr := B.returns
  have hts := atoms_spec (ws := wsL_hashJoined) B.pre
  have hown : s.vm.findClass RL = some m.cls := findClass_of_methodNamed B.named
  have hlocks := B.notSynchronized
  have X := XW.of hI
  have htab : c.exceptionTable.toList = tableOf [(0, 10, 13, 13)] := vx_table (x := yL_hashJoined) B (hts (.codeWith yL_hashJoined cL_hashJoined 5 (some .int) [(0, 10, 13, 13)]) List.mem_cons_self)
  refine xe_in hav (Nat.le_of_ble_eq_true rfl) rfl (fun ls hl => ?_)
  rw [fL_hashJoined] at hf
  refine lv_aload_n hx hb dL_hashJoined_0 rfl (lv_at hl 3 rfl) ?_
  refine lv_iconst (v := (0 : Int32)) hx hb dL_hashJoined_1 rfl ?_
  refine lv_aload_n hx hb dL_hashJoined_2 rfl (lv_at hl 0 rfl) ?_
  refine lv_iload_n hx hb dL_hashJoined_3 rfl (lv_at hl 1 rfl) ?_
  refine lv_iload_n hx hb dL_hashJoined_4 rfl (lv_at hl 2 rfl) ?_
  refine xb hf (fun v1 hv1 hf => ?_)
  refine exb_c hf (fun e9 h9 hf => ?_) (fun r2 h9 hf => ?_)
  · refine xr_str hf (fun he hf => ?_) (fun hf => ?_)
    · subst he
      refine xt_VC (rest := [.int (0 : Int32), .ref (ad 24)]) ⟨hx, hb, hml, hown, hts⟩ (eX5_hashJoined htr (exo_s hv1 h9)) (cwV 2 hts gL_hashJoined_X5_hashJoined rfl rfl rfl hqX5_hashJoined ⟨Nat.le_of_ble_eq_true rfl, Nat.le_of_ble_eq_true rfl⟩) X hT (va_recv X.1 X.2.1 (ci := 1) (q0 := 14) rfl wlC_14) rfl hl.1 rfl (Nat.le_of_ble_eq_true rfl) dL_hashJoined_5 ⟨Nat.le_of_ble_eq_true rfl, Nat.le_of_ble_eq_true rfl⟩ [] ⟨0, 10, 13, 13⟩ [] htab xt_p0 (by decide) (by decide) (by decide +kernel) (by decide +kernel) (fun q9 H locs X => ?_)
      refine lv_astore (lv' := [(4, .ref q9), (0, .ref (ad 14)), (1, .int x1), (2, .int x2), (3, .ref (ad 24))]) hx hb dL_hashJoined_13 hl (by decide) rfl (fun ls hl => ?_)
      refine lv_iconst (v := (1 : Int32)) hx hb dL_hashJoined_15 rfl ?_
      cases hf
      exact xe_i6 hx hb hr hlocks X dL_hashJoined_16
    cases hf
  · refine xc_V1 (rest := [.int (0 : Int32), .ref (ad 24)]) ⟨hx, hb, hml, hown, hts⟩ (mX5_hashJoined (exo_s hv1 h9)) (cwV 2 hts gL_hashJoined_X5_hashJoined rfl rfl rfl hqX5_hashJoined ⟨Nat.le_of_ble_eq_true rfl, Nat.le_of_ble_eq_true rfl⟩) X (va_recv X.1 X.2.1 (ci := 1) (q0 := 14) rfl wlC_14) rfl hl.1 rfl (Nat.le_of_ble_eq_true rfl) dL_hashJoined_5 ⟨Nat.zero_le _, Nat.zero_le _⟩ (fun H locs X => ?_)
    refine lv_i2l (v := (r2.toInt64)) hx hb dL_hashJoined_8 rfl ?_
    refine xa_last hx hb X 24 wlC_24 wlC_s_ol dL_hashJoined_9 hf (fun g3 H locs hf X => ?_)
    refine lv_goto (tgt := 17) hx hb dL_hashJoined_10 rfl ?_
    refine lv_iconst (v := (0 : Int32)) hx hb dL_hashJoined_17 rfl ?_
    cases hf
    refine W.widen (k := 1) (n := 6) (by decide) (by decide) ?_
    exact xe_i6 hx hb hr hlocks X dL_hashJoined_18
set_option maxRecDepth 100000 in
set_option maxHeartbeats 4000000 in
theorem mL_hashRepeated {l : Launch} {dd : va_G} {cy : Nat → ClassId} {ad : Nat → Nat} {A : Nat → Prop} {fu : Nat} {ts : Nat → Int32} {tc : Nat → Nat → Int32} {rk : Nat → Int32} {pl : Nat → Int32} {ru : Nat → Int64} {sl : Nat → Int32} {bg : Nat → Int32} {kn : Nat → Int64} {rm : Int32} {ol : Nat → Int64} {od : Nat → UInt64} {x1 : Int32} {x2 : Int32} {rv : Int32} {olo : Nat → Int64} (htr : l.stackTraces = false) (hf : fL_hashRepeated fu ts tc ol x1 x2 = some (rv, olo)) : Met l yL_hashRepeated wsL_hashRepeated { frames := 8, cells := 1, slots := 6, locals := 148 } (va_Pc [.ref (ad 14), .int x1, .int x2, .ref (ad 24)] (IT dd cy A (wlC ad cy ts tc rk pl ru sl bg kn rm ol od))) (QX dd cy A (some (.int rv)) (wlC ad cy ts tc rk pl ru sl bg kn rm olo od)) 1 6 A := by
  refine va_MetW (cc := cL_hashRepeated) (maxL := 5) (ret := some .int) (by decide) rfl ?_
  intro p e s m args below meth c s₁ B hml hv
  obtain ⟨hav, hI, hT⟩ := hv
  have hx := B.exec
  have hb := B.bytes
  have hr := B.returns
  have hts := atoms_spec (ws := wsL_hashRepeated) B.pre
  have hown : s.vm.findClass RL = some m.cls := findClass_of_methodNamed B.named
  have hlocks := B.notSynchronized
  have X := XW.of hI
  have htab : c.exceptionTable.toList = tableOf [(0, 10, 13, 13), (0, 10, 17, 15)] := vx_table (x := yL_hashRepeated) B (hts (.codeWith yL_hashRepeated cL_hashRepeated 5 (some .int) [(0, 10, 13, 13), (0, 10, 17, 15)]) List.mem_cons_self)
  refine xe_in hav (Nat.le_of_ble_eq_true rfl) rfl (fun ls hl => ?_)
  rw [fL_hashRepeated] at hf
  refine lv_aload_n hx hb dL_hashRepeated_0 rfl (lv_at hl 3 rfl) ?_
  refine lv_iconst (v := (0 : Int32)) hx hb dL_hashRepeated_1 rfl ?_
  refine lv_aload_n hx hb dL_hashRepeated_2 rfl (lv_at hl 0 rfl) ?_
  refine lv_iload_n hx hb dL_hashRepeated_3 rfl (lv_at hl 1 rfl) ?_
  refine lv_iload_n hx hb dL_hashRepeated_4 rfl (lv_at hl 2 rfl) ?_
  refine xb hf (fun v1 hv1 hf => ?_)
  refine exb_c hf (fun e9 h9 hf => ?_) (fun r2 h9 hf => ?_)
  · refine xr_str hf (fun he hf => ?_) (fun hf => ?_)
    · subst he
      refine xt_VC (rest := [.int (0 : Int32), .ref (ad 24)]) ⟨hx, hb, hml, hown, hts⟩ (eX5_hashRepeated htr (exo_s hv1 h9)) (cwV 2 hts gL_hashRepeated_X5_hashRepeated rfl rfl rfl hqX5_hashRepeated ⟨Nat.le_of_ble_eq_true rfl, Nat.le_of_ble_eq_true rfl⟩) X hT (va_recv X.1 X.2.1 (ci := 1) (q0 := 14) rfl wlC_14) rfl hl.1 rfl (Nat.le_of_ble_eq_true rfl) dL_hashRepeated_5 ⟨Nat.le_of_ble_eq_true rfl, Nat.le_of_ble_eq_true rfl⟩ [] ⟨0, 10, 13, 13⟩ [⟨0, 10, 17, 15⟩] htab xt_p0 (by decide) (by decide) (by decide +kernel) (by decide +kernel) (fun q9 H locs X => ?_)
      refine lv_astore (lv' := [(4, .ref q9), (0, .ref (ad 14)), (1, .int x1), (2, .int x2), (3, .ref (ad 24))]) hx hb dL_hashRepeated_13 hl (by decide) rfl (fun ls hl => ?_)
      refine lv_iconst (v := (1 : Int32)) hx hb dL_hashRepeated_15 rfl ?_
      cases hf
      exact xe_i6 hx hb hr hlocks X dL_hashRepeated_16
    refine xr_str hf (fun he hf => ?_) (fun hf => ?_)
    · subst he
      refine xt_VC (rest := [.int (0 : Int32), .ref (ad 24)]) ⟨hx, hb, hml, hown, hts⟩ (eX5_hashRepeated htr (exo_s hv1 h9)) (cwV 2 hts gL_hashRepeated_X5_hashRepeated rfl rfl rfl hqX5_hashRepeated ⟨Nat.le_of_ble_eq_true rfl, Nat.le_of_ble_eq_true rfl⟩) X hT (va_recv X.1 X.2.1 (ci := 1) (q0 := 14) rfl wlC_14) rfl hl.1 rfl (Nat.le_of_ble_eq_true rfl) dL_hashRepeated_5 ⟨Nat.le_of_ble_eq_true rfl, Nat.le_of_ble_eq_true rfl⟩ [⟨0, 10, 13, 13⟩] ⟨0, 10, 17, 15⟩ [] htab (xt_p1 hts hT (nm := "java/lang/IndexOutOfBoundsException") (by decide) (by decide +kernel) (by decide +kernel) xt_p0) (by decide) (by decide) (by decide +kernel) (by decide +kernel) (fun q9 H locs X => ?_)
      refine lv_astore (lv' := [(4, .ref q9), (0, .ref (ad 14)), (1, .int x1), (2, .int x2), (3, .ref (ad 24))]) hx hb dL_hashRepeated_17 hl (by decide) rfl (fun ls hl => ?_)
      refine lv_iconst (v := (2 : Int32)) hx hb dL_hashRepeated_19 rfl ?_
      cases hf
      exact xe_i6 hx hb hr hlocks X dL_hashRepeated_20
    cases hf
  · refine xc_V1 (rest := [.int (0 : Int32), .ref (ad 24)]) ⟨hx, hb, hml, hown, hts⟩ (mX5_hashRepeated (exo_s hv1 h9)) (cwV 2 hts gL_hashRepeated_X5_hashRepeated rfl rfl rfl hqX5_hashRepeated ⟨Nat.le_of_ble_eq_true rfl, Nat.le_of_ble_eq_true rfl⟩) X (va_recv X.1 X.2.1 (ci := 1) (q0 := 14) rfl wlC_14) rfl hl.1 rfl (Nat.le_of_ble_eq_true rfl) dL_hashRepeated_5 ⟨Nat.zero_le _, Nat.zero_le _⟩ (fun H locs X => ?_)
    refine lv_i2l (v := (r2.toInt64)) hx hb dL_hashRepeated_8 rfl ?_
    refine xa_last hx hb X 24 wlC_24 wlC_s_ol dL_hashRepeated_9 hf (fun g3 H locs hf X => ?_)
    refine lv_goto (tgt := 21) hx hb dL_hashRepeated_10 rfl ?_
    refine lv_iconst (v := (0 : Int32)) hx hb dL_hashRepeated_21 rfl ?_
    cases hf
    refine W.widen (k := 1) (n := 6) (by decide) (by decide) ?_
    exact xe_i6 hx hb hr hlocks X dL_hashRepeated_22
set_option maxRecDepth 100000 in
set_option maxHeartbeats 4000000 in
theorem mL_periods {l : Launch} {dd : va_G} {cy : Nat → ClassId} {ad : Nat → Nat} {A : Nat → Prop} {fu : Nat} {ts : Nat → Int32} {tc : Nat → Nat → Int32} {rk : Nat → Int32} {pl : Nat → Int32} {ru : Nat → Int64} {sl : Nat → Int32} {bg : Nat → Int32} {kn : Nat → Int64} {rm : Int32} {ol : Nat → Int64} {od : Nat → UInt64} {x1 : Int32} {rv : Int32} {olo : Nat → Int64} (htr : l.stackTraces = false) (hf : fL_periods fu ts tc ol x1 = some (rv, olo)) : Met l yL_periods wsL_periods { frames := 8, cells := 1, slots := 6, locals := 142 } (va_Pc [.ref (ad 14), .int x1, .ref (ad 24)] (IT dd cy A (wlC ad cy ts tc rk pl ru sl bg kn rm ol od))) (QX dd cy A (some (.int rv)) (wlC ad cy ts tc rk pl ru sl bg kn rm olo od)) 1 6 A := by
  refine va_MetW (cc := cL_periods) (maxL := 4) (ret := some .int) (by decide) rfl ?_
  intro p e s m args below meth c s₁ B hml hv
  obtain ⟨hav, hI, hT⟩ := hv
  have hx := B.exec
  have hb := B.bytes
  have hr := B.returns
  have hts := atoms_spec (ws := wsL_periods) B.pre
  have hown : s.vm.findClass RL = some m.cls := findClass_of_methodNamed B.named
  have hlocks := B.notSynchronized
  have X := XW.of hI
  have htab : c.exceptionTable.toList = tableOf [(0, 9, 12, 13)] := vx_table (x := yL_periods) B (hts (.codeWith yL_periods cL_periods 4 (some .int) [(0, 9, 12, 13)]) List.mem_cons_self)
  refine xe_in hav (Nat.le_of_ble_eq_true rfl) rfl (fun ls hl => ?_)
  rw [fL_periods] at hf
  refine lv_aload_n hx hb dL_periods_0 rfl (lv_at hl 2 rfl) ?_
  refine lv_iconst (v := (0 : Int32)) hx hb dL_periods_1 rfl ?_
  refine lv_aload_n hx hb dL_periods_2 rfl (lv_at hl 0 rfl) ?_
  refine lv_iload_n hx hb dL_periods_3 rfl (lv_at hl 1 rfl) ?_
  refine xb hf (fun v1 hv1 hf => ?_)
  refine exb_c hf (fun e9 h9 hf => ?_) (fun r2 h9 hf => ?_)
  · refine xr_str hf (fun he hf => ?_) (fun hf => ?_)
    · subst he
      refine xt_VC (rest := [.int (0 : Int32), .ref (ad 24)]) ⟨hx, hb, hml, hown, hts⟩ (eX5_periods htr (exo_s hv1 h9)) (cwV 1 hts gL_periods_X5_periods rfl rfl rfl hqX5_periods ⟨Nat.le_of_ble_eq_true rfl, Nat.le_of_ble_eq_true rfl⟩) X hT (va_recv X.1 X.2.1 (ci := 1) (q0 := 14) rfl wlC_14) rfl hl.1 rfl (Nat.le_of_ble_eq_true rfl) dL_periods_4 ⟨Nat.le_of_ble_eq_true rfl, Nat.le_of_ble_eq_true rfl⟩ [] ⟨0, 9, 12, 13⟩ [] htab xt_p0 (by decide) (by decide) (by decide +kernel) (by decide +kernel) (fun q9 H locs X => ?_)
      refine lv_astore_n (lv' := [(3, .ref q9), (0, .ref (ad 14)), (1, .int x1), (2, .ref (ad 24))]) hx hb dL_periods_12 rfl hl (by decide) rfl (fun ls hl => ?_)
      refine lv_iconst (v := (1 : Int32)) hx hb dL_periods_13 rfl ?_
      cases hf
      exact xe_i6 hx hb hr hlocks X dL_periods_14
    cases hf
  · refine xc_V1 (rest := [.int (0 : Int32), .ref (ad 24)]) ⟨hx, hb, hml, hown, hts⟩ (mX5_periods (exo_s hv1 h9)) (cwV 1 hts gL_periods_X5_periods rfl rfl rfl hqX5_periods ⟨Nat.le_of_ble_eq_true rfl, Nat.le_of_ble_eq_true rfl⟩) X (va_recv X.1 X.2.1 (ci := 1) (q0 := 14) rfl wlC_14) rfl hl.1 rfl (Nat.le_of_ble_eq_true rfl) dL_periods_4 ⟨Nat.zero_le _, Nat.zero_le _⟩ (fun H locs X => ?_)
    refine lv_i2l (v := (r2.toInt64)) hx hb dL_periods_7 rfl ?_
    refine xa_last hx hb X 24 wlC_24 wlC_s_ol dL_periods_8 hf (fun g3 H locs hf X => ?_)
    refine lv_goto (tgt := 15) hx hb dL_periods_9 rfl ?_
    refine lv_iconst (v := (0 : Int32)) hx hb dL_periods_15 rfl ?_
    cases hf
    refine W.widen (k := 1) (n := 6) (by decide) (by decide) ?_
    exact xe_i6 hx hb hr hlocks X dL_periods_16
set_option maxRecDepth 100000 in
set_option maxHeartbeats 4000000 in
theorem mL_periodAt {l : Launch} {dd : va_G} {cy : Nat → ClassId} {ad : Nat → Nat} {A : Nat → Prop} {fu : Nat} {ts : Nat → Int32} {tc : Nat → Nat → Int32} {rk : Nat → Int32} {pl : Nat → Int32} {ru : Nat → Int64} {sl : Nat → Int32} {bg : Nat → Int32} {kn : Nat → Int64} {rm : Int32} {ol : Nat → Int64} {od : Nat → UInt64} {x1 : Int32} {x2 : Int32} {rv : Int32} {olo : Nat → Int64} (htr : l.stackTraces = false) (hf : fL_periodAt fu ts tc ol x1 x2 = some (rv, olo)) : Met l yL_periodAt wsL_periodAt { frames := 8, cells := 1, slots := 6, locals := 146 } (va_Pc [.ref (ad 14), .int x1, .int x2, .ref (ad 24)] (IT dd cy A (wlC ad cy ts tc rk pl ru sl bg kn rm ol od))) (QX dd cy A (some (.int rv)) (wlC ad cy ts tc rk pl ru sl bg kn rm olo od)) 1 6 A := by
  refine va_MetW (cc := cL_periodAt) (maxL := 5) (ret := some .int) (by decide) rfl ?_
  intro p e s m args below meth c s₁ B hml hv
  obtain ⟨hav, hI, hT⟩ := hv
  have hx := B.exec
  have hb := B.bytes
  have hr := B.returns
  have hts := atoms_spec (ws := wsL_periodAt) B.pre
  have hown : s.vm.findClass RL = some m.cls := findClass_of_methodNamed B.named
  have hlocks := B.notSynchronized
  have X := XW.of hI
  have htab : c.exceptionTable.toList = tableOf [(0, 10, 13, 13), (0, 10, 17, 95)] := vx_table (x := yL_periodAt) B (hts (.codeWith yL_periodAt cL_periodAt 5 (some .int) [(0, 10, 13, 13), (0, 10, 17, 95)]) List.mem_cons_self)
  refine xe_in hav (Nat.le_of_ble_eq_true rfl) rfl (fun ls hl => ?_)
  rw [fL_periodAt] at hf
  refine lv_aload_n hx hb dL_periodAt_0 rfl (lv_at hl 3 rfl) ?_
  refine lv_iconst (v := (0 : Int32)) hx hb dL_periodAt_1 rfl ?_
  refine lv_aload_n hx hb dL_periodAt_2 rfl (lv_at hl 0 rfl) ?_
  refine lv_iload_n hx hb dL_periodAt_3 rfl (lv_at hl 1 rfl) ?_
  refine lv_iload_n hx hb dL_periodAt_4 rfl (lv_at hl 2 rfl) ?_
  refine xb hf (fun v1 hv1 hf => ?_)
  refine exb_c hf (fun e9 h9 hf => ?_) (fun r2 h9 hf => ?_)
  · refine xr_str hf (fun he hf => ?_) (fun hf => ?_)
    · subst he
      refine xt_VC (rest := [.int (0 : Int32), .ref (ad 24)]) ⟨hx, hb, hml, hown, hts⟩ (eX5_periodAt htr (exo_s hv1 h9)) (cwV 2 hts gL_periodAt_X5_periodAt rfl rfl rfl hqX5_periodAt ⟨Nat.le_of_ble_eq_true rfl, Nat.le_of_ble_eq_true rfl⟩) X hT (va_recv X.1 X.2.1 (ci := 1) (q0 := 14) rfl wlC_14) rfl hl.1 rfl (Nat.le_of_ble_eq_true rfl) dL_periodAt_5 ⟨Nat.le_of_ble_eq_true rfl, Nat.le_of_ble_eq_true rfl⟩ [] ⟨0, 10, 13, 13⟩ [⟨0, 10, 17, 95⟩] htab xt_p0 (by decide) (by decide) (by decide +kernel) (by decide +kernel) (fun q9 H locs X => ?_)
      refine lv_astore (lv' := [(4, .ref q9), (0, .ref (ad 14)), (1, .int x1), (2, .int x2), (3, .ref (ad 24))]) hx hb dL_periodAt_13 hl (by decide) rfl (fun ls hl => ?_)
      refine lv_iconst (v := (1 : Int32)) hx hb dL_periodAt_15 rfl ?_
      cases hf
      exact xe_i6 hx hb hr hlocks X dL_periodAt_16
    refine xr_str hf (fun he hf => ?_) (fun hf => ?_)
    · subst he
      refine xt_VC (rest := [.int (0 : Int32), .ref (ad 24)]) ⟨hx, hb, hml, hown, hts⟩ (eX5_periodAt htr (exo_s hv1 h9)) (cwV 2 hts gL_periodAt_X5_periodAt rfl rfl rfl hqX5_periodAt ⟨Nat.le_of_ble_eq_true rfl, Nat.le_of_ble_eq_true rfl⟩) X hT (va_recv X.1 X.2.1 (ci := 1) (q0 := 14) rfl wlC_14) rfl hl.1 rfl (Nat.le_of_ble_eq_true rfl) dL_periodAt_5 ⟨Nat.le_of_ble_eq_true rfl, Nat.le_of_ble_eq_true rfl⟩ [⟨0, 10, 13, 13⟩] ⟨0, 10, 17, 95⟩ [] htab (xt_p1 hts hT (nm := "java/lang/IndexOutOfBoundsException") (by decide) (by decide +kernel) (by decide +kernel) xt_p0) (by decide) (by decide) (by decide +kernel) (by decide +kernel) (fun q9 H locs X => ?_)
      refine lv_astore (lv' := [(4, .ref q9), (0, .ref (ad 14)), (1, .int x1), (2, .int x2), (3, .ref (ad 24))]) hx hb dL_periodAt_17 hl (by decide) rfl (fun ls hl => ?_)
      refine lv_iconst (v := (2 : Int32)) hx hb dL_periodAt_19 rfl ?_
      cases hf
      exact xe_i6 hx hb hr hlocks X dL_periodAt_20
    cases hf
  · refine xc_V1 (rest := [.int (0 : Int32), .ref (ad 24)]) ⟨hx, hb, hml, hown, hts⟩ (mX5_periodAt (exo_s hv1 h9)) (cwV 2 hts gL_periodAt_X5_periodAt rfl rfl rfl hqX5_periodAt ⟨Nat.le_of_ble_eq_true rfl, Nat.le_of_ble_eq_true rfl⟩) X (va_recv X.1 X.2.1 (ci := 1) (q0 := 14) rfl wlC_14) rfl hl.1 rfl (Nat.le_of_ble_eq_true rfl) dL_periodAt_5 ⟨Nat.zero_le _, Nat.zero_le _⟩ (fun H locs X => ?_)
    refine lv_i2l (v := (r2.toInt64)) hx hb dL_periodAt_8 rfl ?_
    refine xa_last hx hb X 24 wlC_24 wlC_s_ol dL_periodAt_9 hf (fun g3 H locs hf X => ?_)
    refine lv_goto (tgt := 21) hx hb dL_periodAt_10 rfl ?_
    refine lv_iconst (v := (0 : Int32)) hx hb dL_periodAt_21 rfl ?_
    cases hf
    refine W.widen (k := 1) (n := 6) (by decide) (by decide) ?_
    exact xe_i6 hx hb hr hlocks X dL_periodAt_22
set_option maxRecDepth 100000 in
set_option maxHeartbeats 4000000 in
theorem mL_border {l : Launch} {dd : va_G} {cy : Nat → ClassId} {ad : Nat → Nat} {A : Nat → Prop} {fu : Nat} {ts : Nat → Int32} {tc : Nat → Nat → Int32} {rk : Nat → Int32} {pl : Nat → Int32} {ru : Nat → Int64} {sl : Nat → Int32} {bg : Nat → Int32} {kn : Nat → Int64} {rm : Int32} {ol : Nat → Int64} {od : Nat → UInt64} {x1 : Int32} {x2 : Int32} {rv : Int32} {tso : Nat → Int32} {tco : Nat → Nat → Int32} {olo : Nat → Int64} (htr : l.stackTraces = false) (hf : fL_border fu ts tc ol x1 x2 = some (rv, tso, tco, olo)) : Met l yL_border wsL_border { frames := 8, cells := 1, slots := 6, locals := 156 } (va_Pc [.ref (ad 14), .int x1, .int x2, .ref (ad 24)] (IT dd cy A (wlC ad cy ts tc rk pl ru sl bg kn rm ol od))) (QX dd cy A (some (.int rv)) (wlC ad cy tso tco rk pl ru sl bg kn rm olo od)) 1 6 A := by
  refine va_MetW (cc := cL_border) (maxL := 5) (ret := some .int) (by decide) rfl ?_
  intro p e s m args below meth c s₁ B hml hv
  obtain ⟨hav, hI, hT⟩ := hv
  have hx := B.exec
  have hb := B.bytes
  have hr := B.returns
  have hts := atoms_spec (ws := wsL_border) B.pre
  have hown : s.vm.findClass RL = some m.cls := findClass_of_methodNamed B.named
  have hlocks := B.notSynchronized
  have X := XW.of hI
  have htab : c.exceptionTable.toList = tableOf [(0, 10, 13, 13), (0, 10, 17, 55)] := vx_table (x := yL_border) B (hts (.codeWith yL_border cL_border 5 (some .int) [(0, 10, 13, 13), (0, 10, 17, 55)]) List.mem_cons_self)
  refine xe_in hav (Nat.le_of_ble_eq_true rfl) rfl (fun ls hl => ?_)
  rw [fL_border] at hf
  refine lv_aload_n hx hb dL_border_0 rfl (lv_at hl 3 rfl) ?_
  refine lv_iconst (v := (0 : Int32)) hx hb dL_border_1 rfl ?_
  refine lv_aload_n hx hb dL_border_2 rfl (lv_at hl 0 rfl) ?_
  refine lv_iload_n hx hb dL_border_3 rfl (lv_at hl 1 rfl) ?_
  refine lv_iload_n hx hb dL_border_4 rfl (lv_at hl 2 rfl) ?_
  refine xb hf (fun v1 hv1 hf => ?_)
  refine exb_c hf (fun e9 h9 hf => ?_) (fun r2 h9 hf => ?_)
  · refine xr_str hf (fun he hf => ?_) (fun hf => ?_)
    · subst he
      refine xt_VC (rest := [.int (0 : Int32), .ref (ad 24)]) ⟨hx, hb, hml, hown, hts⟩ (eX5_border htr (exo_p hv1 h9)) (cwV 2 hts gL_border_X5_border rfl rfl rfl hqX5_border ⟨Nat.le_of_ble_eq_true rfl, Nat.le_of_ble_eq_true rfl⟩) X hT (va_recv X.1 X.2.1 (ci := 1) (q0 := 14) rfl wlC_14) rfl hl.1 rfl (Nat.le_of_ble_eq_true rfl) dL_border_5 ⟨Nat.le_of_ble_eq_true rfl, Nat.le_of_ble_eq_true rfl⟩ [] ⟨0, 10, 13, 13⟩ [⟨0, 10, 17, 55⟩] htab xt_p0 (by decide) (by decide) (by decide +kernel) (by decide +kernel) (fun q9 H locs X => ?_)
      refine lv_astore (lv' := [(4, .ref q9), (0, .ref (ad 14)), (1, .int x1), (2, .int x2), (3, .ref (ad 24))]) hx hb dL_border_13 hl (by decide) rfl (fun ls hl => ?_)
      refine lv_iconst (v := (1 : Int32)) hx hb dL_border_15 rfl ?_
      cases hf
      exact xe_i6 hx hb hr hlocks X dL_border_16
    refine xr_str hf (fun he hf => ?_) (fun hf => ?_)
    · subst he
      refine xt_VC (rest := [.int (0 : Int32), .ref (ad 24)]) ⟨hx, hb, hml, hown, hts⟩ (eX5_border htr (exo_p hv1 h9)) (cwV 2 hts gL_border_X5_border rfl rfl rfl hqX5_border ⟨Nat.le_of_ble_eq_true rfl, Nat.le_of_ble_eq_true rfl⟩) X hT (va_recv X.1 X.2.1 (ci := 1) (q0 := 14) rfl wlC_14) rfl hl.1 rfl (Nat.le_of_ble_eq_true rfl) dL_border_5 ⟨Nat.le_of_ble_eq_true rfl, Nat.le_of_ble_eq_true rfl⟩ [⟨0, 10, 13, 13⟩] ⟨0, 10, 17, 55⟩ [] htab (xt_p1 hts hT (nm := "java/lang/IndexOutOfBoundsException") (by decide) (by decide +kernel) (by decide +kernel) xt_p0) (by decide) (by decide) (by decide +kernel) (by decide +kernel) (fun q9 H locs X => ?_)
      refine lv_astore (lv' := [(4, .ref q9), (0, .ref (ad 14)), (1, .int x1), (2, .int x2), (3, .ref (ad 24))]) hx hb dL_border_17 hl (by decide) rfl (fun ls hl => ?_)
      refine lv_iconst (v := (2 : Int32)) hx hb dL_border_19 rfl ?_
      cases hf
      exact xe_i6 hx hb hr hlocks X dL_border_20
    cases hf
  · refine xc_V1 (rest := [.int (0 : Int32), .ref (ad 24)]) ⟨hx, hb, hml, hown, hts⟩ (mX5_border (exo_p hv1 h9)) (cwV 2 hts gL_border_X5_border rfl rfl rfl hqX5_border ⟨Nat.le_of_ble_eq_true rfl, Nat.le_of_ble_eq_true rfl⟩) X (va_recv X.1 X.2.1 (ci := 1) (q0 := 14) rfl wlC_14) rfl hl.1 rfl (Nat.le_of_ble_eq_true rfl) dL_border_5 ⟨Nat.zero_le _, Nat.zero_le _⟩ (fun H locs X => ?_)
    refine lv_i2l (v := (r2.toInt64)) hx hb dL_border_8 rfl ?_
    refine xa_last hx hb X 24 wlC_24 wlC_s_ol dL_border_9 hf (fun g3 H locs hf X => ?_)
    refine lv_goto (tgt := 21) hx hb dL_border_10 rfl ?_
    refine lv_iconst (v := (0 : Int32)) hx hb dL_border_21 rfl ?_
    cases hf
    refine W.widen (k := 1) (n := 6) (by decide) (by decide) ?_
    exact xe_i6 hx hb hr hlocks X dL_border_22
set_option maxRecDepth 100000 in
set_option maxHeartbeats 4000000 in
theorem mL_root {l : Launch} {dd : va_G} {cy : Nat → ClassId} {ad : Nat → Nat} {A : Nat → Prop} {fu : Nat} {ts : Nat → Int32} {tc : Nat → Nat → Int32} {rk : Nat → Int32} {pl : Nat → Int32} {ru : Nat → Int64} {sl : Nat → Int32} {bg : Nat → Int32} {kn : Nat → Int64} {rm : Int32} {ol : Nat → Int64} {od : Nat → UInt64} {x1 : Int32} {x2 : Int32} {rv : Int32} {tso : Nat → Int32} {tco : Nat → Nat → Int32} {olo : Nat → Int64} (htr : l.stackTraces = false) (hf : fL_root fu ts tc ol x1 x2 = some (rv, tso, tco, olo)) : Met l yL_root wsL_root { frames := 8, cells := 1, slots := 6, locals := 158 } (va_Pc [.ref (ad 14), .int x1, .int x2, .ref (ad 24)] (IT dd cy A (wlC ad cy ts tc rk pl ru sl bg kn rm ol od))) (QX dd cy A (some (.int rv)) (wlC ad cy tso tco rk pl ru sl bg kn rm olo od)) 1 6 A := by
  refine va_MetW (cc := cL_root) (maxL := 5) (ret := some .int) (by decide) rfl ?_
  intro p e s m args below meth c s₁ B hml hv
  obtain ⟨hav, hI, hT⟩ := hv
  have hx := B.exec
  have hb := B.bytes
  have hr := B.returns
  have hts := atoms_spec (ws := wsL_root) B.pre
  have hown : s.vm.findClass RL = some m.cls := findClass_of_methodNamed B.named
  have hlocks := B.notSynchronized
  have X := XW.of hI
  have htab : c.exceptionTable.toList = tableOf [(0, 10, 13, 13), (0, 10, 17, 55)] := vx_table (x := yL_root) B (hts (.codeWith yL_root cL_root 5 (some .int) [(0, 10, 13, 13), (0, 10, 17, 55)]) List.mem_cons_self)
  refine xe_in hav (Nat.le_of_ble_eq_true rfl) rfl (fun ls hl => ?_)
  rw [fL_root] at hf
  refine lv_aload_n hx hb dL_root_0 rfl (lv_at hl 3 rfl) ?_
  refine lv_iconst (v := (0 : Int32)) hx hb dL_root_1 rfl ?_
  refine lv_aload_n hx hb dL_root_2 rfl (lv_at hl 0 rfl) ?_
  refine lv_iload_n hx hb dL_root_3 rfl (lv_at hl 1 rfl) ?_
  refine lv_iload_n hx hb dL_root_4 rfl (lv_at hl 2 rfl) ?_
  refine xb hf (fun v1 hv1 hf => ?_)
  refine exb_c hf (fun e9 h9 hf => ?_) (fun r2 h9 hf => ?_)
  · refine xr_str hf (fun he hf => ?_) (fun hf => ?_)
    · subst he
      refine xt_VC (rest := [.int (0 : Int32), .ref (ad 24)]) ⟨hx, hb, hml, hown, hts⟩ (eX5_root htr (exo_p hv1 h9)) (cwV 2 hts gL_root_X5_root rfl rfl rfl hqX5_root ⟨Nat.le_of_ble_eq_true rfl, Nat.le_of_ble_eq_true rfl⟩) X hT (va_recv X.1 X.2.1 (ci := 1) (q0 := 14) rfl wlC_14) rfl hl.1 rfl (Nat.le_of_ble_eq_true rfl) dL_root_5 ⟨Nat.le_of_ble_eq_true rfl, Nat.le_of_ble_eq_true rfl⟩ [] ⟨0, 10, 13, 13⟩ [⟨0, 10, 17, 55⟩] htab xt_p0 (by decide) (by decide) (by decide +kernel) (by decide +kernel) (fun q9 H locs X => ?_)
      refine lv_astore (lv' := [(4, .ref q9), (0, .ref (ad 14)), (1, .int x1), (2, .int x2), (3, .ref (ad 24))]) hx hb dL_root_13 hl (by decide) rfl (fun ls hl => ?_)
      refine lv_iconst (v := (1 : Int32)) hx hb dL_root_15 rfl ?_
      cases hf
      exact xe_i6 hx hb hr hlocks X dL_root_16
    refine xr_str hf (fun he hf => ?_) (fun hf => ?_)
    · subst he
      refine xt_VC (rest := [.int (0 : Int32), .ref (ad 24)]) ⟨hx, hb, hml, hown, hts⟩ (eX5_root htr (exo_p hv1 h9)) (cwV 2 hts gL_root_X5_root rfl rfl rfl hqX5_root ⟨Nat.le_of_ble_eq_true rfl, Nat.le_of_ble_eq_true rfl⟩) X hT (va_recv X.1 X.2.1 (ci := 1) (q0 := 14) rfl wlC_14) rfl hl.1 rfl (Nat.le_of_ble_eq_true rfl) dL_root_5 ⟨Nat.le_of_ble_eq_true rfl, Nat.le_of_ble_eq_true rfl⟩ [⟨0, 10, 13, 13⟩] ⟨0, 10, 17, 55⟩ [] htab (xt_p1 hts hT (nm := "java/lang/IndexOutOfBoundsException") (by decide) (by decide +kernel) (by decide +kernel) xt_p0) (by decide) (by decide) (by decide +kernel) (by decide +kernel) (fun q9 H locs X => ?_)
      refine lv_astore (lv' := [(4, .ref q9), (0, .ref (ad 14)), (1, .int x1), (2, .int x2), (3, .ref (ad 24))]) hx hb dL_root_17 hl (by decide) rfl (fun ls hl => ?_)
      refine lv_iconst (v := (2 : Int32)) hx hb dL_root_19 rfl ?_
      cases hf
      exact xe_i6 hx hb hr hlocks X dL_root_20
    cases hf
  · refine xc_V1 (rest := [.int (0 : Int32), .ref (ad 24)]) ⟨hx, hb, hml, hown, hts⟩ (mX5_root (exo_p hv1 h9)) (cwV 2 hts gL_root_X5_root rfl rfl rfl hqX5_root ⟨Nat.le_of_ble_eq_true rfl, Nat.le_of_ble_eq_true rfl⟩) X (va_recv X.1 X.2.1 (ci := 1) (q0 := 14) rfl wlC_14) rfl hl.1 rfl (Nat.le_of_ble_eq_true rfl) dL_root_5 ⟨Nat.zero_le _, Nat.zero_le _⟩ (fun H locs X => ?_)
    refine lv_i2l (v := (r2.toInt64)) hx hb dL_root_8 rfl ?_
    refine xa_last hx hb X 24 wlC_24 wlC_s_ol dL_root_9 hf (fun g3 H locs hf X => ?_)
    refine lv_goto (tgt := 21) hx hb dL_root_10 rfl ?_
    refine lv_iconst (v := (0 : Int32)) hx hb dL_root_21 rfl ?_
    cases hf
    refine W.widen (k := 1) (n := 6) (by decide) (by decide) ?_
    exact xe_i6 hx hb hr hlocks X dL_root_22
set_option maxRecDepth 100000 in
set_option maxHeartbeats 4000000 in
theorem mL_turnTo {l : Launch} {dd : va_G} {cy : Nat → ClassId} {ad : Nat → Nat} {A : Nat → Prop} {fu : Nat} {ts : Nat → Int32} {tc : Nat → Nat → Int32} {rk : Nat → Int32} {pl : Nat → Int32} {ru : Nat → Int64} {sl : Nat → Int32} {bg : Nat → Int32} {kn : Nat → Int64} {rm : Int32} {ol : Nat → Int64} {od : Nat → UInt64} {x1 : Int32} {x2 : Int32} {rv : Int32} {olo : Nat → Int64} (htr : l.stackTraces = false) (hf : fL_turnTo fu ts tc ol x1 x2 = some (rv, olo)) : Met l yL_turnTo wsL_turnTo { frames := 8, cells := 1, slots := 6, locals := 146 } (va_Pc [.ref (ad 14), .int x1, .int x2, .ref (ad 24)] (IT dd cy A (wlC ad cy ts tc rk pl ru sl bg kn rm ol od))) (QX dd cy A (some (.int rv)) (wlC ad cy ts tc rk pl ru sl bg kn rm olo od)) 1 6 A := by
  refine va_MetW (cc := cL_turnTo) (maxL := 5) (ret := some .int) (by decide) rfl ?_
  intro p e s m args below meth c s₁ B hml hv
  obtain ⟨hav, hI, hT⟩ := hv
  have hx := B.exec
  have hb := B.bytes
  have hr := B.returns
  have hts := atoms_spec (ws := wsL_turnTo) B.pre
  have hown : s.vm.findClass RL = some m.cls := findClass_of_methodNamed B.named
  have hlocks := B.notSynchronized
  have X := XW.of hI
  have htab : c.exceptionTable.toList = tableOf [(0, 10, 13, 13)] := vx_table (x := yL_turnTo) B (hts (.codeWith yL_turnTo cL_turnTo 5 (some .int) [(0, 10, 13, 13)]) List.mem_cons_self)
  refine xe_in hav (Nat.le_of_ble_eq_true rfl) rfl (fun ls hl => ?_)
  rw [fL_turnTo] at hf
  refine lv_aload_n hx hb dL_turnTo_0 rfl (lv_at hl 3 rfl) ?_
  refine lv_iconst (v := (0 : Int32)) hx hb dL_turnTo_1 rfl ?_
  refine lv_aload_n hx hb dL_turnTo_2 rfl (lv_at hl 0 rfl) ?_
  refine lv_iload_n hx hb dL_turnTo_3 rfl (lv_at hl 1 rfl) ?_
  refine lv_iload_n hx hb dL_turnTo_4 rfl (lv_at hl 2 rfl) ?_
  refine xb hf (fun v1 hv1 hf => ?_)
  refine exb_c hf (fun e9 h9 hf => ?_) (fun r2 h9 hf => ?_)
  · refine xr_str hf (fun he hf => ?_) (fun hf => ?_)
    · subst he
      refine xt_VC (rest := [.int (0 : Int32), .ref (ad 24)]) ⟨hx, hb, hml, hown, hts⟩ (eX5_turnTo htr (exo_s hv1 h9)) (cwV 2 hts gL_turnTo_X5_turnTo rfl rfl rfl hqX5_turnTo ⟨Nat.le_of_ble_eq_true rfl, Nat.le_of_ble_eq_true rfl⟩) X hT (va_recv X.1 X.2.1 (ci := 1) (q0 := 14) rfl wlC_14) rfl hl.1 rfl (Nat.le_of_ble_eq_true rfl) dL_turnTo_5 ⟨Nat.le_of_ble_eq_true rfl, Nat.le_of_ble_eq_true rfl⟩ [] ⟨0, 10, 13, 13⟩ [] htab xt_p0 (by decide) (by decide) (by decide +kernel) (by decide +kernel) (fun q9 H locs X => ?_)
      refine lv_astore (lv' := [(4, .ref q9), (0, .ref (ad 14)), (1, .int x1), (2, .int x2), (3, .ref (ad 24))]) hx hb dL_turnTo_13 hl (by decide) rfl (fun ls hl => ?_)
      refine lv_iconst (v := (1 : Int32)) hx hb dL_turnTo_15 rfl ?_
      cases hf
      exact xe_i6 hx hb hr hlocks X dL_turnTo_16
    cases hf
  · refine xc_V1 (rest := [.int (0 : Int32), .ref (ad 24)]) ⟨hx, hb, hml, hown, hts⟩ (mX5_turnTo (exo_s hv1 h9)) (cwV 2 hts gL_turnTo_X5_turnTo rfl rfl rfl hqX5_turnTo ⟨Nat.le_of_ble_eq_true rfl, Nat.le_of_ble_eq_true rfl⟩) X (va_recv X.1 X.2.1 (ci := 1) (q0 := 14) rfl wlC_14) rfl hl.1 rfl (Nat.le_of_ble_eq_true rfl) dL_turnTo_5 ⟨Nat.zero_le _, Nat.zero_le _⟩ (fun H locs X => ?_)
    refine lv_i2l (v := (r2.toInt64)) hx hb dL_turnTo_8 rfl ?_
    refine xa_last hx hb X 24 wlC_24 wlC_s_ol dL_turnTo_9 hf (fun g3 H locs hf X => ?_)
    refine lv_goto (tgt := 17) hx hb dL_turnTo_10 rfl ?_
    refine lv_iconst (v := (0 : Int32)) hx hb dL_turnTo_17 rfl ?_
    cases hf
    refine W.widen (k := 1) (n := 6) (by decide) (by decide) ?_
    exact xe_i6 hx hb hr hlocks X dL_turnTo_18
set_option maxRecDepth 100000 in
set_option maxHeartbeats 4000000 in
theorem mL_turnings {l : Launch} {dd : va_G} {cy : Nat → ClassId} {ad : Nat → Nat} {A : Nat → Prop} {fu : Nat} {ts : Nat → Int32} {tc : Nat → Nat → Int32} {rk : Nat → Int32} {pl : Nat → Int32} {ru : Nat → Int64} {sl : Nat → Int32} {bg : Nat → Int32} {kn : Nat → Int64} {rm : Int32} {ol : Nat → Int64} {od : Nat → UInt64} {x1 : Int32} {rv : Int32} {olo : Nat → Int64} (htr : l.stackTraces = false) (hf : fL_turnings fu ts tc ol x1 = some (rv, olo)) : Met l yL_turnings wsL_turnings { frames := 8, cells := 1, slots := 6, locals := 143 } (va_Pc [.ref (ad 14), .int x1, .ref (ad 24)] (IT dd cy A (wlC ad cy ts tc rk pl ru sl bg kn rm ol od))) (QX dd cy A (some (.int rv)) (wlC ad cy ts tc rk pl ru sl bg kn rm olo od)) 1 6 A := by
  refine va_MetW (cc := cL_turnings) (maxL := 4) (ret := some .int) (by decide) rfl ?_
  intro p e s m args below meth c s₁ B hml hv
  obtain ⟨hav, hI, hT⟩ := hv
  have hx := B.exec
  have hb := B.bytes
  have hr := B.returns
  have hts := atoms_spec (ws := wsL_turnings) B.pre
  have hown : s.vm.findClass RL = some m.cls := findClass_of_methodNamed B.named
  have hlocks := B.notSynchronized
  have X := XW.of hI
  have htab : c.exceptionTable.toList = tableOf [(0, 9, 12, 13)] := vx_table (x := yL_turnings) B (hts (.codeWith yL_turnings cL_turnings 4 (some .int) [(0, 9, 12, 13)]) List.mem_cons_self)
  refine xe_in hav (Nat.le_of_ble_eq_true rfl) rfl (fun ls hl => ?_)
  rw [fL_turnings] at hf
  refine lv_aload_n hx hb dL_turnings_0 rfl (lv_at hl 2 rfl) ?_
  refine lv_iconst (v := (0 : Int32)) hx hb dL_turnings_1 rfl ?_
  refine lv_aload_n hx hb dL_turnings_2 rfl (lv_at hl 0 rfl) ?_
  refine lv_iload_n hx hb dL_turnings_3 rfl (lv_at hl 1 rfl) ?_
  refine xb hf (fun v1 hv1 hf => ?_)
  refine exb_c hf (fun e9 h9 hf => ?_) (fun r2 h9 hf => ?_)
  · refine xr_str hf (fun he hf => ?_) (fun hf => ?_)
    · subst he
      refine xt_VC (rest := [.int (0 : Int32), .ref (ad 24)]) ⟨hx, hb, hml, hown, hts⟩ (eX5_turnings htr (exo_s hv1 h9)) (cwV 1 hts gL_turnings_X5_turnings rfl rfl rfl hqX5_turnings ⟨Nat.le_of_ble_eq_true rfl, Nat.le_of_ble_eq_true rfl⟩) X hT (va_recv X.1 X.2.1 (ci := 1) (q0 := 14) rfl wlC_14) rfl hl.1 rfl (Nat.le_of_ble_eq_true rfl) dL_turnings_4 ⟨Nat.le_of_ble_eq_true rfl, Nat.le_of_ble_eq_true rfl⟩ [] ⟨0, 9, 12, 13⟩ [] htab xt_p0 (by decide) (by decide) (by decide +kernel) (by decide +kernel) (fun q9 H locs X => ?_)
      refine lv_astore_n (lv' := [(3, .ref q9), (0, .ref (ad 14)), (1, .int x1), (2, .ref (ad 24))]) hx hb dL_turnings_12 rfl hl (by decide) rfl (fun ls hl => ?_)
      refine lv_iconst (v := (1 : Int32)) hx hb dL_turnings_13 rfl ?_
      cases hf
      exact xe_i6 hx hb hr hlocks X dL_turnings_14
    cases hf
  · refine xc_V1 (rest := [.int (0 : Int32), .ref (ad 24)]) ⟨hx, hb, hml, hown, hts⟩ (mX5_turnings (exo_s hv1 h9)) (cwV 1 hts gL_turnings_X5_turnings rfl rfl rfl hqX5_turnings ⟨Nat.le_of_ble_eq_true rfl, Nat.le_of_ble_eq_true rfl⟩) X (va_recv X.1 X.2.1 (ci := 1) (q0 := 14) rfl wlC_14) rfl hl.1 rfl (Nat.le_of_ble_eq_true rfl) dL_turnings_4 ⟨Nat.zero_le _, Nat.zero_le _⟩ (fun H locs X => ?_)
    refine lv_i2l (v := (r2.toInt64)) hx hb dL_turnings_7 rfl ?_
    refine xa_last hx hb X 24 wlC_24 wlC_s_ol dL_turnings_8 hf (fun g3 H locs hf X => ?_)
    refine lv_goto (tgt := 15) hx hb dL_turnings_9 rfl ?_
    refine lv_iconst (v := (0 : Int32)) hx hb dL_turnings_15 rfl ?_
    cases hf
    refine W.widen (k := 1) (n := 6) (by decide) (by decide) ?_
    exact xe_i6 hx hb hr hlocks X dL_turnings_16
set_option maxRecDepth 100000 in
set_option maxHeartbeats 4000000 in
theorem mL_leastTurn {l : Launch} {dd : va_G} {cy : Nat → ClassId} {ad : Nat → Nat} {A : Nat → Prop} {fu : Nat} {ts : Nat → Int32} {tc : Nat → Nat → Int32} {rk : Nat → Int32} {pl : Nat → Int32} {ru : Nat → Int64} {sl : Nat → Int32} {bg : Nat → Int32} {kn : Nat → Int64} {rm : Int32} {ol : Nat → Int64} {od : Nat → UInt64} {x1 : Int32} {rv : Int32} {olo : Nat → Int64} (htr : l.stackTraces = false) (hf : fL_leastTurn fu ts tc ol x1 = some (rv, olo)) : Met l yL_leastTurn wsL_leastTurn { frames := 8, cells := 1, slots := 6, locals := 145 } (va_Pc [.ref (ad 14), .int x1, .ref (ad 24)] (IT dd cy A (wlC ad cy ts tc rk pl ru sl bg kn rm ol od))) (QX dd cy A (some (.int rv)) (wlC ad cy ts tc rk pl ru sl bg kn rm olo od)) 1 6 A := by
  refine va_MetW (cc := cL_leastTurn) (maxL := 4) (ret := some .int) (by decide) rfl ?_
  intro p e s m args below meth c s₁ B hml hv
  obtain ⟨hav, hI, hT⟩ := hv
  have hx := B.exec
  have hb := B.bytes
  have hr := B.returns
  have hts := atoms_spec (ws := wsL_leastTurn) B.pre
  have hown : s.vm.findClass RL = some m.cls := findClass_of_methodNamed B.named
  have hlocks := B.notSynchronized
  have X := XW.of hI
  have htab : c.exceptionTable.toList = tableOf [(0, 9, 12, 13)] := vx_table (x := yL_leastTurn) B (hts (.codeWith yL_leastTurn cL_leastTurn 4 (some .int) [(0, 9, 12, 13)]) List.mem_cons_self)
  refine xe_in hav (Nat.le_of_ble_eq_true rfl) rfl (fun ls hl => ?_)
  rw [fL_leastTurn] at hf
  refine lv_aload_n hx hb dL_leastTurn_0 rfl (lv_at hl 2 rfl) ?_
  refine lv_iconst (v := (0 : Int32)) hx hb dL_leastTurn_1 rfl ?_
  refine lv_aload_n hx hb dL_leastTurn_2 rfl (lv_at hl 0 rfl) ?_
  refine lv_iload_n hx hb dL_leastTurn_3 rfl (lv_at hl 1 rfl) ?_
  refine xb hf (fun v1 hv1 hf => ?_)
  refine exb_c hf (fun e9 h9 hf => ?_) (fun r2 h9 hf => ?_)
  · refine xr_str hf (fun he hf => ?_) (fun hf => ?_)
    · subst he
      refine xt_VC (rest := [.int (0 : Int32), .ref (ad 24)]) ⟨hx, hb, hml, hown, hts⟩ (eX5_leastTurn htr (exo_s hv1 h9)) (cwV 1 hts gL_leastTurn_X5_leastTurn rfl rfl rfl hqX5_leastTurn ⟨Nat.le_of_ble_eq_true rfl, Nat.le_of_ble_eq_true rfl⟩) X hT (va_recv X.1 X.2.1 (ci := 1) (q0 := 14) rfl wlC_14) rfl hl.1 rfl (Nat.le_of_ble_eq_true rfl) dL_leastTurn_4 ⟨Nat.le_of_ble_eq_true rfl, Nat.le_of_ble_eq_true rfl⟩ [] ⟨0, 9, 12, 13⟩ [] htab xt_p0 (by decide) (by decide) (by decide +kernel) (by decide +kernel) (fun q9 H locs X => ?_)
      refine lv_astore_n (lv' := [(3, .ref q9), (0, .ref (ad 14)), (1, .int x1), (2, .ref (ad 24))]) hx hb dL_leastTurn_12 rfl hl (by decide) rfl (fun ls hl => ?_)
      refine lv_iconst (v := (1 : Int32)) hx hb dL_leastTurn_13 rfl ?_
      cases hf
      exact xe_i6 hx hb hr hlocks X dL_leastTurn_14
    cases hf
  · refine xc_V1 (rest := [.int (0 : Int32), .ref (ad 24)]) ⟨hx, hb, hml, hown, hts⟩ (mX5_leastTurn (exo_s hv1 h9)) (cwV 1 hts gL_leastTurn_X5_leastTurn rfl rfl rfl hqX5_leastTurn ⟨Nat.le_of_ble_eq_true rfl, Nat.le_of_ble_eq_true rfl⟩) X (va_recv X.1 X.2.1 (ci := 1) (q0 := 14) rfl wlC_14) rfl hl.1 rfl (Nat.le_of_ble_eq_true rfl) dL_leastTurn_4 ⟨Nat.zero_le _, Nat.zero_le _⟩ (fun H locs X => ?_)
    refine lv_i2l (v := (r2.toInt64)) hx hb dL_leastTurn_7 rfl ?_
    refine xa_last hx hb X 24 wlC_24 wlC_s_ol dL_leastTurn_8 hf (fun g3 H locs hf X => ?_)
    refine lv_goto (tgt := 15) hx hb dL_leastTurn_9 rfl ?_
    refine lv_iconst (v := (0 : Int32)) hx hb dL_leastTurn_15 rfl ?_
    cases hf
    refine W.widen (k := 1) (n := 6) (by decide) (by decide) ?_
    exact xe_i6 hx hb hr hlocks X dL_leastTurn_16
set_option maxRecDepth 100000 in
set_option maxHeartbeats 4000000 in
theorem mL_factors {l : Launch} {dd : va_G} {cy : Nat → ClassId} {ad : Nat → Nat} {A : Nat → Prop} {fu : Nat} {ts : Nat → Int32} {tc : Nat → Nat → Int32} {rk : Nat → Int32} {pl : Nat → Int32} {ru : Nat → Int64} {sl : Nat → Int32} {bg : Nat → Int32} {kn : Nat → Int64} {rm : Int32} {ol : Nat → Int64} {od : Nat → UInt64} {x1 : Int32} {rv : Int32} {olo : Nat → Int64} (htr : l.stackTraces = false) (hf : fL_factors fu ts tc ol x1 = some (rv, olo)) : Met l yL_factors wsL_factors { frames := 8, cells := 1, slots := 6, locals := 142 } (va_Pc [.ref (ad 14), .int x1, .ref (ad 24)] (IT dd cy A (wlC ad cy ts tc rk pl ru sl bg kn rm ol od))) (QX dd cy A (some (.int rv)) (wlC ad cy ts tc rk pl ru sl bg kn rm olo od)) 1 6 A := by
  refine va_MetW (cc := cL_factors) (maxL := 4) (ret := some .int) (by decide) rfl ?_
  intro p e s m args below meth c s₁ B hml hv
  obtain ⟨hav, hI, hT⟩ := hv
  have hx := B.exec
  have hb := B.bytes
  have hr := B.returns
  have hts := atoms_spec (ws := wsL_factors) B.pre
  have hown : s.vm.findClass RL = some m.cls := findClass_of_methodNamed B.named
  have hlocks := B.notSynchronized
  have X := XW.of hI
  have htab : c.exceptionTable.toList = tableOf [(0, 9, 12, 13)] := vx_table (x := yL_factors) B (hts (.codeWith yL_factors cL_factors 4 (some .int) [(0, 9, 12, 13)]) List.mem_cons_self)
  refine xe_in hav (Nat.le_of_ble_eq_true rfl) rfl (fun ls hl => ?_)
  rw [fL_factors] at hf
  refine lv_aload_n hx hb dL_factors_0 rfl (lv_at hl 2 rfl) ?_
  refine lv_iconst (v := (0 : Int32)) hx hb dL_factors_1 rfl ?_
  refine lv_aload_n hx hb dL_factors_2 rfl (lv_at hl 0 rfl) ?_
  refine lv_iload_n hx hb dL_factors_3 rfl (lv_at hl 1 rfl) ?_
  refine xb hf (fun v1 hv1 hf => ?_)
  refine exb_c hf (fun e9 h9 hf => ?_) (fun r2 h9 hf => ?_)
  · refine xr_str hf (fun he hf => ?_) (fun hf => ?_)
    · subst he
      refine xt_VC (rest := [.int (0 : Int32), .ref (ad 24)]) ⟨hx, hb, hml, hown, hts⟩ (eX5_factors htr (exo_s hv1 h9)) (cwV 1 hts gL_factors_X5_factors rfl rfl rfl hqX5_factors ⟨Nat.le_of_ble_eq_true rfl, Nat.le_of_ble_eq_true rfl⟩) X hT (va_recv X.1 X.2.1 (ci := 1) (q0 := 14) rfl wlC_14) rfl hl.1 rfl (Nat.le_of_ble_eq_true rfl) dL_factors_4 ⟨Nat.le_of_ble_eq_true rfl, Nat.le_of_ble_eq_true rfl⟩ [] ⟨0, 9, 12, 13⟩ [] htab xt_p0 (by decide) (by decide) (by decide +kernel) (by decide +kernel) (fun q9 H locs X => ?_)
      refine lv_astore_n (lv' := [(3, .ref q9), (0, .ref (ad 14)), (1, .int x1), (2, .ref (ad 24))]) hx hb dL_factors_12 rfl hl (by decide) rfl (fun ls hl => ?_)
      refine lv_iconst (v := (1 : Int32)) hx hb dL_factors_13 rfl ?_
      cases hf
      exact xe_i6 hx hb hr hlocks X dL_factors_14
    cases hf
  · refine xc_V1 (rest := [.int (0 : Int32), .ref (ad 24)]) ⟨hx, hb, hml, hown, hts⟩ (mX5_factors (exo_s hv1 h9)) (cwV 1 hts gL_factors_X5_factors rfl rfl rfl hqX5_factors ⟨Nat.le_of_ble_eq_true rfl, Nat.le_of_ble_eq_true rfl⟩) X (va_recv X.1 X.2.1 (ci := 1) (q0 := 14) rfl wlC_14) rfl hl.1 rfl (Nat.le_of_ble_eq_true rfl) dL_factors_4 ⟨Nat.zero_le _, Nat.zero_le _⟩ (fun H locs X => ?_)
    refine lv_i2l (v := (r2.toInt64)) hx hb dL_factors_7 rfl ?_
    refine xa_last hx hb X 24 wlC_24 wlC_s_ol dL_factors_8 hf (fun g3 H locs hf X => ?_)
    refine lv_goto (tgt := 15) hx hb dL_factors_9 rfl ?_
    refine lv_iconst (v := (0 : Int32)) hx hb dL_factors_15 rfl ?_
    cases hf
    refine W.widen (k := 1) (n := 6) (by decide) (by decide) ?_
    exact xe_i6 hx hb hr hlocks X dL_factors_16
set_option maxRecDepth 100000 in
set_option maxHeartbeats 4000000 in
theorem mL_factorAt {l : Launch} {dd : va_G} {cy : Nat → ClassId} {ad : Nat → Nat} {A : Nat → Prop} {fu : Nat} {ts : Nat → Int32} {tc : Nat → Nat → Int32} {rk : Nat → Int32} {pl : Nat → Int32} {ru : Nat → Int64} {sl : Nat → Int32} {bg : Nat → Int32} {kn : Nat → Int64} {rm : Int32} {ol : Nat → Int64} {od : Nat → UInt64} {x1 : Int32} {x2 : Int32} {rv : Int32} {olo : Nat → Int64} (htr : l.stackTraces = false) (hf : fL_factorAt fu ts tc ol x1 x2 = some (rv, olo)) : Met l yL_factorAt wsL_factorAt { frames := 8, cells := 1, slots := 6, locals := 145 } (va_Pc [.ref (ad 14), .int x1, .int x2, .ref (ad 24)] (IT dd cy A (wlC ad cy ts tc rk pl ru sl bg kn rm ol od))) (QX dd cy A (some (.int rv)) (wlC ad cy ts tc rk pl ru sl bg kn rm olo od)) 1 6 A := by
  refine va_MetW (cc := cL_factorAt) (maxL := 5) (ret := some .int) (by decide) rfl ?_
  intro p e s m args below meth c s₁ B hml hv
  obtain ⟨hav, hI, hT⟩ := hv
  have hx := B.exec
  have hb := B.bytes
  have hr := B.returns
  have hts := atoms_spec (ws := wsL_factorAt) B.pre
  have hown : s.vm.findClass RL = some m.cls := findClass_of_methodNamed B.named
  have hlocks := B.notSynchronized
  have X := XW.of hI
  have htab : c.exceptionTable.toList = tableOf [(0, 10, 13, 13), (0, 10, 17, 95)] := vx_table (x := yL_factorAt) B (hts (.codeWith yL_factorAt cL_factorAt 5 (some .int) [(0, 10, 13, 13), (0, 10, 17, 95)]) List.mem_cons_self)
  refine xe_in hav (Nat.le_of_ble_eq_true rfl) rfl (fun ls hl => ?_)
  rw [fL_factorAt] at hf
  refine lv_aload_n hx hb dL_factorAt_0 rfl (lv_at hl 3 rfl) ?_
  refine lv_iconst (v := (0 : Int32)) hx hb dL_factorAt_1 rfl ?_
  refine lv_aload_n hx hb dL_factorAt_2 rfl (lv_at hl 0 rfl) ?_
  refine lv_iload_n hx hb dL_factorAt_3 rfl (lv_at hl 1 rfl) ?_
  refine lv_iload_n hx hb dL_factorAt_4 rfl (lv_at hl 2 rfl) ?_
  refine xb hf (fun v1 hv1 hf => ?_)
  refine exb_c hf (fun e9 h9 hf => ?_) (fun r2 h9 hf => ?_)
  · refine xr_str hf (fun he hf => ?_) (fun hf => ?_)
    · subst he
      refine xt_VC (rest := [.int (0 : Int32), .ref (ad 24)]) ⟨hx, hb, hml, hown, hts⟩ (eX5_factorAt htr (exo_s hv1 h9)) (cwV 2 hts gL_factorAt_X5_factorAt rfl rfl rfl hqX5_factorAt ⟨Nat.le_of_ble_eq_true rfl, Nat.le_of_ble_eq_true rfl⟩) X hT (va_recv X.1 X.2.1 (ci := 1) (q0 := 14) rfl wlC_14) rfl hl.1 rfl (Nat.le_of_ble_eq_true rfl) dL_factorAt_5 ⟨Nat.le_of_ble_eq_true rfl, Nat.le_of_ble_eq_true rfl⟩ [] ⟨0, 10, 13, 13⟩ [⟨0, 10, 17, 95⟩] htab xt_p0 (by decide) (by decide) (by decide +kernel) (by decide +kernel) (fun q9 H locs X => ?_)
      refine lv_astore (lv' := [(4, .ref q9), (0, .ref (ad 14)), (1, .int x1), (2, .int x2), (3, .ref (ad 24))]) hx hb dL_factorAt_13 hl (by decide) rfl (fun ls hl => ?_)
      refine lv_iconst (v := (1 : Int32)) hx hb dL_factorAt_15 rfl ?_
      cases hf
      exact xe_i6 hx hb hr hlocks X dL_factorAt_16
    refine xr_str hf (fun he hf => ?_) (fun hf => ?_)
    · subst he
      refine xt_VC (rest := [.int (0 : Int32), .ref (ad 24)]) ⟨hx, hb, hml, hown, hts⟩ (eX5_factorAt htr (exo_s hv1 h9)) (cwV 2 hts gL_factorAt_X5_factorAt rfl rfl rfl hqX5_factorAt ⟨Nat.le_of_ble_eq_true rfl, Nat.le_of_ble_eq_true rfl⟩) X hT (va_recv X.1 X.2.1 (ci := 1) (q0 := 14) rfl wlC_14) rfl hl.1 rfl (Nat.le_of_ble_eq_true rfl) dL_factorAt_5 ⟨Nat.le_of_ble_eq_true rfl, Nat.le_of_ble_eq_true rfl⟩ [⟨0, 10, 13, 13⟩] ⟨0, 10, 17, 95⟩ [] htab (xt_p1 hts hT (nm := "java/lang/IndexOutOfBoundsException") (by decide) (by decide +kernel) (by decide +kernel) xt_p0) (by decide) (by decide) (by decide +kernel) (by decide +kernel) (fun q9 H locs X => ?_)
      refine lv_astore (lv' := [(4, .ref q9), (0, .ref (ad 14)), (1, .int x1), (2, .int x2), (3, .ref (ad 24))]) hx hb dL_factorAt_17 hl (by decide) rfl (fun ls hl => ?_)
      refine lv_iconst (v := (2 : Int32)) hx hb dL_factorAt_19 rfl ?_
      cases hf
      exact xe_i6 hx hb hr hlocks X dL_factorAt_20
    cases hf
  · refine xc_V1 (rest := [.int (0 : Int32), .ref (ad 24)]) ⟨hx, hb, hml, hown, hts⟩ (mX5_factorAt (exo_s hv1 h9)) (cwV 2 hts gL_factorAt_X5_factorAt rfl rfl rfl hqX5_factorAt ⟨Nat.le_of_ble_eq_true rfl, Nat.le_of_ble_eq_true rfl⟩) X (va_recv X.1 X.2.1 (ci := 1) (q0 := 14) rfl wlC_14) rfl hl.1 rfl (Nat.le_of_ble_eq_true rfl) dL_factorAt_5 ⟨Nat.zero_le _, Nat.zero_le _⟩ (fun H locs X => ?_)
    refine lv_i2l (v := (r2.toInt64)) hx hb dL_factorAt_8 rfl ?_
    refine xa_last hx hb X 24 wlC_24 wlC_s_ol dL_factorAt_9 hf (fun g3 H locs hf X => ?_)
    refine lv_goto (tgt := 21) hx hb dL_factorAt_10 rfl ?_
    refine lv_iconst (v := (0 : Int32)) hx hb dL_factorAt_21 rfl ?_
    cases hf
    refine W.widen (k := 1) (n := 6) (by decide) (by decide) ?_
    exact xe_i6 hx hb hr hlocks X dL_factorAt_22
set_option maxRecDepth 100000 in
set_option maxHeartbeats 4000000 in
theorem mL_endAt {l : Launch} {dd : va_G} {cy : Nat → ClassId} {ad : Nat → Nat} {A : Nat → Prop} {fu : Nat} {ts : Nat → Int32} {tc : Nat → Nat → Int32} {rk : Nat → Int32} {pl : Nat → Int32} {ru : Nat → Int64} {sl : Nat → Int32} {bg : Nat → Int32} {kn : Nat → Int64} {rm : Int32} {ol : Nat → Int64} {od : Nat → UInt64} {x1 : Int32} {x2 : Int32} {rv : Int32} {rko : Nat → Int32} {plo : Nat → Int32} {olo : Nat → Int64} (htr : l.stackTraces = false) (hf : fL_endAt fu ts tc rk pl ol x1 x2 = some (rv, rko, plo, olo)) : Met l yL_endAt wsL_endAt { frames := 8, cells := 1, slots := 6, locals := 144 } (va_Pc [.ref (ad 14), .int x1, .int x2, .ref (ad 24)] (IT dd cy A (wlC ad cy ts tc rk pl ru sl bg kn rm ol od))) (QX dd cy A (some (.int rv)) (wlC ad cy ts tc rko plo ru sl bg kn rm olo od)) 1 6 A := by
  refine va_MetW (cc := cL_endAt) (maxL := 5) (ret := some .int) (by decide) rfl ?_
  intro p e s m args below meth c s₁ B hml hv
  obtain ⟨hav, hI, hT⟩ := hv
  have hx := B.exec
  have hb := B.bytes
  have hr := B.returns
  have hts := atoms_spec (ws := wsL_endAt) B.pre
  have hown : s.vm.findClass RL = some m.cls := findClass_of_methodNamed B.named
  have hlocks := B.notSynchronized
  have X := XW.of hI
  have htab : c.exceptionTable.toList = tableOf [(0, 10, 13, 13), (0, 10, 17, 95)] := vx_table (x := yL_endAt) B (hts (.codeWith yL_endAt cL_endAt 5 (some .int) [(0, 10, 13, 13), (0, 10, 17, 95)]) List.mem_cons_self)
  refine xe_in hav (Nat.le_of_ble_eq_true rfl) rfl (fun ls hl => ?_)
  rw [fL_endAt] at hf
  refine lv_aload_n hx hb dL_endAt_0 rfl (lv_at hl 3 rfl) ?_
  refine lv_iconst (v := (0 : Int32)) hx hb dL_endAt_1 rfl ?_
  refine lv_aload_n hx hb dL_endAt_2 rfl (lv_at hl 0 rfl) ?_
  refine lv_iload_n hx hb dL_endAt_3 rfl (lv_at hl 1 rfl) ?_
  refine lv_iload_n hx hb dL_endAt_4 rfl (lv_at hl 2 rfl) ?_
  refine xb hf (fun v1 hv1 hf => ?_)
  refine exb_c hf (fun e9 h9 hf => ?_) (fun r2 h9 hf => ?_)
  · refine xr_str hf (fun he hf => ?_) (fun hf => ?_)
    · subst he
      refine xt_VC (rest := [.int (0 : Int32), .ref (ad 24)]) ⟨hx, hb, hml, hown, hts⟩ (eX5_endAt htr (exo_p hv1 h9)) (cwV 2 hts gL_endAt_X5_endAt rfl rfl rfl hqX5_endAt ⟨Nat.le_of_ble_eq_true rfl, Nat.le_of_ble_eq_true rfl⟩) X hT (va_recv X.1 X.2.1 (ci := 1) (q0 := 14) rfl wlC_14) rfl hl.1 rfl (Nat.le_of_ble_eq_true rfl) dL_endAt_5 ⟨Nat.le_of_ble_eq_true rfl, Nat.le_of_ble_eq_true rfl⟩ [] ⟨0, 10, 13, 13⟩ [⟨0, 10, 17, 95⟩] htab xt_p0 (by decide) (by decide) (by decide +kernel) (by decide +kernel) (fun q9 H locs X => ?_)
      refine lv_astore (lv' := [(4, .ref q9), (0, .ref (ad 14)), (1, .int x1), (2, .int x2), (3, .ref (ad 24))]) hx hb dL_endAt_13 hl (by decide) rfl (fun ls hl => ?_)
      refine lv_iconst (v := (1 : Int32)) hx hb dL_endAt_15 rfl ?_
      cases hf
      exact xe_i6 hx hb hr hlocks X dL_endAt_16
    refine xr_str hf (fun he hf => ?_) (fun hf => ?_)
    · subst he
      refine xt_VC (rest := [.int (0 : Int32), .ref (ad 24)]) ⟨hx, hb, hml, hown, hts⟩ (eX5_endAt htr (exo_p hv1 h9)) (cwV 2 hts gL_endAt_X5_endAt rfl rfl rfl hqX5_endAt ⟨Nat.le_of_ble_eq_true rfl, Nat.le_of_ble_eq_true rfl⟩) X hT (va_recv X.1 X.2.1 (ci := 1) (q0 := 14) rfl wlC_14) rfl hl.1 rfl (Nat.le_of_ble_eq_true rfl) dL_endAt_5 ⟨Nat.le_of_ble_eq_true rfl, Nat.le_of_ble_eq_true rfl⟩ [⟨0, 10, 13, 13⟩] ⟨0, 10, 17, 95⟩ [] htab (xt_p1 hts hT (nm := "java/lang/IndexOutOfBoundsException") (by decide) (by decide +kernel) (by decide +kernel) xt_p0) (by decide) (by decide) (by decide +kernel) (by decide +kernel) (fun q9 H locs X => ?_)
      refine lv_astore (lv' := [(4, .ref q9), (0, .ref (ad 14)), (1, .int x1), (2, .int x2), (3, .ref (ad 24))]) hx hb dL_endAt_17 hl (by decide) rfl (fun ls hl => ?_)
      refine lv_iconst (v := (2 : Int32)) hx hb dL_endAt_19 rfl ?_
      cases hf
      exact xe_i6 hx hb hr hlocks X dL_endAt_20
    cases hf
  · refine xc_V1 (rest := [.int (0 : Int32), .ref (ad 24)]) ⟨hx, hb, hml, hown, hts⟩ (mX5_endAt (exo_p hv1 h9)) (cwV 2 hts gL_endAt_X5_endAt rfl rfl rfl hqX5_endAt ⟨Nat.le_of_ble_eq_true rfl, Nat.le_of_ble_eq_true rfl⟩) X (va_recv X.1 X.2.1 (ci := 1) (q0 := 14) rfl wlC_14) rfl hl.1 rfl (Nat.le_of_ble_eq_true rfl) dL_endAt_5 ⟨Nat.zero_le _, Nat.zero_le _⟩ (fun H locs X => ?_)
    refine lv_i2l (v := (r2.toInt64)) hx hb dL_endAt_8 rfl ?_
    refine xa_last hx hb X 24 wlC_24 wlC_s_ol dL_endAt_9 hf (fun g3 H locs hf X => ?_)
    refine lv_goto (tgt := 21) hx hb dL_endAt_10 rfl ?_
    refine lv_iconst (v := (0 : Int32)) hx hb dL_endAt_21 rfl ?_
    cases hf
    refine W.widen (k := 1) (n := 6) (by decide) (by decide) ?_
    exact xe_i6 hx hb hr hlocks X dL_endAt_22
set_option maxRecDepth 100000 in
set_option maxHeartbeats 4000000 in
theorem mL_rankOf {l : Launch} {dd : va_G} {cy : Nat → ClassId} {ad : Nat → Nat} {A : Nat → Prop} {fu : Nat} {ts : Nat → Int32} {tc : Nat → Nat → Int32} {rk : Nat → Int32} {pl : Nat → Int32} {ru : Nat → Int64} {sl : Nat → Int32} {bg : Nat → Int32} {kn : Nat → Int64} {rm : Int32} {ol : Nat → Int64} {od : Nat → UInt64} {x1 : Int32} {x2 : Int32} {rv : Int32} {rko : Nat → Int32} {plo : Nat → Int32} {olo : Nat → Int64} (htr : l.stackTraces = false) (hf : fL_rankOf fu ts tc rk pl ol x1 x2 = some (rv, rko, plo, olo)) : Met l yL_rankOf wsL_rankOf { frames := 8, cells := 1, slots := 6, locals := 144 } (va_Pc [.ref (ad 14), .int x1, .int x2, .ref (ad 24)] (IT dd cy A (wlC ad cy ts tc rk pl ru sl bg kn rm ol od))) (QX dd cy A (some (.int rv)) (wlC ad cy ts tc rko plo ru sl bg kn rm olo od)) 1 6 A := by
  refine va_MetW (cc := cL_rankOf) (maxL := 5) (ret := some .int) (by decide) rfl ?_
  intro p e s m args below meth c s₁ B hml hv
  obtain ⟨hav, hI, hT⟩ := hv
  have hx := B.exec
  have hb := B.bytes
  have hr := B.returns
  have hts := atoms_spec (ws := wsL_rankOf) B.pre
  have hown : s.vm.findClass RL = some m.cls := findClass_of_methodNamed B.named
  have hlocks := B.notSynchronized
  have X := XW.of hI
  have htab : c.exceptionTable.toList = tableOf [(0, 10, 13, 13)] := vx_table (x := yL_rankOf) B (hts (.codeWith yL_rankOf cL_rankOf 5 (some .int) [(0, 10, 13, 13)]) List.mem_cons_self)
  refine xe_in hav (Nat.le_of_ble_eq_true rfl) rfl (fun ls hl => ?_)
  rw [fL_rankOf] at hf
  refine lv_aload_n hx hb dL_rankOf_0 rfl (lv_at hl 3 rfl) ?_
  refine lv_iconst (v := (0 : Int32)) hx hb dL_rankOf_1 rfl ?_
  refine lv_aload_n hx hb dL_rankOf_2 rfl (lv_at hl 0 rfl) ?_
  refine lv_iload_n hx hb dL_rankOf_3 rfl (lv_at hl 1 rfl) ?_
  refine lv_iload_n hx hb dL_rankOf_4 rfl (lv_at hl 2 rfl) ?_
  refine xb hf (fun v1 hv1 hf => ?_)
  refine exb_c hf (fun e9 h9 hf => ?_) (fun r2 h9 hf => ?_)
  · refine xr_str hf (fun he hf => ?_) (fun hf => ?_)
    · subst he
      refine xt_VC (rest := [.int (0 : Int32), .ref (ad 24)]) ⟨hx, hb, hml, hown, hts⟩ (eX5_rankOf htr (exo_p hv1 h9)) (cwV 2 hts gL_rankOf_X5_rankOf rfl rfl rfl hqX5_rankOf ⟨Nat.le_of_ble_eq_true rfl, Nat.le_of_ble_eq_true rfl⟩) X hT (va_recv X.1 X.2.1 (ci := 1) (q0 := 14) rfl wlC_14) rfl hl.1 rfl (Nat.le_of_ble_eq_true rfl) dL_rankOf_5 ⟨Nat.le_of_ble_eq_true rfl, Nat.le_of_ble_eq_true rfl⟩ [] ⟨0, 10, 13, 13⟩ [] htab xt_p0 (by decide) (by decide) (by decide +kernel) (by decide +kernel) (fun q9 H locs X => ?_)
      refine lv_astore (lv' := [(4, .ref q9), (0, .ref (ad 14)), (1, .int x1), (2, .int x2), (3, .ref (ad 24))]) hx hb dL_rankOf_13 hl (by decide) rfl (fun ls hl => ?_)
      refine lv_iconst (v := (1 : Int32)) hx hb dL_rankOf_15 rfl ?_
      cases hf
      exact xe_i6 hx hb hr hlocks X dL_rankOf_16
    cases hf
  · refine xc_V1 (rest := [.int (0 : Int32), .ref (ad 24)]) ⟨hx, hb, hml, hown, hts⟩ (mX5_rankOf (exo_p hv1 h9)) (cwV 2 hts gL_rankOf_X5_rankOf rfl rfl rfl hqX5_rankOf ⟨Nat.le_of_ble_eq_true rfl, Nat.le_of_ble_eq_true rfl⟩) X (va_recv X.1 X.2.1 (ci := 1) (q0 := 14) rfl wlC_14) rfl hl.1 rfl (Nat.le_of_ble_eq_true rfl) dL_rankOf_5 ⟨Nat.zero_le _, Nat.zero_le _⟩ (fun H locs X => ?_)
    refine lv_i2l (v := (r2.toInt64)) hx hb dL_rankOf_8 rfl ?_
    refine xa_last hx hb X 24 wlC_24 wlC_s_ol dL_rankOf_9 hf (fun g3 H locs hf X => ?_)
    refine lv_goto (tgt := 17) hx hb dL_rankOf_10 rfl ?_
    refine lv_iconst (v := (0 : Int32)) hx hb dL_rankOf_17 rfl ?_
    cases hf
    refine W.widen (k := 1) (n := 6) (by decide) (by decide) ?_
    exact xe_i6 hx hb hr hlocks X dL_rankOf_18
set_option maxRecDepth 100000 in
set_option maxHeartbeats 4000000 in
theorem mL_unlikeParts {l : Launch} {dd : va_G} {cy : Nat → ClassId} {ad : Nat → Nat} {A : Nat → Prop} {fu : Nat} {ts : Nat → Int32} {tc : Nat → Nat → Int32} {rk : Nat → Int32} {pl : Nat → Int32} {ru : Nat → Int64} {sl : Nat → Int32} {bg : Nat → Int32} {kn : Nat → Int64} {rm : Int32} {ol : Nat → Int64} {od : Nat → UInt64} {x1 : Int32} {rv : Int32} {rko : Nat → Int32} {plo : Nat → Int32} {olo : Nat → Int64} (htr : l.stackTraces = false) (hf : fL_unlikeParts fu ts tc rk pl ol x1 = some (rv, rko, plo, olo)) : Met l yL_unlikeParts wsL_unlikeParts { frames := 8, cells := 1, slots := 6, locals := 145 } (va_Pc [.ref (ad 14), .int x1, .ref (ad 24)] (IT dd cy A (wlC ad cy ts tc rk pl ru sl bg kn rm ol od))) (QX dd cy A (some (.int rv)) (wlC ad cy ts tc rko plo ru sl bg kn rm olo od)) 1 6 A := by
  refine va_MetW (cc := cL_unlikeParts) (maxL := 4) (ret := some .int) (by decide) rfl ?_
  intro p e s m args below meth c s₁ B hml hv
  obtain ⟨hav, hI, hT⟩ := hv
  have hx := B.exec
  have hb := B.bytes
  have hr := B.returns
  have hts := atoms_spec (ws := wsL_unlikeParts) B.pre
  have hown : s.vm.findClass RL = some m.cls := findClass_of_methodNamed B.named
  have hlocks := B.notSynchronized
  have X := XW.of hI
  have htab : c.exceptionTable.toList = tableOf [(0, 9, 12, 13)] := vx_table (x := yL_unlikeParts) B (hts (.codeWith yL_unlikeParts cL_unlikeParts 4 (some .int) [(0, 9, 12, 13)]) List.mem_cons_self)
  refine xe_in hav (Nat.le_of_ble_eq_true rfl) rfl (fun ls hl => ?_)
  rw [fL_unlikeParts] at hf
  refine lv_aload_n hx hb dL_unlikeParts_0 rfl (lv_at hl 2 rfl) ?_
  refine lv_iconst (v := (0 : Int32)) hx hb dL_unlikeParts_1 rfl ?_
  refine lv_aload_n hx hb dL_unlikeParts_2 rfl (lv_at hl 0 rfl) ?_
  refine lv_iload_n hx hb dL_unlikeParts_3 rfl (lv_at hl 1 rfl) ?_
  refine xb hf (fun v1 hv1 hf => ?_)
  refine exb_c hf (fun e9 h9 hf => ?_) (fun r2 h9 hf => ?_)
  · refine xr_str hf (fun he hf => ?_) (fun hf => ?_)
    · subst he
      refine xt_VC (rest := [.int (0 : Int32), .ref (ad 24)]) ⟨hx, hb, hml, hown, hts⟩ (eX5_unlikeParts htr (exo_p hv1 h9)) (cwV 1 hts gL_unlikeParts_X5_unlikeParts rfl rfl rfl hqX5_unlikeParts ⟨Nat.le_of_ble_eq_true rfl, Nat.le_of_ble_eq_true rfl⟩) X hT (va_recv X.1 X.2.1 (ci := 1) (q0 := 14) rfl wlC_14) rfl hl.1 rfl (Nat.le_of_ble_eq_true rfl) dL_unlikeParts_4 ⟨Nat.le_of_ble_eq_true rfl, Nat.le_of_ble_eq_true rfl⟩ [] ⟨0, 9, 12, 13⟩ [] htab xt_p0 (by decide) (by decide) (by decide +kernel) (by decide +kernel) (fun q9 H locs X => ?_)
      refine lv_astore_n (lv' := [(3, .ref q9), (0, .ref (ad 14)), (1, .int x1), (2, .ref (ad 24))]) hx hb dL_unlikeParts_12 rfl hl (by decide) rfl (fun ls hl => ?_)
      refine lv_iconst (v := (1 : Int32)) hx hb dL_unlikeParts_13 rfl ?_
      cases hf
      exact xe_i6 hx hb hr hlocks X dL_unlikeParts_14
    cases hf
  · refine xc_V1 (rest := [.int (0 : Int32), .ref (ad 24)]) ⟨hx, hb, hml, hown, hts⟩ (mX5_unlikeParts (exo_p hv1 h9)) (cwV 1 hts gL_unlikeParts_X5_unlikeParts rfl rfl rfl hqX5_unlikeParts ⟨Nat.le_of_ble_eq_true rfl, Nat.le_of_ble_eq_true rfl⟩) X (va_recv X.1 X.2.1 (ci := 1) (q0 := 14) rfl wlC_14) rfl hl.1 rfl (Nat.le_of_ble_eq_true rfl) dL_unlikeParts_4 ⟨Nat.zero_le _, Nat.zero_le _⟩ (fun H locs X => ?_)
    refine lv_i2l (v := (r2.toInt64)) hx hb dL_unlikeParts_7 rfl ?_
    refine xa_last hx hb X 24 wlC_24 wlC_s_ol dL_unlikeParts_8 hf (fun g3 H locs hf X => ?_)
    refine lv_goto (tgt := 15) hx hb dL_unlikeParts_9 rfl ?_
    refine lv_iconst (v := (0 : Int32)) hx hb dL_unlikeParts_15 rfl ?_
    cases hf
    refine W.widen (k := 1) (n := 6) (by decide) (by decide) ?_
    exact xe_i6 hx hb hr hlocks X dL_unlikeParts_16
set_option maxRecDepth 100000 in
set_option maxHeartbeats 4000000 in
theorem mL_twice {l : Launch} {dd : va_G} {cy : Nat → ClassId} {ad : Nat → Nat} {A : Nat → Prop} {fu : Nat} {ts : Nat → Int32} {tc : Nat → Nat → Int32} {rk : Nat → Int32} {pl : Nat → Int32} {ru : Nat → Int64} {sl : Nat → Int32} {bg : Nat → Int32} {kn : Nat → Int64} {rm : Int32} {ol : Nat → Int64} {od : Nat → UInt64} {x1 : Int32} {x2 : Int32} {rv : Int32} {tso : Nat → Int32} {tco : Nat → Nat → Int32} {rko : Nat → Int32} {plo : Nat → Int32} {olo : Nat → Int64} (htr : l.stackTraces = false) (hf : fL_twice fu ts tc rk pl ol x1 x2 = some (rv, tso, tco, rko, plo, olo)) : Met l yL_twice wsL_twice { frames := 8, cells := 1, slots := 6, locals := 160 } (va_Pc [.ref (ad 14), .int x1, .int x2, .ref (ad 24)] (IT dd cy A (wlC ad cy ts tc rk pl ru sl bg kn rm ol od))) (QX dd cy A (some (.int rv)) (wlC ad cy tso tco rko plo ru sl bg kn rm olo od)) 1 6 A := by
  refine va_MetW (cc := cL_twice) (maxL := 5) (ret := some .int) (by decide) rfl ?_
  intro p e s m args below meth c s₁ B hml hv
  obtain ⟨hav, hI, hT⟩ := hv
  have hx := B.exec
  have hb := B.bytes
  have hr := B.returns
  have hts := atoms_spec (ws := wsL_twice) B.pre
  have hown : s.vm.findClass RL = some m.cls := findClass_of_methodNamed B.named
  have hlocks := B.notSynchronized
  have X := XW.of hI
  have htab : c.exceptionTable.toList = tableOf [(0, 10, 13, 13)] := vx_table (x := yL_twice) B (hts (.codeWith yL_twice cL_twice 5 (some .int) [(0, 10, 13, 13)]) List.mem_cons_self)
  refine xe_in hav (Nat.le_of_ble_eq_true rfl) rfl (fun ls hl => ?_)
  rw [fL_twice] at hf
  refine lv_aload_n hx hb dL_twice_0 rfl (lv_at hl 3 rfl) ?_
  refine lv_iconst (v := (0 : Int32)) hx hb dL_twice_1 rfl ?_
  refine lv_aload_n hx hb dL_twice_2 rfl (lv_at hl 0 rfl) ?_
  refine lv_iload_n hx hb dL_twice_3 rfl (lv_at hl 1 rfl) ?_
  refine lv_iload_n hx hb dL_twice_4 rfl (lv_at hl 2 rfl) ?_
  refine xb hf (fun v1 hv1 hf => ?_)
  refine exb_c hf (fun e9 h9 hf => ?_) (fun r2 h9 hf => ?_)
  · refine xr_str hf (fun he hf => ?_) (fun hf => ?_)
    · subst he
      refine xt_VC (rest := [.int (0 : Int32), .ref (ad 24)]) ⟨hx, hb, hml, hown, hts⟩ (eX5_twice htr (exo_p hv1 h9)) (cwV 2 hts gL_twice_X5_twice rfl rfl rfl hqX5_twice ⟨Nat.le_of_ble_eq_true rfl, Nat.le_of_ble_eq_true rfl⟩) X hT (va_recv X.1 X.2.1 (ci := 1) (q0 := 14) rfl wlC_14) rfl hl.1 rfl (Nat.le_of_ble_eq_true rfl) dL_twice_5 ⟨Nat.le_of_ble_eq_true rfl, Nat.le_of_ble_eq_true rfl⟩ [] ⟨0, 10, 13, 13⟩ [] htab xt_p0 (by decide) (by decide) (by decide +kernel) (by decide +kernel) (fun q9 H locs X => ?_)
      refine lv_astore (lv' := [(4, .ref q9), (0, .ref (ad 14)), (1, .int x1), (2, .int x2), (3, .ref (ad 24))]) hx hb dL_twice_13 hl (by decide) rfl (fun ls hl => ?_)
      refine lv_iconst (v := (1 : Int32)) hx hb dL_twice_15 rfl ?_
      cases hf
      exact xe_i6 hx hb hr hlocks X dL_twice_16
    cases hf
  · refine xc_V1 (rest := [.int (0 : Int32), .ref (ad 24)]) ⟨hx, hb, hml, hown, hts⟩ (mX5_twice (exo_p hv1 h9)) (cwV 2 hts gL_twice_X5_twice rfl rfl rfl hqX5_twice ⟨Nat.le_of_ble_eq_true rfl, Nat.le_of_ble_eq_true rfl⟩) X (va_recv X.1 X.2.1 (ci := 1) (q0 := 14) rfl wlC_14) rfl hl.1 rfl (Nat.le_of_ble_eq_true rfl) dL_twice_5 ⟨Nat.zero_le _, Nat.zero_le _⟩ (fun H locs X => ?_)
    refine lv_i2l (v := (r2.toInt64)) hx hb dL_twice_8 rfl ?_
    refine xa_last hx hb X 24 wlC_24 wlC_s_ol dL_twice_9 hf (fun g3 H locs hf X => ?_)
    refine lv_goto (tgt := 17) hx hb dL_twice_10 rfl ?_
    refine lv_iconst (v := (0 : Int32)) hx hb dL_twice_17 rfl ?_
    cases hf
    refine W.widen (k := 1) (n := 6) (by decide) (by decide) ?_
    exact xe_i6 hx hb hr hlocks X dL_twice_18
set_option maxRecDepth 100000 in
set_option maxHeartbeats 4000000 in
theorem mL_mirrors {l : Launch} {dd : va_G} {cy : Nat → ClassId} {ad : Nat → Nat} {A : Nat → Prop} {fu : Nat} {ts : Nat → Int32} {tc : Nat → Nat → Int32} {rk : Nat → Int32} {pl : Nat → Int32} {ru : Nat → Int64} {sl : Nat → Int32} {bg : Nat → Int32} {kn : Nat → Int64} {rm : Int32} {ol : Nat → Int64} {od : Nat → UInt64} {x1 : Int32} {rv : Int32} {rko : Nat → Int32} {plo : Nat → Int32} {olo : Nat → Int64} (htr : l.stackTraces = false) (hf : fL_mirrors fu ts tc rk pl ol x1 = some (rv, rko, plo, olo)) : Met l yL_mirrors wsL_mirrors { frames := 8, cells := 1, slots := 6, locals := 148 } (va_Pc [.ref (ad 14), .int x1, .ref (ad 24)] (IT dd cy A (wlC ad cy ts tc rk pl ru sl bg kn rm ol od))) (QX dd cy A (some (.int rv)) (wlC ad cy ts tc rko plo ru sl bg kn rm olo od)) 1 6 A := by
  refine va_MetW (cc := cL_mirrors) (maxL := 4) (ret := some .int) (by decide) rfl ?_
  intro p e s m args below meth c s₁ B hml hv
  obtain ⟨hav, hI, hT⟩ := hv
  have hx := B.exec
  have hb := B.bytes
  have hr := B.returns
  have hts := atoms_spec (ws := wsL_mirrors) B.pre
  have hown : s.vm.findClass RL = some m.cls := findClass_of_methodNamed B.named
  have hlocks := B.notSynchronized
  have X := XW.of hI
  have htab : c.exceptionTable.toList = tableOf [(0, 9, 12, 13)] := vx_table (x := yL_mirrors) B (hts (.codeWith yL_mirrors cL_mirrors 4 (some .int) [(0, 9, 12, 13)]) List.mem_cons_self)
  refine xe_in hav (Nat.le_of_ble_eq_true rfl) rfl (fun ls hl => ?_)
  rw [fL_mirrors] at hf
  refine lv_aload_n hx hb dL_mirrors_0 rfl (lv_at hl 2 rfl) ?_
  refine lv_iconst (v := (0 : Int32)) hx hb dL_mirrors_1 rfl ?_
  refine lv_aload_n hx hb dL_mirrors_2 rfl (lv_at hl 0 rfl) ?_
  refine lv_iload_n hx hb dL_mirrors_3 rfl (lv_at hl 1 rfl) ?_
  refine xb hf (fun v1 hv1 hf => ?_)
  refine exb_c hf (fun e9 h9 hf => ?_) (fun r2 h9 hf => ?_)
  · refine xr_str hf (fun he hf => ?_) (fun hf => ?_)
    · subst he
      refine xt_VC (rest := [.int (0 : Int32), .ref (ad 24)]) ⟨hx, hb, hml, hown, hts⟩ (eX5_mirrors htr (exo_p hv1 h9)) (cwV 1 hts gL_mirrors_X5_mirrors rfl rfl rfl hqX5_mirrors ⟨Nat.le_of_ble_eq_true rfl, Nat.le_of_ble_eq_true rfl⟩) X hT (va_recv X.1 X.2.1 (ci := 1) (q0 := 14) rfl wlC_14) rfl hl.1 rfl (Nat.le_of_ble_eq_true rfl) dL_mirrors_4 ⟨Nat.le_of_ble_eq_true rfl, Nat.le_of_ble_eq_true rfl⟩ [] ⟨0, 9, 12, 13⟩ [] htab xt_p0 (by decide) (by decide) (by decide +kernel) (by decide +kernel) (fun q9 H locs X => ?_)
      refine lv_astore_n (lv' := [(3, .ref q9), (0, .ref (ad 14)), (1, .int x1), (2, .ref (ad 24))]) hx hb dL_mirrors_12 rfl hl (by decide) rfl (fun ls hl => ?_)
      refine lv_iconst (v := (1 : Int32)) hx hb dL_mirrors_13 rfl ?_
      cases hf
      exact xe_i6 hx hb hr hlocks X dL_mirrors_14
    cases hf
  · refine xc_V1 (rest := [.int (0 : Int32), .ref (ad 24)]) ⟨hx, hb, hml, hown, hts⟩ (mX5_mirrors (exo_p hv1 h9)) (cwV 1 hts gL_mirrors_X5_mirrors rfl rfl rfl hqX5_mirrors ⟨Nat.le_of_ble_eq_true rfl, Nat.le_of_ble_eq_true rfl⟩) X (va_recv X.1 X.2.1 (ci := 1) (q0 := 14) rfl wlC_14) rfl hl.1 rfl (Nat.le_of_ble_eq_true rfl) dL_mirrors_4 ⟨Nat.zero_le _, Nat.zero_le _⟩ (fun H locs X => ?_)
    refine lv_i2l (v := (r2.toInt64)) hx hb dL_mirrors_7 rfl ?_
    refine xa_last hx hb X 24 wlC_24 wlC_s_ol dL_mirrors_8 hf (fun g3 H locs hf X => ?_)
    refine lv_goto (tgt := 15) hx hb dL_mirrors_9 rfl ?_
    refine lv_iconst (v := (0 : Int32)) hx hb dL_mirrors_15 rfl ?_
    cases hf
    refine W.widen (k := 1) (n := 6) (by decide) (by decide) ?_
    exact xe_i6 hx hb hr hlocks X dL_mirrors_16
set_option maxRecDepth 100000 in
set_option maxHeartbeats 4000000 in
theorem mL_commute {l : Launch} {dd : va_G} {cy : Nat → ClassId} {ad : Nat → Nat} {A : Nat → Prop} {fu : Nat} {ts : Nat → Int32} {tc : Nat → Nat → Int32} {rk : Nat → Int32} {pl : Nat → Int32} {ru : Nat → Int64} {sl : Nat → Int32} {bg : Nat → Int32} {kn : Nat → Int64} {rm : Int32} {ol : Nat → Int64} {od : Nat → UInt64} {x1 : Int32} {x2 : Int32} {rv : Int32} {olo : Nat → Int64} (htr : l.stackTraces = false) (hf : fL_commute fu ts tc ol x1 x2 = some (rv, olo)) : Met l yL_commute wsL_commute { frames := 8, cells := 1, slots := 6, locals := 143 } (va_Pc [.ref (ad 14), .int x1, .int x2, .ref (ad 24)] (IT dd cy A (wlC ad cy ts tc rk pl ru sl bg kn rm ol od))) (QX dd cy A (some (.int rv)) (wlC ad cy ts tc rk pl ru sl bg kn rm olo od)) 1 6 A := by
  refine va_MetW (cc := cL_commute) (maxL := 5) (ret := some .int) (by decide) rfl ?_
  intro p e s m args below meth c s₁ B hml hv
  obtain ⟨hav, hI, hT⟩ := hv
  have hx := B.exec
  have hb := B.bytes
  have hr := B.returns
  have hts := atoms_spec (ws := wsL_commute) B.pre
  have hown : s.vm.findClass RL = some m.cls := findClass_of_methodNamed B.named
  have hlocks := B.notSynchronized
  have X := XW.of hI
  have htab : c.exceptionTable.toList = tableOf [(0, 17, 20, 13)] := vx_table (x := yL_commute) B (hts (.codeWith yL_commute cL_commute 5 (some .int) [(0, 17, 20, 13)]) List.mem_cons_self)
  refine xe_in hav (Nat.le_of_ble_eq_true rfl) rfl (fun ls hl => ?_)
  rw [fL_commute] at hf
  refine lv_aload_n hx hb dL_commute_0 rfl (lv_at hl 3 rfl) ?_
  refine lv_iconst (v := (0 : Int32)) hx hb dL_commute_1 rfl ?_
  refine lv_aload_n hx hb dL_commute_2 rfl (lv_at hl 0 rfl) ?_
  refine lv_iload_n hx hb dL_commute_3 rfl (lv_at hl 1 rfl) ?_
  refine lv_iload_n hx hb dL_commute_4 rfl (lv_at hl 2 rfl) ?_
  refine xb hf (fun v1 hv1 hf => ?_)
  refine exb_c hf (fun e9 h9 hf => ?_) (fun r2 h9 hf => ?_)
  · refine xr_str hf (fun he hf => ?_) (fun hf => ?_)
    · subst he
      refine xt_VC (rest := [.int (0 : Int32), .ref (ad 24)]) ⟨hx, hb, hml, hown, hts⟩ (eX5_commute htr (exo_s hv1 h9)) (cwV 2 hts gL_commute_X5_commute rfl rfl rfl hqX5_commute ⟨Nat.le_of_ble_eq_true rfl, Nat.le_of_ble_eq_true rfl⟩) X hT (va_recv X.1 X.2.1 (ci := 1) (q0 := 14) rfl wlC_14) rfl hl.1 rfl (Nat.le_of_ble_eq_true rfl) dL_commute_5 ⟨Nat.le_of_ble_eq_true rfl, Nat.le_of_ble_eq_true rfl⟩ [] ⟨0, 17, 20, 13⟩ [] htab xt_p0 (by decide) (by decide) (by decide +kernel) (by decide +kernel) (fun q9 H locs X => ?_)
      refine lv_astore (lv' := [(4, .ref q9), (0, .ref (ad 14)), (1, .int x1), (2, .int x2), (3, .ref (ad 24))]) hx hb dL_commute_20 hl (by decide) rfl (fun ls hl => ?_)
      refine lv_iconst (v := (1 : Int32)) hx hb dL_commute_22 rfl ?_
      cases hf
      exact xe_i6 hx hb hr hlocks X dL_commute_23
    cases hf
  · refine xc_V1 (rest := [.int (0 : Int32), .ref (ad 24)]) ⟨hx, hb, hml, hown, hts⟩ (mX5_commute (exo_s hv1 h9)) (cwV 2 hts gL_commute_X5_commute rfl rfl rfl hqX5_commute ⟨Nat.le_of_ble_eq_true rfl, Nat.le_of_ble_eq_true rfl⟩) X (va_recv X.1 X.2.1 (ci := 1) (q0 := 14) rfl wlC_14) rfl hl.1 rfl (Nat.le_of_ble_eq_true rfl) dL_commute_5 ⟨Nat.zero_le _, Nat.zero_le _⟩ (fun H locs X => ?_)
    refine xr_if_eq (tgt := 15) hx hb dL_commute_8 rfl hf (fun hf => ?_) (fun hf => ?_)
    · refine lv_lconst (v := (0 : Int64)) hx hb dL_commute_15 rfl ?_
      refine xa_last hx hb X 24 wlC_24 wlC_s_ol dL_commute_16 hf (fun g3 H locs hf X => ?_)
      refine lv_goto (tgt := 24) hx hb dL_commute_17 rfl ?_
      refine lv_iconst (v := (0 : Int32)) hx hb dL_commute_24 rfl ?_
      cases hf
      refine W.widen (k := 1) (n := 6) (by decide) (by decide) ?_
      exact xe_i6 hx hb hr hlocks X dL_commute_25
    · refine lv_lconst (v := (1 : Int64)) hx hb dL_commute_11 rfl ?_
      refine lv_goto (tgt := 16) hx hb dL_commute_12 rfl ?_
      refine xa_last hx hb X 24 wlC_24 wlC_s_ol dL_commute_16 hf (fun g4 H locs hf X => ?_)
      refine lv_goto (tgt := 24) hx hb dL_commute_17 rfl ?_
      refine lv_iconst (v := (0 : Int32)) hx hb dL_commute_24 rfl ?_
      cases hf
      refine W.widen (k := 1) (n := 6) (by decide) (by decide) ?_
      exact xe_i6 hx hb hr hlocks X dL_commute_25
set_option maxRecDepth 100000 in
set_option maxHeartbeats 4000000 in
theorem mL_commonRoot {l : Launch} {dd : va_G} {cy : Nat → ClassId} {ad : Nat → Nat} {A : Nat → Prop} {fu : Nat} {ts : Nat → Int32} {tc : Nat → Nat → Int32} {rk : Nat → Int32} {pl : Nat → Int32} {ru : Nat → Int64} {sl : Nat → Int32} {bg : Nat → Int32} {kn : Nat → Int64} {rm : Int32} {ol : Nat → Int64} {od : Nat → UInt64} {x1 : Int32} {x2 : Int32} {x3 : Int32} {rv : Int32} {tso : Nat → Int32} {tco : Nat → Nat → Int32} {olo : Nat → Int64} (htr : l.stackTraces = false) (hf : fL_commonRoot fu ts tc ol x1 x2 x3 = some (rv, tso, tco, olo)) : Met l yL_commonRoot wsL_commonRoot { frames := 8, cells := 1, slots := 6, locals := 159 } (va_Pc [.ref (ad 14), .int x1, .int x2, .int x3, .ref (ad 24)] (IT dd cy A (wlC ad cy ts tc rk pl ru sl bg kn rm ol od))) (QX dd cy A (some (.int rv)) (wlC ad cy tso tco rk pl ru sl bg kn rm olo od)) 1 6 A := by
  refine va_MetW (cc := cL_commonRoot) (maxL := 6) (ret := some .int) (by decide) rfl ?_
  intro p e s m args below meth c s₁ B hml hv
  obtain ⟨hav, hI, hT⟩ := hv
  have hx := B.exec
  have hb := B.bytes
  have hr := B.returns
  have hts := atoms_spec (ws := wsL_commonRoot) B.pre
  have hown : s.vm.findClass RL = some m.cls := findClass_of_methodNamed B.named
  have hlocks := B.notSynchronized
  have X := XW.of hI
  have htab : c.exceptionTable.toList = tableOf [(0, 12, 15, 13), (0, 12, 19, 55)] := vx_table (x := yL_commonRoot) B (hts (.codeWith yL_commonRoot cL_commonRoot 6 (some .int) [(0, 12, 15, 13), (0, 12, 19, 55)]) List.mem_cons_self)
  refine xe_in hav (Nat.le_of_ble_eq_true rfl) rfl (fun ls hl => ?_)
  rw [fL_commonRoot] at hf
  refine lv_aload hx hb dL_commonRoot_0 (lv_at hl 4 rfl) ?_
  refine lv_iconst (v := (0 : Int32)) hx hb dL_commonRoot_2 rfl ?_
  refine lv_aload_n hx hb dL_commonRoot_3 rfl (lv_at hl 0 rfl) ?_
  refine lv_iload_n hx hb dL_commonRoot_4 rfl (lv_at hl 1 rfl) ?_
  refine lv_iload_n hx hb dL_commonRoot_5 rfl (lv_at hl 2 rfl) ?_
  refine lv_iload_n hx hb dL_commonRoot_6 rfl (lv_at hl 3 rfl) ?_
  refine xb hf (fun v1 hv1 hf => ?_)
  refine exb_c hf (fun e9 h9 hf => ?_) (fun r2 h9 hf => ?_)
  · refine xr_str hf (fun he hf => ?_) (fun hf => ?_)
    · subst he
      refine xt_VC (rest := [.int (0 : Int32), .ref (ad 24)]) ⟨hx, hb, hml, hown, hts⟩ (eX5_commonRoot htr (exo_p hv1 h9)) (cwV 3 hts gL_commonRoot_X5_commonRoot rfl rfl rfl hqX5_commonRoot ⟨Nat.le_of_ble_eq_true rfl, Nat.le_of_ble_eq_true rfl⟩) X hT (va_recv X.1 X.2.1 (ci := 1) (q0 := 14) rfl wlC_14) rfl hl.1 rfl (Nat.le_of_ble_eq_true rfl) dL_commonRoot_7 ⟨Nat.le_of_ble_eq_true rfl, Nat.le_of_ble_eq_true rfl⟩ [] ⟨0, 12, 15, 13⟩ [⟨0, 12, 19, 55⟩] htab xt_p0 (by decide) (by decide) (by decide +kernel) (by decide +kernel) (fun q9 H locs X => ?_)
      refine lv_astore (lv' := [(5, .ref q9), (0, .ref (ad 14)), (1, .int x1), (2, .int x2), (3, .int x3), (4, .ref (ad 24))]) hx hb dL_commonRoot_15 hl (by decide) rfl (fun ls hl => ?_)
      refine lv_iconst (v := (1 : Int32)) hx hb dL_commonRoot_17 rfl ?_
      cases hf
      exact xe_i6 hx hb hr hlocks X dL_commonRoot_18
    refine xr_str hf (fun he hf => ?_) (fun hf => ?_)
    · subst he
      refine xt_VC (rest := [.int (0 : Int32), .ref (ad 24)]) ⟨hx, hb, hml, hown, hts⟩ (eX5_commonRoot htr (exo_p hv1 h9)) (cwV 3 hts gL_commonRoot_X5_commonRoot rfl rfl rfl hqX5_commonRoot ⟨Nat.le_of_ble_eq_true rfl, Nat.le_of_ble_eq_true rfl⟩) X hT (va_recv X.1 X.2.1 (ci := 1) (q0 := 14) rfl wlC_14) rfl hl.1 rfl (Nat.le_of_ble_eq_true rfl) dL_commonRoot_7 ⟨Nat.le_of_ble_eq_true rfl, Nat.le_of_ble_eq_true rfl⟩ [⟨0, 12, 15, 13⟩] ⟨0, 12, 19, 55⟩ [] htab (xt_p1 hts hT (nm := "java/lang/IndexOutOfBoundsException") (by decide) (by decide +kernel) (by decide +kernel) xt_p0) (by decide) (by decide) (by decide +kernel) (by decide +kernel) (fun q9 H locs X => ?_)
      refine lv_astore (lv' := [(5, .ref q9), (0, .ref (ad 14)), (1, .int x1), (2, .int x2), (3, .int x3), (4, .ref (ad 24))]) hx hb dL_commonRoot_19 hl (by decide) rfl (fun ls hl => ?_)
      refine lv_iconst (v := (2 : Int32)) hx hb dL_commonRoot_21 rfl ?_
      cases hf
      exact xe_i6 hx hb hr hlocks X dL_commonRoot_22
    cases hf
  · refine xc_V1 (rest := [.int (0 : Int32), .ref (ad 24)]) ⟨hx, hb, hml, hown, hts⟩ (mX5_commonRoot (exo_p hv1 h9)) (cwV 3 hts gL_commonRoot_X5_commonRoot rfl rfl rfl hqX5_commonRoot ⟨Nat.le_of_ble_eq_true rfl, Nat.le_of_ble_eq_true rfl⟩) X (va_recv X.1 X.2.1 (ci := 1) (q0 := 14) rfl wlC_14) rfl hl.1 rfl (Nat.le_of_ble_eq_true rfl) dL_commonRoot_7 ⟨Nat.zero_le _, Nat.zero_le _⟩ (fun H locs X => ?_)
    refine lv_i2l (v := (r2.toInt64)) hx hb dL_commonRoot_10 rfl ?_
    refine xa_last hx hb X 24 wlC_24 wlC_s_ol dL_commonRoot_11 hf (fun g3 H locs hf X => ?_)
    refine lv_goto (tgt := 23) hx hb dL_commonRoot_12 rfl ?_
    refine lv_iconst (v := (0 : Int32)) hx hb dL_commonRoot_23 rfl ?_
    cases hf
    refine W.widen (k := 1) (n := 6) (by decide) (by decide) ?_
    exact xe_i6 hx hb hr hlocks X dL_commonRoot_24
set_option maxRecDepth 100000 in
set_option maxHeartbeats 4000000 in
theorem mL_ways {l : Launch} {dd : va_G} {cy : Nat → ClassId} {ad : Nat → Nat} {A : Nat → Prop} {fu : Nat} {ts : Nat → Int32} {tc : Nat → Nat → Int32} {rk : Nat → Int32} {pl : Nat → Int32} {ru : Nat → Int64} {sl : Nat → Int32} {bg : Nat → Int32} {kn : Nat → Int64} {rm : Int32} {ol : Nat → Int64} {od : Nat → UInt64} {x1 : Int32} {x2 : Int32} {rv : Int32} {ruo : Nat → Int64} {olo : Nat → Int64} (htr : l.stackTraces = false) (hf : fL_ways fu ts tc ru ol x1 x2 = some (rv, ruo, olo)) : Met l yL_ways wsL_ways { frames := 8, cells := 1, slots := 6, locals := 144 } (va_Pc [.ref (ad 14), .int x1, .int x2, .ref (ad 24)] (IT dd cy A (wlC ad cy ts tc rk pl ru sl bg kn rm ol od))) (QX dd cy A (some (.int rv)) (wlC ad cy ts tc rk pl ruo sl bg kn rm olo od)) 1 6 A := by
  refine va_MetW (cc := cL_ways) (maxL := 5) (ret := some .int) (by decide) rfl ?_
  intro p e s m args below meth c s₁ B hml hv
  obtain ⟨hav, hI, hT⟩ := hv
  have hx := B.exec
  have hb := B.bytes
  have hr := B.returns
  have hts := atoms_spec (ws := wsL_ways) B.pre
  have hown : s.vm.findClass RL = some m.cls := findClass_of_methodNamed B.named
  have hlocks := B.notSynchronized
  have X := XW.of hI
  have htab : c.exceptionTable.toList = tableOf [(0, 9, 12, 13), (0, 9, 16, 15)] := vx_table (x := yL_ways) B (hts (.codeWith yL_ways cL_ways 5 (some .int) [(0, 9, 12, 13), (0, 9, 16, 15)]) List.mem_cons_self)
  refine xe_in hav (Nat.le_of_ble_eq_true rfl) rfl (fun ls hl => ?_)
  rw [fL_ways] at hf
  refine lv_aload_n hx hb dL_ways_0 rfl (lv_at hl 3 rfl) ?_
  refine lv_iconst (v := (0 : Int32)) hx hb dL_ways_1 rfl ?_
  refine lv_aload_n hx hb dL_ways_2 rfl (lv_at hl 0 rfl) ?_
  refine lv_iload_n hx hb dL_ways_3 rfl (lv_at hl 1 rfl) ?_
  refine lv_iload_n hx hb dL_ways_4 rfl (lv_at hl 2 rfl) ?_
  refine xb hf (fun v1 hv1 hf => ?_)
  refine exb_c hf (fun e9 h9 hf => ?_) (fun r2 h9 hf => ?_)
  · refine xr_str hf (fun he hf => ?_) (fun hf => ?_)
    · subst he
      refine xt_VC (rest := [.int (0 : Int32), .ref (ad 24)]) ⟨hx, hb, hml, hown, hts⟩ (eX5_ways htr (exo_p hv1 h9)) (cwV 2 hts gL_ways_X5_ways rfl rfl rfl hqX5_ways ⟨Nat.le_of_ble_eq_true rfl, Nat.le_of_ble_eq_true rfl⟩) X hT (va_recv X.1 X.2.1 (ci := 1) (q0 := 14) rfl wlC_14) rfl hl.1 rfl (Nat.le_of_ble_eq_true rfl) dL_ways_5 ⟨Nat.le_of_ble_eq_true rfl, Nat.le_of_ble_eq_true rfl⟩ [] ⟨0, 9, 12, 13⟩ [⟨0, 9, 16, 15⟩] htab xt_p0 (by decide) (by decide) (by decide +kernel) (by decide +kernel) (fun q9 H locs X => ?_)
      refine lv_astore (lv' := [(4, .ref q9), (0, .ref (ad 14)), (1, .int x1), (2, .int x2), (3, .ref (ad 24))]) hx hb dL_ways_12 hl (by decide) rfl (fun ls hl => ?_)
      refine lv_iconst (v := (1 : Int32)) hx hb dL_ways_14 rfl ?_
      cases hf
      exact xe_i6 hx hb hr hlocks X dL_ways_15
    refine xr_str hf (fun he hf => ?_) (fun hf => ?_)
    · subst he
      refine xt_VC (rest := [.int (0 : Int32), .ref (ad 24)]) ⟨hx, hb, hml, hown, hts⟩ (eX5_ways htr (exo_p hv1 h9)) (cwV 2 hts gL_ways_X5_ways rfl rfl rfl hqX5_ways ⟨Nat.le_of_ble_eq_true rfl, Nat.le_of_ble_eq_true rfl⟩) X hT (va_recv X.1 X.2.1 (ci := 1) (q0 := 14) rfl wlC_14) rfl hl.1 rfl (Nat.le_of_ble_eq_true rfl) dL_ways_5 ⟨Nat.le_of_ble_eq_true rfl, Nat.le_of_ble_eq_true rfl⟩ [⟨0, 9, 12, 13⟩] ⟨0, 9, 16, 15⟩ [] htab (xt_p1 hts hT (nm := "java/lang/IndexOutOfBoundsException") (by decide) (by decide +kernel) (by decide +kernel) xt_p0) (by decide) (by decide) (by decide +kernel) (by decide +kernel) (fun q9 H locs X => ?_)
      refine lv_astore (lv' := [(4, .ref q9), (0, .ref (ad 14)), (1, .int x1), (2, .int x2), (3, .ref (ad 24))]) hx hb dL_ways_16 hl (by decide) rfl (fun ls hl => ?_)
      refine lv_iconst (v := (2 : Int32)) hx hb dL_ways_18 rfl ?_
      cases hf
      exact xe_i6 hx hb hr hlocks X dL_ways_19
    cases hf
  · refine xc_V1 (rest := [.int (0 : Int32), .ref (ad 24)]) ⟨hx, hb, hml, hown, hts⟩ (mX5_ways (exo_p hv1 h9)) (cwV 2 hts gL_ways_X5_ways rfl rfl rfl hqX5_ways ⟨Nat.le_of_ble_eq_true rfl, Nat.le_of_ble_eq_true rfl⟩) X (va_recv X.1 X.2.1 (ci := 1) (q0 := 14) rfl wlC_14) rfl hl.1 rfl (Nat.le_of_ble_eq_true rfl) dL_ways_5 ⟨Nat.zero_le _, Nat.zero_le _⟩ (fun H locs X => ?_)
    refine xa_last hx hb X 24 wlC_24 wlC_s_ol dL_ways_8 hf (fun g3 H locs hf X => ?_)
    refine lv_goto (tgt := 20) hx hb dL_ways_9 rfl ?_
    refine lv_iconst (v := (0 : Int32)) hx hb dL_ways_20 rfl ?_
    cases hf
    refine W.widen (k := 1) (n := 6) (by decide) (by decide) ?_
    exact xe_i6 hx hb hr hlocks X dL_ways_21
set_option maxRecDepth 100000 in
set_option maxHeartbeats 4000000 in
theorem mL_isFree {l : Launch} {dd : va_G} {cy : Nat → ClassId} {ad : Nat → Nat} {A : Nat → Prop} {fu : Nat} {ts : Nat → Int32} {tc : Nat → Nat → Int32} {rk : Nat → Int32} {pl : Nat → Int32} {ru : Nat → Int64} {sl : Nat → Int32} {bg : Nat → Int32} {kn : Nat → Int64} {rm : Int32} {ol : Nat → Int64} {od : Nat → UInt64} {x1 : Int32} {rv : Int32} {slo : Nat → Int32} {bgo : Nat → Int32} {kno : Nat → Int64} {rmo : Int32} {olo : Nat → Int64} (htr : l.stackTraces = false) (hf : fL_isFree fu ts tc sl bg kn rm ol x1 = some (rv, slo, bgo, kno, rmo, olo)) : Met l yL_isFree wsL_isFree { frames := 8, cells := 1, slots := 6, locals := 141 } (va_Pc [.ref (ad 14), .int x1, .ref (ad 24)] (IT dd cy A (wlC ad cy ts tc rk pl ru sl bg kn rm ol od))) (QX dd cy A (some (.int rv)) (wlC ad cy ts tc rk pl ru slo bgo kno rmo olo od)) 1 6 A := by
  refine va_MetW (cc := cL_isFree) (maxL := 4) (ret := some .int) (by decide) rfl ?_
  intro p e s m args below meth c s₁ B hml hv
  obtain ⟨hav, hI, hT⟩ := hv
  have hx := B.exec
  have hb := B.bytes
  have hr := B.returns
  have hts := atoms_spec (ws := wsL_isFree) B.pre
  have hown : s.vm.findClass RL = some m.cls := findClass_of_methodNamed B.named
  have hlocks := B.notSynchronized
  have X := XW.of hI
  have htab : c.exceptionTable.toList = tableOf [(0, 16, 19, 15)] := vx_table (x := yL_isFree) B (hts (.codeWith yL_isFree cL_isFree 4 (some .int) [(0, 16, 19, 15)]) List.mem_cons_self)
  refine xe_in hav (Nat.le_of_ble_eq_true rfl) rfl (fun ls hl => ?_)
  rw [fL_isFree] at hf
  refine lv_aload_n hx hb dL_isFree_0 rfl (lv_at hl 2 rfl) ?_
  refine lv_iconst (v := (0 : Int32)) hx hb dL_isFree_1 rfl ?_
  refine lv_aload_n hx hb dL_isFree_2 rfl (lv_at hl 0 rfl) ?_
  refine lv_iload_n hx hb dL_isFree_3 rfl (lv_at hl 1 rfl) ?_
  refine xb hf (fun v1 hv1 hf => ?_)
  refine exb_c hf (fun e9 h9 hf => ?_) (fun r2 h9 hf => ?_)
  · refine xr_str hf (fun he hf => ?_) (fun hf => ?_)
    · subst he
      refine xt_VC (rest := [.int (0 : Int32), .ref (ad 24)]) ⟨hx, hb, hml, hown, hts⟩ (eX5_isFree htr (exo_p hv1 h9)) (cwV 1 hts gL_isFree_X5_isFree rfl rfl rfl hqX5_isFree ⟨Nat.le_of_ble_eq_true rfl, Nat.le_of_ble_eq_true rfl⟩) X hT (va_recv X.1 X.2.1 (ci := 1) (q0 := 14) rfl wlC_14) rfl hl.1 rfl (Nat.le_of_ble_eq_true rfl) dL_isFree_4 ⟨Nat.le_of_ble_eq_true rfl, Nat.le_of_ble_eq_true rfl⟩ [] ⟨0, 16, 19, 15⟩ [] htab xt_p0 (by decide) (by decide) (by decide +kernel) (by decide +kernel) (fun q9 H locs X => ?_)
      refine lv_astore_n (lv' := [(3, .ref q9), (0, .ref (ad 14)), (1, .int x1), (2, .ref (ad 24))]) hx hb dL_isFree_19 rfl hl (by decide) rfl (fun ls hl => ?_)
      refine lv_iconst (v := (1 : Int32)) hx hb dL_isFree_20 rfl ?_
      cases hf
      exact xe_i6 hx hb hr hlocks X dL_isFree_21
    cases hf
  · refine xc_V1 (rest := [.int (0 : Int32), .ref (ad 24)]) ⟨hx, hb, hml, hown, hts⟩ (mX5_isFree (exo_p hv1 h9)) (cwV 1 hts gL_isFree_X5_isFree rfl rfl rfl hqX5_isFree ⟨Nat.le_of_ble_eq_true rfl, Nat.le_of_ble_eq_true rfl⟩) X (va_recv X.1 X.2.1 (ci := 1) (q0 := 14) rfl wlC_14) rfl hl.1 rfl (Nat.le_of_ble_eq_true rfl) dL_isFree_4 ⟨Nat.zero_le _, Nat.zero_le _⟩ (fun H locs X => ?_)
    refine xr_if_eq (tgt := 14) hx hb dL_isFree_7 rfl hf (fun hf => ?_) (fun hf => ?_)
    · refine lv_lconst (v := (0 : Int64)) hx hb dL_isFree_14 rfl ?_
      refine xa_last hx hb X 24 wlC_24 wlC_s_ol dL_isFree_15 hf (fun g3 H locs hf X => ?_)
      refine lv_goto (tgt := 22) hx hb dL_isFree_16 rfl ?_
      refine lv_iconst (v := (0 : Int32)) hx hb dL_isFree_22 rfl ?_
      cases hf
      refine W.widen (k := 1) (n := 6) (by decide) (by decide) ?_
      exact xe_i6 hx hb hr hlocks X dL_isFree_23
    · refine lv_lconst (v := (1 : Int64)) hx hb dL_isFree_10 rfl ?_
      refine lv_goto (tgt := 15) hx hb dL_isFree_11 rfl ?_
      refine xa_last hx hb X 24 wlC_24 wlC_s_ol dL_isFree_15 hf (fun g4 H locs hf X => ?_)
      refine lv_goto (tgt := 22) hx hb dL_isFree_16 rfl ?_
      refine lv_iconst (v := (0 : Int32)) hx hb dL_isFree_22 rfl ?_
      cases hf
      refine W.widen (k := 1) (n := 6) (by decide) (by decide) ?_
      exact xe_i6 hx hb hr hlocks X dL_isFree_23
set_option maxRecDepth 100000 in
set_option maxHeartbeats 4000000 in
theorem mL_rootShare {l : Launch} {dd : va_G} {cy : Nat → ClassId} {ad : Nat → Nat} {A : Nat → Prop} {fu : Nat} {ts : Nat → Int32} {tc : Nat → Nat → Int32} {rk : Nat → Int32} {pl : Nat → Int32} {ru : Nat → Int64} {sl : Nat → Int32} {bg : Nat → Int32} {kn : Nat → Int64} {rm : Int32} {ol : Nat → Int64} {od : Nat → UInt64} {x1 : Int32} {rv : Int32} {odo : Nat → UInt64} (htr : l.stackTraces = false) (hf : fL_rootShare fu ts tc od x1 = some (rv, odo)) : Met l yL_rootShare wsL_rootShare { frames := 8, cells := 1, slots := 6, locals := 143 } (va_Pc [.ref (ad 14), .int x1, .ref (ad 25)] (IT dd cy A (wlC ad cy ts tc rk pl ru sl bg kn rm ol od))) (QX dd cy A (some (.int rv)) (wlC ad cy ts tc rk pl ru sl bg kn rm ol odo)) 1 6 A := by
  refine va_MetW (cc := cL_rootShare) (maxL := 4) (ret := some .int) (by decide) rfl ?_
  intro p e s m args below meth c s₁ B hml hv
  obtain ⟨hav, hI, hT⟩ := hv
  have hx := B.exec
  have hb := B.bytes
  have hr := B.returns
  have hts := atoms_spec (ws := wsL_rootShare) B.pre
  have hown : s.vm.findClass RL = some m.cls := findClass_of_methodNamed B.named
  have hlocks := B.notSynchronized
  have X := XW.of hI
  have htab : c.exceptionTable.toList = tableOf [(0, 9, 12, 13), (0, 9, 15, 151)] := vx_table (x := yL_rootShare) B (hts (.codeWith yL_rootShare cL_rootShare 4 (some .int) [(0, 9, 12, 13), (0, 9, 15, 151)]) List.mem_cons_self)
  refine xe_in hav (Nat.le_of_ble_eq_true rfl) rfl (fun ls hl => ?_)
  rw [fL_rootShare] at hf
  refine lv_aload_n hx hb dL_rootShare_0 rfl (lv_at hl 2 rfl) ?_
  refine lv_iconst (v := (0 : Int32)) hx hb dL_rootShare_1 rfl ?_
  refine lv_aload_n hx hb dL_rootShare_2 rfl (lv_at hl 0 rfl) ?_
  refine lv_iload_n hx hb dL_rootShare_3 rfl (lv_at hl 1 rfl) ?_
  refine xb hf (fun v1 hv1 hf => ?_)
  refine exb_c hf (fun e9 h9 hf => ?_) (fun r2 h9 hf => ?_)
  · refine xr_str hf (fun he hf => ?_) (fun hf => ?_)
    · subst he
      refine xt_VC (rest := [.int (0 : Int32), .ref (ad 25)]) ⟨hx, hb, hml, hown, hts⟩ (eX5_rootShare htr (exo_s hv1 h9)) (cwV 1 hts gL_rootShare_X5_rootShare rfl rfl rfl hqX5_rootShare ⟨Nat.le_of_ble_eq_true rfl, Nat.le_of_ble_eq_true rfl⟩) X hT (va_recv X.1 X.2.1 (ci := 1) (q0 := 14) rfl wlC_14) rfl hl.1 rfl (Nat.le_of_ble_eq_true rfl) dL_rootShare_4 ⟨Nat.le_of_ble_eq_true rfl, Nat.le_of_ble_eq_true rfl⟩ [] ⟨0, 9, 12, 13⟩ [⟨0, 9, 15, 151⟩] htab xt_p0 (by decide) (by decide) (by decide +kernel) (by decide +kernel) (fun q9 H locs X => ?_)
      refine lv_astore_n (lv' := [(3, .ref q9), (0, .ref (ad 14)), (1, .int x1), (2, .ref (ad 25))]) hx hb dL_rootShare_12 rfl hl (by decide) rfl (fun ls hl => ?_)
      refine lv_iconst (v := (1 : Int32)) hx hb dL_rootShare_13 rfl ?_
      cases hf
      exact xe_i6 hx hb hr hlocks X dL_rootShare_14
    refine xr_str hf (fun he hf => ?_) (fun hf => ?_)
    · subst he
      refine xt_VC (rest := [.int (0 : Int32), .ref (ad 25)]) ⟨hx, hb, hml, hown, hts⟩ (eX5_rootShare htr (exo_s hv1 h9)) (cwV 1 hts gL_rootShare_X5_rootShare rfl rfl rfl hqX5_rootShare ⟨Nat.le_of_ble_eq_true rfl, Nat.le_of_ble_eq_true rfl⟩) X hT (va_recv X.1 X.2.1 (ci := 1) (q0 := 14) rfl wlC_14) rfl hl.1 rfl (Nat.le_of_ble_eq_true rfl) dL_rootShare_4 ⟨Nat.le_of_ble_eq_true rfl, Nat.le_of_ble_eq_true rfl⟩ [⟨0, 9, 12, 13⟩] ⟨0, 9, 15, 151⟩ [] htab (xt_p1 hts hT (nm := "java/lang/IndexOutOfBoundsException") (by decide) (by decide +kernel) (by decide +kernel) xt_p0) (by decide) (by decide) (by decide +kernel) (by decide +kernel) (fun q9 H locs X => ?_)
      refine lv_astore_n (lv' := [(3, .ref q9), (0, .ref (ad 14)), (1, .int x1), (2, .ref (ad 25))]) hx hb dL_rootShare_15 rfl hl (by decide) rfl (fun ls hl => ?_)
      refine lv_iconst (v := (2 : Int32)) hx hb dL_rootShare_16 rfl ?_
      cases hf
      exact xe_i6 hx hb hr hlocks X dL_rootShare_17
    cases hf
  · refine xc_V1 (rest := [.int (0 : Int32), .ref (ad 25)]) ⟨hx, hb, hml, hown, hts⟩ (mX5_rootShare (exo_s hv1 h9)) (cwV 1 hts gL_rootShare_X5_rootShare rfl rfl rfl hqX5_rootShare ⟨Nat.le_of_ble_eq_true rfl, Nat.le_of_ble_eq_true rfl⟩) X (va_recv X.1 X.2.1 (ci := 1) (q0 := 14) rfl wlC_14) rfl hl.1 rfl (Nat.le_of_ble_eq_true rfl) dL_rootShare_4 ⟨Nat.zero_le _, Nat.zero_le _⟩ (fun H locs X => ?_)
    refine xr_f2d hx hb dL_rootShare_7 hf (fun v3 hf => ?_)
    refine xa_dast hx hb X 25 wlC_25 wlC_s_od dL_rootShare_8 hf (fun g4 H locs hf X => ?_)
    refine lv_goto (tgt := 18) hx hb dL_rootShare_9 rfl ?_
    refine lv_iconst (v := (0 : Int32)) hx hb dL_rootShare_18 rfl ?_
    cases hf
    refine W.widen (k := 1) (n := 6) (by decide) (by decide) ?_
    exact xe_i6 hx hb hr hlocks X dL_rootShare_19
set_option maxRecDepth 100000 in
set_option maxHeartbeats 4000000 in
theorem mL_meanPeriod {l : Launch} {dd : va_G} {cy : Nat → ClassId} {ad : Nat → Nat} {A : Nat → Prop} {fu : Nat} {ts : Nat → Int32} {tc : Nat → Nat → Int32} {rk : Nat → Int32} {pl : Nat → Int32} {ru : Nat → Int64} {sl : Nat → Int32} {bg : Nat → Int32} {kn : Nat → Int64} {rm : Int32} {ol : Nat → Int64} {od : Nat → UInt64} {x1 : Int32} {rv : Int32} {odo : Nat → UInt64} (htr : l.stackTraces = false) (hf : fL_meanPeriod fu ts tc od x1 = some (rv, odo)) : Met l yL_meanPeriod wsL_meanPeriod { frames := 8, cells := 1, slots := 6, locals := 144 } (va_Pc [.ref (ad 14), .int x1, .ref (ad 25)] (IT dd cy A (wlC ad cy ts tc rk pl ru sl bg kn rm ol od))) (QX dd cy A (some (.int rv)) (wlC ad cy ts tc rk pl ru sl bg kn rm ol odo)) 1 6 A := by
  refine va_MetW (cc := cL_meanPeriod) (maxL := 4) (ret := some .int) (by decide) rfl ?_
  intro p e s m args below meth c s₁ B hml hv
  obtain ⟨hav, hI, hT⟩ := hv
  have hx := B.exec
  have hb := B.bytes
  have hr := B.returns
  have hts := atoms_spec (ws := wsL_meanPeriod) B.pre
  have hown : s.vm.findClass RL = some m.cls := findClass_of_methodNamed B.named
  have hlocks := B.notSynchronized
  have X := XW.of hI
  have htab : c.exceptionTable.toList = tableOf [(0, 8, 11, 13), (0, 8, 14, 151)] := vx_table (x := yL_meanPeriod) B (hts (.codeWith yL_meanPeriod cL_meanPeriod 4 (some .int) [(0, 8, 11, 13), (0, 8, 14, 151)]) List.mem_cons_self)
  refine xe_in hav (Nat.le_of_ble_eq_true rfl) rfl (fun ls hl => ?_)
  rw [fL_meanPeriod] at hf
  refine lv_aload_n hx hb dL_meanPeriod_0 rfl (lv_at hl 2 rfl) ?_
  refine lv_iconst (v := (0 : Int32)) hx hb dL_meanPeriod_1 rfl ?_
  refine lv_aload_n hx hb dL_meanPeriod_2 rfl (lv_at hl 0 rfl) ?_
  refine lv_iload_n hx hb dL_meanPeriod_3 rfl (lv_at hl 1 rfl) ?_
  refine xb hf (fun v1 hv1 hf => ?_)
  refine exb_c hf (fun e9 h9 hf => ?_) (fun r2 h9 hf => ?_)
  · refine xr_str hf (fun he hf => ?_) (fun hf => ?_)
    · subst he
      refine xt_VC (rest := [.int (0 : Int32), .ref (ad 25)]) ⟨hx, hb, hml, hown, hts⟩ (eX5_meanPeriod htr (exo_s hv1 h9)) (cwV 1 hts gL_meanPeriod_X5_meanPeriod rfl rfl rfl hqX5_meanPeriod ⟨Nat.le_of_ble_eq_true rfl, Nat.le_of_ble_eq_true rfl⟩) X hT (va_recv X.1 X.2.1 (ci := 1) (q0 := 14) rfl wlC_14) rfl hl.1 rfl (Nat.le_of_ble_eq_true rfl) dL_meanPeriod_4 ⟨Nat.le_of_ble_eq_true rfl, Nat.le_of_ble_eq_true rfl⟩ [] ⟨0, 8, 11, 13⟩ [⟨0, 8, 14, 151⟩] htab xt_p0 (by decide) (by decide) (by decide +kernel) (by decide +kernel) (fun q9 H locs X => ?_)
      refine lv_astore_n (lv' := [(3, .ref q9), (0, .ref (ad 14)), (1, .int x1), (2, .ref (ad 25))]) hx hb dL_meanPeriod_11 rfl hl (by decide) rfl (fun ls hl => ?_)
      refine lv_iconst (v := (1 : Int32)) hx hb dL_meanPeriod_12 rfl ?_
      cases hf
      exact xe_i6 hx hb hr hlocks X dL_meanPeriod_13
    refine xr_str hf (fun he hf => ?_) (fun hf => ?_)
    · subst he
      refine xt_VC (rest := [.int (0 : Int32), .ref (ad 25)]) ⟨hx, hb, hml, hown, hts⟩ (eX5_meanPeriod htr (exo_s hv1 h9)) (cwV 1 hts gL_meanPeriod_X5_meanPeriod rfl rfl rfl hqX5_meanPeriod ⟨Nat.le_of_ble_eq_true rfl, Nat.le_of_ble_eq_true rfl⟩) X hT (va_recv X.1 X.2.1 (ci := 1) (q0 := 14) rfl wlC_14) rfl hl.1 rfl (Nat.le_of_ble_eq_true rfl) dL_meanPeriod_4 ⟨Nat.le_of_ble_eq_true rfl, Nat.le_of_ble_eq_true rfl⟩ [⟨0, 8, 11, 13⟩] ⟨0, 8, 14, 151⟩ [] htab (xt_p1 hts hT (nm := "java/lang/IndexOutOfBoundsException") (by decide) (by decide +kernel) (by decide +kernel) xt_p0) (by decide) (by decide) (by decide +kernel) (by decide +kernel) (fun q9 H locs X => ?_)
      refine lv_astore_n (lv' := [(3, .ref q9), (0, .ref (ad 14)), (1, .int x1), (2, .ref (ad 25))]) hx hb dL_meanPeriod_14 rfl hl (by decide) rfl (fun ls hl => ?_)
      refine lv_iconst (v := (2 : Int32)) hx hb dL_meanPeriod_15 rfl ?_
      cases hf
      exact xe_i6 hx hb hr hlocks X dL_meanPeriod_16
    cases hf
  · refine xc_V1 (rest := [.int (0 : Int32), .ref (ad 25)]) ⟨hx, hb, hml, hown, hts⟩ (mX5_meanPeriod (exo_s hv1 h9)) (cwV 1 hts gL_meanPeriod_X5_meanPeriod rfl rfl rfl hqX5_meanPeriod ⟨Nat.le_of_ble_eq_true rfl, Nat.le_of_ble_eq_true rfl⟩) X (va_recv X.1 X.2.1 (ci := 1) (q0 := 14) rfl wlC_14) rfl hl.1 rfl (Nat.le_of_ble_eq_true rfl) dL_meanPeriod_4 ⟨Nat.zero_le _, Nat.zero_le _⟩ (fun H locs X => ?_)
    refine xa_dast hx hb X 25 wlC_25 wlC_s_od dL_meanPeriod_7 hf (fun g3 H locs hf X => ?_)
    refine lv_goto (tgt := 17) hx hb dL_meanPeriod_8 rfl ?_
    refine lv_iconst (v := (0 : Int32)) hx hb dL_meanPeriod_17 rfl ?_
    cases hf
    refine W.widen (k := 1) (n := 6) (by decide) (by decide) ?_
    exact xe_i6 hx hb hr hlocks X dL_meanPeriod_18
