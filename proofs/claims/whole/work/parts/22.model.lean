set_option maxRecDepth 100000 in
set_option maxHeartbeats 4000000 in
theorem mX6_thrown {l : Launch} {dd : va_G} {cy : Nat → ClassId} {bd : Nat → Nat} {A : Nat → Prop} {th : Int32} {ce : Nat → Int32} {sz : Nat → Int32} {wy : Nat → Int64} {op : Nat → Int32} {rv : Int32} (hf : fX6_thrown th = some rv) : Met l yX6_thrown wsX6_thrown { frames := 0, cells := 0, slots := 0, locals := 0 } (va_Pc [.ref (bd 0)] (IW dd cy A (wlR bd cy th ce sz wy op))) (QX dd cy A (some (.int rv)) (wlR bd cy th ce sz wy op)) 0 0 A := by
  refine Met.ofW (cc := cX6_thrown) (maxL := 1) (ret := some .int) (by decide) rfl ?_
  intro p e s m args below meth c s₁ B hml hv
  obtain ⟨hav, hI⟩ := hv
  have hx := B.exec
  have hb := B.bytes
  have hr := B.returns
  have hts := atoms_spec (ws := wsX6_thrown) B.pre
  have hown : s.vm.findClass RX6 = some m.cls := findClass_of_methodNamed B.named
  have hlocks := B.notSynchronized
  have X := XW.of hI
  have h6 : ∀ w ∈ wsX60, w ∈ wsX6_thrown := by decide +kernel
  refine xe_in hav (Nat.le_of_ble_eq_true rfl) rfl (fun ls hl => ?_)
  rw [fX6_thrown] at hf
  refine lv_aload_n hx hb dX6_thrown_0 rfl (lv_at hl 0 rfl) ?_
  refine xg_f hx hb hts hown X h6 0 wlR_0 rfl 0 (by decide) (by decide +kernel) (v := .int th) rfl dX6_thrown_1 ?_
  cases hf
  exact xe_i hx hb hr hlocks X dX6_thrown_4
set_option maxRecDepth 100000 in
set_option maxHeartbeats 4000000 in
theorem mX6_isThrown {l : Launch} {dd : va_G} {cy : Nat → ClassId} {bd : Nat → Nat} {A : Nat → Prop} {th : Int32} {ce : Nat → Int32} {sz : Nat → Int32} {wy : Nat → Int64} {op : Nat → Int32} {x1 : Int32} {x2 : Int32} {rv : Int32} {tho : Int32} (hf : fX6_isThrown th x1 x2 = some (rv, tho)) : Met l yX6_isThrown wsX6_isThrown { frames := 0, cells := 0, slots := 0, locals := 0 } (va_Pc [.ref (bd 0), .int x1, .int x2] (IW dd cy A (wlR bd cy th ce sz wy op))) (QX dd cy A (some (.int rv)) (wlR bd cy tho ce sz wy op)) 0 0 A := by
  refine Met.ofW (cc := cX6_isThrown) (maxL := 3) (ret := some .boolean) (by decide) rfl ?_
  intro p e s m args below meth c s₁ B hml hv
  obtain ⟨hav, hI⟩ := hv
  have hx := B.exec
  have hb := B.bytes
  have hr := B.returns
  have hts := atoms_spec (ws := wsX6_isThrown) B.pre
  have hown : s.vm.findClass RX6 = some m.cls := findClass_of_methodNamed B.named
  have hlocks := B.notSynchronized
  have X := XW.of hI
  have h6 : ∀ w ∈ wsX60, w ∈ wsX6_isThrown := by decide +kernel
  refine xe_in hav (Nat.le_of_ble_eq_true rfl) rfl (fun ls hl => ?_)
  rw [fX6_isThrown] at hf
  refine lv_aload_n hx hb dX6_isThrown_0 rfl (lv_at hl 0 rfl) ?_
  refine lv_iload_n hx hb dX6_isThrown_1 rfl (lv_at hl 1 rfl) ?_
  refine xr_if_eq (tgt := 9) hx hb dX6_isThrown_2 rfl hf (fun hf => ?_) (fun hf => ?_)
  · refine lv_iconst (v := (0 : Int32)) hx hb dX6_isThrown_9 rfl ?_
    refine xp_f hx hb hts hown X h6 tyX6_ok nmX6 0 wlR_0 rfl 0 (by decide) rfl (by decide +kernel) (by decide +kernel) (Nat.le_of_ble_eq_true rfl) (wlR_s_th (0 : Int32)) dX6_isThrown_10 (fun H locs X => ?_)
    refine lv_iload_n hx hb dX6_isThrown_13 rfl (lv_at hl 1 rfl) ?_
    refine xb hf (fun z9 hz hf => ?_)
    obtain ⟨hn, rfl⟩ := ckZ_some hz
    cases hf
    exact xe_z hx hb hr hlocks X hn dX6_isThrown_14
  · refine lv_iload_n hx hb dX6_isThrown_5 rfl (lv_at hl 2 rfl) ?_
    refine lv_goto (tgt := 10) hx hb dX6_isThrown_6 rfl ?_
    refine xp_f hx hb hts hown X h6 tyX6_ok nmX6 0 wlR_0 rfl 0 (by decide) rfl (by decide +kernel) (by decide +kernel) (Nat.le_of_ble_eq_true rfl) (wlR_s_th x2) dX6_isThrown_10 (fun H locs X => ?_)
    refine lv_iload_n hx hb dX6_isThrown_13 rfl (lv_at hl 1 rfl) ?_
    refine xb hf (fun z9 hz hf => ?_)
    obtain ⟨hn, rfl⟩ := ckZ_some hz
    cases hf
    exact xe_z hx hb hr hlocks X hn dX6_isThrown_14
set_option maxRecDepth 100000 in
set_option maxHeartbeats 4000000 in
theorem mX6_isIn {l : Launch} {dd : va_G} {cy : Nat → ClassId} {bd : Nat → Nat} {A : Nat → Prop} {th : Int32} {ce : Nat → Int32} {sz : Nat → Int32} {wy : Nat → Int64} {op : Nat → Int32} {x0 : Int64} {x2 : Int64} {x4 : Int64} {rv : Int32} (hf : fX6_isIn x0 x2 x4 = some rv) : Met l yX6_isIn wsX6_isIn { frames := 0, cells := 0, slots := 0, locals := 0 } (va_Pc [.long x0, .long x2, .long x4] (IW dd cy A (wlR bd cy th ce sz wy op))) (QX dd cy A (some (.int rv)) (wlR bd cy th ce sz wy op)) 0 0 A := by
  refine Met.ofW (cc := cX6_isIn) (maxL := 6) (ret := some .boolean) (by decide) rfl ?_
  intro p e s m args below meth c s₁ B hml hv
  obtain ⟨hav, hI⟩ := hv
  have hx := B.exec
  have hb := B.bytes
  have hr := B.returns
  have hts := atoms_spec (ws := wsX6_isIn) B.pre
  have hown : s.vm.findClass RX6 = some m.cls := findClass_of_methodNamed B.named
  have hlocks := B.notSynchronized
  have X := XW.of hI
  refine xe_in hav (Nat.le_of_ble_eq_true rfl) rfl (fun ls hl => ?_)
  rw [fX6_isIn] at hf
  refine lv_lload_n hx hb dX6_isIn_0 rfl (lv_at hl 1 rfl) ?_
  refine lv_lload_n hx hb dX6_isIn_1 rfl (lv_at hl 0 rfl) ?_
  refine W.lcmp hx hb dX6_isIn_2 ?_
  refine xr_if_gt (tgt := 17) hx hb dX6_isIn_3 rfl hf (fun hf => ?_) (fun hf => ?_)
  · refine lv_iconst (v := (0 : Int32)) hx hb dX6_isIn_17 rfl ?_
    cases hf
    exact xe_z hx hb hr hlocks X rfl dX6_isIn_18
  · refine lv_lload_n hx hb dX6_isIn_6 rfl (lv_at hl 0 rfl) ?_
    refine lv_lload hx hb dX6_isIn_7 (lv_at hl 2 rfl) ?_
    refine W.lcmp hx hb dX6_isIn_9 ?_
    refine xr_if_gt (tgt := 17) hx hb dX6_isIn_10 rfl hf (fun hf => ?_) (fun hf => ?_)
    · refine lv_iconst (v := (0 : Int32)) hx hb dX6_isIn_17 rfl ?_
      cases hf
      exact xe_z hx hb hr hlocks X rfl dX6_isIn_18
    · refine lv_iconst (v := (1 : Int32)) hx hb dX6_isIn_13 rfl ?_
      refine lv_goto (tgt := 18) hx hb dX6_isIn_14 rfl ?_
      cases hf
      exact xe_z hx hb hr hlocks X rfl dX6_isIn_18
set_option maxRecDepth 100000 in
set_option maxHeartbeats 4000000 in
theorem mX6_isNo {l : Launch} {dd : va_G} {cy : Nat → ClassId} {bd : Nat → Nat} {A : Nat → Prop} {th : Int32} {ce : Nat → Int32} {sz : Nat → Int32} {wy : Nat → Int64} {op : Nat → Int32} {x1 : Int32} {rv : Int32} {tho : Int32} (hf : fX6_isNo th x1 = some (rv, tho)) : Met l yX6_isNo wsX6_isNo { frames := 1, cells := 0, slots := 0, locals := 25 } (va_Pc [.ref (bd 0), .int x1] (IW dd cy A (wlR bd cy th ce sz wy op))) (QX dd cy A (some (.int rv)) (wlR bd cy tho ce sz wy op)) 0 0 A := by
  refine Met.ofW (cc := cX6_isNo) (maxL := 2) (ret := some .boolean) (by decide) rfl ?_
  intro p e s m args below meth c s₁ B hml hv
  obtain ⟨hav, hI⟩ := hv
  have hx := B.exec
  have hb := B.bytes
  have hr := B.returns
  have hts := atoms_spec (ws := wsX6_isNo) B.pre
  have hown : s.vm.findClass RX6 = some m.cls := findClass_of_methodNamed B.named
  have hlocks := B.notSynchronized
  have X := XW.of hI
  refine xe_in hav (Nat.le_of_ble_eq_true rfl) rfl (fun ls hl => ?_)
  rw [fX6_isNo] at hf
  refine lv_aload_n hx hb dX6_isNo_0 rfl (lv_at hl 0 rfl) ?_
  refine lv_iload_n hx hb dX6_isNo_1 rfl (lv_at hl 1 rfl) ?_
  refine lv_i2l (v := (x1.toInt64)) hx hb dX6_isNo_2 rfl ?_
  refine lv_lconst (v := (0 : Int64)) hx hb dX6_isNo_3 rfl ?_
  refine lv_ldc2 (v := (5 : Int64)) hx hb hown (hts (.constantLong RX6 28 (5)) (by decide +kernel)) dX6_isNo_4 ?_
  refine xb hf (fun v1 hv hf => ?_)
  refine xc_S1 (rest := [.ref (bd 0)]) ⟨hx, hb, hml, hown, hts⟩ (mX6_isIn hv) (va_cwS 3 hts gX6_isNo_X6_isIn rfl rfl rfl hqX6_isIn ⟨Nat.le_of_ble_eq_true rfl, Nat.le_of_ble_eq_true rfl⟩) X rfl hl.1 rfl (Nat.le_of_ble_eq_true rfl) dX6_isNo_7 ⟨Nat.zero_le _, Nat.zero_le _⟩ (fun H locs X => ?_)
  refine xr_if_ne (tgt := 17) hx hb dX6_isNo_10 rfl hf (fun hf => ?_) (fun hf => ?_)
  · refine lv_iconst (v := (0 : Int32)) hx hb dX6_isNo_17 rfl ?_
    refine lv_iconst (v := (1 : Int32)) hx hb dX6_isNo_18 rfl ?_
    refine xb hf (fun v2 hv hf => ?_)
    refine xc_V1 (rest := []) ⟨hx, hb, hml, hown, hts⟩ (mX6_isThrown hv) (cwV 2 hts gX6_isNo_X6_isThrown rfl rfl rfl hqX6_isThrown ⟨Nat.le_of_ble_eq_true rfl, Nat.le_of_ble_eq_true rfl⟩) X (va_recv X.1 X.2.1 (ci := 4) (q0 := 0) rfl wlR_0) rfl hl.1 rfl (Nat.le_of_ble_eq_true rfl) dX6_isNo_19 ⟨Nat.zero_le _, Nat.zero_le _⟩ (fun H locs X => ?_)
    refine xb hf (fun z9 hz hf => ?_)
    obtain ⟨hn, rfl⟩ := ckZ_some hz
    cases hf
    exact xe_z hx hb hr hlocks X hn dX6_isNo_22
  · refine lv_iconst (v := (1 : Int32)) hx hb dX6_isNo_13 rfl ?_
    refine lv_goto (tgt := 18) hx hb dX6_isNo_14 rfl ?_
    refine lv_iconst (v := (1 : Int32)) hx hb dX6_isNo_18 rfl ?_
    refine xb hf (fun v3 hv hf => ?_)
    refine xc_V1 (rest := []) ⟨hx, hb, hml, hown, hts⟩ (mX6_isThrown hv) (cwV 2 hts gX6_isNo_X6_isThrown rfl rfl rfl hqX6_isThrown ⟨Nat.le_of_ble_eq_true rfl, Nat.le_of_ble_eq_true rfl⟩) X (va_recv X.1 X.2.1 (ci := 4) (q0 := 0) rfl wlR_0) rfl hl.1 rfl (Nat.le_of_ble_eq_true rfl) dX6_isNo_19 ⟨Nat.zero_le _, Nat.zero_le _⟩ (fun H locs X => ?_)
    refine xb hf (fun z9 hz hf => ?_)
    obtain ⟨hn, rfl⟩ := ckZ_some hz
    cases hf
    exact xe_z hx hb hr hlocks X hn dX6_isNo_22
set_option maxRecDepth 100000 in
set_option maxHeartbeats 4000000 in
theorem mX6_isNoOf {l : Launch} {dd : va_G} {cy : Nat → ClassId} {bd : Nat → Nat} {A : Nat → Prop} {th : Int32} {ce : Nat → Int32} {sz : Nat → Int32} {wy : Nat → Int64} {op : Nat → Int32} {x1 : Int32} {x2 : Int32} {rv : Int32} {tho : Int32} (hf : fX6_isNoOf th x1 x2 = some (rv, tho)) : Met l yX6_isNoOf wsX6_isNoOf { frames := 2, cells := 0, slots := 0, locals := 46 } (va_Pc [.ref (bd 0), .int x1, .int x2] (IW dd cy A (wlR bd cy th ce sz wy op))) (QX dd cy A (some (.int rv)) (wlR bd cy tho ce sz wy op)) 0 0 A := by
  refine Met.ofW (cc := cX6_isNoOf) (maxL := 3) (ret := some .boolean) (by decide) rfl ?_
  intro p e s m args below meth c s₁ B hml hv
  obtain ⟨hav, hI⟩ := hv
  have hx := B.exec
  have hb := B.bytes
  have hr := B.returns
  have hts := atoms_spec (ws := wsX6_isNoOf) B.pre
  have hown : s.vm.findClass RX6 = some m.cls := findClass_of_methodNamed B.named
  have hlocks := B.notSynchronized
  have X := XW.of hI
  refine xe_in hav (Nat.le_of_ble_eq_true rfl) rfl (fun ls hl => ?_)
  rw [fX6_isNoOf] at hf
  refine lv_aload_n hx hb dX6_isNoOf_0 rfl (lv_at hl 0 rfl) ?_
  refine lv_iload_n hx hb dX6_isNoOf_1 rfl (lv_at hl 1 rfl) ?_
  refine xb hf (fun v1 hv hf => ?_)
  refine xc_V1 (rest := []) ⟨hx, hb, hml, hown, hts⟩ (mX6_isNo hv) (cwV 1 hts gX6_isNoOf_X6_isNo rfl rfl rfl hqX6_isNo ⟨Nat.le_of_ble_eq_true rfl, Nat.le_of_ble_eq_true rfl⟩) X (va_recv X.1 X.2.1 (ci := 4) (q0 := 0) rfl wlR_0) rfl hl.1 rfl (Nat.le_of_ble_eq_true rfl) dX6_isNoOf_2 ⟨Nat.zero_le _, Nat.zero_le _⟩ (fun H locs X => ?_)
  refine xr_if_ne (tgt := 16) hx hb dX6_isNoOf_5 rfl hf (fun hf => ?_) (fun hf => ?_)
  · refine lv_iconst (v := (1 : Int32)) hx hb dX6_isNoOf_16 rfl ?_
    refine lv_goto (tgt := 21) hx hb dX6_isNoOf_17 rfl ?_
    cases hf
    exact xe_z hx hb hr hlocks X rfl dX6_isNoOf_21
  · refine lv_aload_n hx hb dX6_isNoOf_8 rfl (lv_at hl 0 rfl) ?_
    refine lv_iload_n hx hb dX6_isNoOf_9 rfl (lv_at hl 2 rfl) ?_
    refine xb hf (fun v2 hv hf => ?_)
    refine xc_V1 (rest := []) ⟨hx, hb, hml, hown, hts⟩ (mX6_isNo hv) (cwV 1 hts gX6_isNoOf_X6_isNo rfl rfl rfl hqX6_isNo ⟨Nat.le_of_ble_eq_true rfl, Nat.le_of_ble_eq_true rfl⟩) X (va_recv X.1 X.2.1 (ci := 4) (q0 := 0) rfl wlR_0) rfl hl.1 rfl (Nat.le_of_ble_eq_true rfl) dX6_isNoOf_10 ⟨Nat.zero_le _, Nat.zero_le _⟩ (fun H locs X => ?_)
    refine xr_if_eq (tgt := 20) hx hb dX6_isNoOf_13 rfl hf (fun hf => ?_) (fun hf => ?_)
    · refine lv_iconst (v := (0 : Int32)) hx hb dX6_isNoOf_20 rfl ?_
      cases hf
      exact xe_z hx hb hr hlocks X rfl dX6_isNoOf_21
    · refine lv_iconst (v := (1 : Int32)) hx hb dX6_isNoOf_16 rfl ?_
      refine lv_goto (tgt := 21) hx hb dX6_isNoOf_17 rfl ?_
      cases hf
      exact xe_z hx hb hr hlocks X rfl dX6_isNoOf_21
set_option maxRecDepth 100000 in
set_option maxHeartbeats 4000000 in
theorem mX6_isNoOfAll {l : Launch} {dd : va_G} {cy : Nat → ClassId} {bd : Nat → Nat} {A : Nat → Prop} {th : Int32} {ce : Nat → Int32} {sz : Nat → Int32} {wy : Nat → Int64} {op : Nat → Int32} {x1 : Int32} {x2 : Int32} {x3 : Int32} {rv : Int32} {tho : Int32} (hf : fX6_isNoOfAll th x1 x2 x3 = some (rv, tho)) : Met l yX6_isNoOfAll wsX6_isNoOfAll { frames := 2, cells := 0, slots := 0, locals := 46 } (va_Pc [.ref (bd 0), .int x1, .int x2, .int x3] (IW dd cy A (wlR bd cy th ce sz wy op))) (QX dd cy A (some (.int rv)) (wlR bd cy tho ce sz wy op)) 0 0 A := by
  refine Met.ofW (cc := cX6_isNoOfAll) (maxL := 4) (ret := some .boolean) (by decide) rfl ?_
  intro p e s m args below meth c s₁ B hml hv
  obtain ⟨hav, hI⟩ := hv
  have hx := B.exec
  have hb := B.bytes
  have hr := B.returns
  have hts := atoms_spec (ws := wsX6_isNoOfAll) B.pre
  have hown : s.vm.findClass RX6 = some m.cls := findClass_of_methodNamed B.named
  have hlocks := B.notSynchronized
  have X := XW.of hI
  refine xe_in hav (Nat.le_of_ble_eq_true rfl) rfl (fun ls hl => ?_)
  rw [fX6_isNoOfAll] at hf
  refine lv_aload_n hx hb dX6_isNoOfAll_0 rfl (lv_at hl 0 rfl) ?_
  refine lv_iload_n hx hb dX6_isNoOfAll_1 rfl (lv_at hl 1 rfl) ?_
  refine xb hf (fun v1 hv hf => ?_)
  refine xc_V1 (rest := []) ⟨hx, hb, hml, hown, hts⟩ (mX6_isNo hv) (cwV 1 hts gX6_isNoOfAll_X6_isNo rfl rfl rfl hqX6_isNo ⟨Nat.le_of_ble_eq_true rfl, Nat.le_of_ble_eq_true rfl⟩) X (va_recv X.1 X.2.1 (ci := 4) (q0 := 0) rfl wlR_0) rfl hl.1 rfl (Nat.le_of_ble_eq_true rfl) dX6_isNoOfAll_2 ⟨Nat.zero_le _, Nat.zero_le _⟩ (fun H locs X => ?_)
  refine xr_if_ne (tgt := 24) hx hb dX6_isNoOfAll_5 rfl hf (fun hf => ?_) (fun hf => ?_)
  · refine lv_iconst (v := (1 : Int32)) hx hb dX6_isNoOfAll_24 rfl ?_
    refine lv_goto (tgt := 29) hx hb dX6_isNoOfAll_25 rfl ?_
    cases hf
    exact xe_z hx hb hr hlocks X rfl dX6_isNoOfAll_29
  · refine lv_aload_n hx hb dX6_isNoOfAll_8 rfl (lv_at hl 0 rfl) ?_
    refine lv_iload_n hx hb dX6_isNoOfAll_9 rfl (lv_at hl 2 rfl) ?_
    refine xb hf (fun v2 hv hf => ?_)
    refine xc_V1 (rest := []) ⟨hx, hb, hml, hown, hts⟩ (mX6_isNo hv) (cwV 1 hts gX6_isNoOfAll_X6_isNo rfl rfl rfl hqX6_isNo ⟨Nat.le_of_ble_eq_true rfl, Nat.le_of_ble_eq_true rfl⟩) X (va_recv X.1 X.2.1 (ci := 4) (q0 := 0) rfl wlR_0) rfl hl.1 rfl (Nat.le_of_ble_eq_true rfl) dX6_isNoOfAll_10 ⟨Nat.zero_le _, Nat.zero_le _⟩ (fun H locs X => ?_)
    refine xr_if_ne (tgt := 24) hx hb dX6_isNoOfAll_13 rfl hf (fun hf => ?_) (fun hf => ?_)
    · refine lv_iconst (v := (1 : Int32)) hx hb dX6_isNoOfAll_24 rfl ?_
      refine lv_goto (tgt := 29) hx hb dX6_isNoOfAll_25 rfl ?_
      cases hf
      exact xe_z hx hb hr hlocks X rfl dX6_isNoOfAll_29
    · refine lv_aload_n hx hb dX6_isNoOfAll_16 rfl (lv_at hl 0 rfl) ?_
      refine lv_iload_n hx hb dX6_isNoOfAll_17 rfl (lv_at hl 3 rfl) ?_
      refine xb hf (fun v3 hv hf => ?_)
      refine xc_V1 (rest := []) ⟨hx, hb, hml, hown, hts⟩ (mX6_isNo hv) (cwV 1 hts gX6_isNoOfAll_X6_isNo rfl rfl rfl hqX6_isNo ⟨Nat.le_of_ble_eq_true rfl, Nat.le_of_ble_eq_true rfl⟩) X (va_recv X.1 X.2.1 (ci := 4) (q0 := 0) rfl wlR_0) rfl hl.1 rfl (Nat.le_of_ble_eq_true rfl) dX6_isNoOfAll_18 ⟨Nat.zero_le _, Nat.zero_le _⟩ (fun H locs X => ?_)
      refine xr_if_eq (tgt := 28) hx hb dX6_isNoOfAll_21 rfl hf (fun hf => ?_) (fun hf => ?_)
      · refine lv_iconst (v := (0 : Int32)) hx hb dX6_isNoOfAll_28 rfl ?_
        cases hf
        exact xe_z hx hb hr hlocks X rfl dX6_isNoOfAll_29
      · refine lv_iconst (v := (1 : Int32)) hx hb dX6_isNoOfAll_24 rfl ?_
        refine lv_goto (tgt := 29) hx hb dX6_isNoOfAll_25 rfl ?_
        cases hf
        exact xe_z hx hb hr hlocks X rfl dX6_isNoOfAll_29
set_option maxRecDepth 100000 in
set_option maxHeartbeats 4000000 in
theorem mX6_isSign {l : Launch} {dd : va_G} {cy : Nat → ClassId} {bd : Nat → Nat} {A : Nat → Prop} {th : Int32} {ce : Nat → Int32} {sz : Nat → Int32} {wy : Nat → Int64} {op : Nat → Int32} {x0 : Int32} {rv : Int32} (hf : fX6_isSign x0 = some rv) : Met l yX6_isSign wsX6_isSign { frames := 1, cells := 0, slots := 0, locals := 25 } (va_Pc [.int x0] (IW dd cy A (wlR bd cy th ce sz wy op))) (QX dd cy A (some (.int rv)) (wlR bd cy th ce sz wy op)) 0 0 A := by
  refine Met.ofW (cc := cX6_isSign) (maxL := 1) (ret := some .boolean) (by decide) rfl ?_
  intro p e s m args below meth c s₁ B hml hv
  obtain ⟨hav, hI⟩ := hv
  have hx := B.exec
  have hb := B.bytes
  have hr := B.returns
  have hts := atoms_spec (ws := wsX6_isSign) B.pre
  have hown : s.vm.findClass RX6 = some m.cls := findClass_of_methodNamed B.named
  have hlocks := B.notSynchronized
  have X := XW.of hI
  refine xe_in hav (Nat.le_of_ble_eq_true rfl) rfl (fun ls hl => ?_)
  rw [fX6_isSign] at hf
  refine lv_iload_n hx hb dX6_isSign_0 rfl (lv_at hl 0 rfl) ?_
  refine lv_i2l (v := (x0.toInt64)) hx hb dX6_isSign_1 rfl ?_
  refine lv_ldc2 (v := (32 : Int64)) hx hb hown (hts (.constantLong RX6 42 (32)) (by decide +kernel)) dX6_isSign_2 ?_
  refine lv_ldc2 (v := (126 : Int64)) hx hb hown (hts (.constantLong RX6 44 (126)) (by decide +kernel)) dX6_isSign_5 ?_
  refine xb hf (fun v1 hv hf => ?_)
  refine xc_S1 (rest := []) ⟨hx, hb, hml, hown, hts⟩ (mX6_isIn hv) (va_cwS 3 hts gX6_isSign_X6_isIn rfl rfl rfl hqX6_isIn ⟨Nat.le_of_ble_eq_true rfl, Nat.le_of_ble_eq_true rfl⟩) X rfl hl.1 rfl (Nat.le_of_ble_eq_true rfl) dX6_isSign_8 ⟨Nat.zero_le _, Nat.zero_le _⟩ (fun H locs X => ?_)
  refine xb hf (fun z9 hz hf => ?_)
  obtain ⟨hn, rfl⟩ := ckZ_some hz
  cases hf
  exact xe_z hx hb hr hlocks X hn dX6_isSign_11
set_option maxRecDepth 100000 in
set_option maxHeartbeats 4000000 in
theorem mX6_baseOf {l : Launch} {dd : va_G} {cy : Nat → ClassId} {bd : Nat → Nat} {A : Nat → Prop} {th : Int32} {ce : Nat → Int32} {sz : Nat → Int32} {wy : Nat → Int64} {op : Nat → Int32} {x0 : Int32} {rv : Int32} (hf : fX6_baseOf x0 = some rv) : Met l yX6_baseOf wsX6_baseOf { frames := 0, cells := 0, slots := 0, locals := 0 } (va_Pc [.int x0] (IW dd cy A (wlR bd cy th ce sz wy op))) (QX dd cy A (some (.int rv)) (wlR bd cy th ce sz wy op)) 0 0 A := by
  refine Met.ofW (cc := cX6_baseOf) (maxL := 1) (ret := some .int) (by decide) rfl ?_
  intro p e s m args below meth c s₁ B hml hv
  obtain ⟨hav, hI⟩ := hv
  have hx := B.exec
  have hb := B.bytes
  have hr := B.returns
  have hts := atoms_spec (ws := wsX6_baseOf) B.pre
  have hown : s.vm.findClass RX6 = some m.cls := findClass_of_methodNamed B.named
  have hlocks := B.notSynchronized
  have X := XW.of hI
  refine xe_in hav (Nat.le_of_ble_eq_true rfl) rfl (fun ls hl => ?_)
  rw [fX6_baseOf] at hf
  refine lv_bipush (v := (60 : Int32)) hx hb dX6_baseOf_0 rfl ?_
  refine lv_iload_n hx hb dX6_baseOf_2 rfl (lv_at hl 0 rfl) ?_
  refine lv_imul hx hb dX6_baseOf_3 ?_
  cases hf
  exact xe_i hx hb hr hlocks X dX6_baseOf_4
set_option maxRecDepth 100000 in
set_option maxHeartbeats 4000000 in
theorem mX6_copy {l : Launch} {dd : va_G} {cy : Nat → ClassId} {bd : Nat → Nat} {A : Nat → Prop} {fu : Nat} {th : Int32} {ce : Nat → Int32} {sz : Nat → Int32} {wy : Nat → Int64} {op : Nat → Int32} {x1 : Int32} {x2 : Int32} {x3 : Int32} {ceo : Nat → Int32} (hf : fX6_copy fu ce x1 x2 x3 = some ceo) : Met l yX6_copy wsX6_copy { frames := 0, cells := 0, slots := 0, locals := 0 } (va_Pc [.ref (bd 0), .int x1, .int x2, .int x3] (IW dd cy A (wlR bd cy th ce sz wy op))) (QX dd cy A none (wlR bd cy th ceo sz wy op)) 0 0 A := by
  refine Met.ofW (cc := cX6_copy) (maxL := 5) (ret := none) (by decide) rfl ?_
  intro p e s m args below meth c s₁ B hml hv
  obtain ⟨hav, hI⟩ := hv
  have hx := B.exec
  have hb := B.bytes
  have hr := B.returns
  have hts := atoms_spec (ws := wsX6_copy) B.pre
  have hown : s.vm.findClass RX6 = some m.cls := findClass_of_methodNamed B.named
  have hlocks := B.notSynchronized
  have X := XW.of hI
  have h6 : ∀ w ∈ wsX60, w ∈ wsX6_copy := by decide +kernel
  refine xe_in hav (Nat.le_of_ble_eq_true rfl) rfl (fun ls hl => ?_)
  have w3 : ∀ (y1 : Int32) (y2 : Int32) (y3 : Int32) (n : Nat) (y4 : Int32) (ce : Nat → Int32), fX6_copy_3 fu y1 y2 y3 n y4 ce = some ceo → ∀ (H : Heap) (locs : List Loc) (ls : Array Slot), XW dd cy A s (wlR bd cy th ce sz wy op) H locs → lv_has ls 5 [(0, .ref (bd 0)), (1, .int y1), (2, .int y2), (3, .int y3), (4, .int y4)] → W p l e (headSpec wsX6_copy { frames := 0, cells := 0, slots := 0, locals := 0 }).room s m args below meth c H locs 0 0 (MQ below (QX dd cy A none (wlR bd cy th ceo sz wy op)) args s 0 0 A) (F0 m 3 ls []) := by
    intro y1 y2 y3 n
    induction n with
    | zero => intro y4 ce hf; exact absurd hf (by simp [fX6_copy_3])
    | succ n ih =>
      intro y4 ce hf H locs ls X hl
      rw [fX6_copy_3] at hf
      refine lv_iload hx hb dX6_copy_3 (lv_at hl 4 rfl) ?_
      refine lv_iload_n hx hb dX6_copy_5 rfl (lv_at hl 2 rfl) ?_
      refine xr_icmp_ge (tgt := 33) hx hb dX6_copy_6 rfl hf (fun hf => ?_) (fun hf => ?_)
      · cases hf
        exact xe_v hx hb hr hlocks X dX6_copy_33
      · refine lv_aload_n hx hb dX6_copy_9 rfl (lv_at hl 0 rfl) ?_
        refine xg_f hx hb hts hown X h6 0 wlR_0 rfl 1 (by decide) (by decide +kernel) (v := .ref (bd 1)) rfl dX6_copy_10 ?_
        refine lv_iload_n hx hb dX6_copy_13 rfl (lv_at hl 3 rfl) ?_
        refine lv_iload hx hb dX6_copy_14 (lv_at hl 4 rfl) ?_
        refine lv_iadd hx hb dX6_copy_16 ?_
        refine lv_aload_n hx hb dX6_copy_17 rfl (lv_at hl 0 rfl) ?_
        refine xg_f hx hb hts hown X h6 0 wlR_0 rfl 1 (by decide) (by decide +kernel) (v := .ref (bd 1)) rfl dX6_copy_18 ?_
        refine lv_iload_n hx hb dX6_copy_21 rfl (lv_at hl 1 rfl) ?_
        refine lv_iload hx hb dX6_copy_22 (lv_at hl 4 rfl) ?_
        refine lv_iadd hx hb dX6_copy_24 ?_
        refine xa_iald hx hb X 1 wlR_1 dX6_copy_25 hf (fun v1 hf => ?_)
        refine xa_iast hx hb X 1 wlR_1 wlR_s_ce dX6_copy_26 hf (fun g2 H locs hf X => ?_)
        refine lv_iinc (v := (y4 + 1)) (lv' := [(4, .int (y4 + 1)), (0, .ref (bd 0)), (1, .int y1), (2, .int y2), (3, .int y3)]) hx hb dX6_copy_27 hl (k := 4) rfl ii_1 (by decide) rfl (fun ls hl => ?_)
        refine lv_goto (tgt := 3) hx hb dX6_copy_30 rfl ?_
        exact ih (y4 + 1) g2 hf _ _ _ X (lv_sub hl [1, 2, 3, 4, 0] rfl)
  rw [fX6_copy] at hf
  refine lv_iconst (v := (0 : Int32)) hx hb dX6_copy_0 rfl ?_
  refine lv_istore (lv' := [(4, .int (0 : Int32)), (0, .ref (bd 0)), (1, .int x1), (2, .int x2), (3, .int x3)]) hx hb dX6_copy_1 hl (by decide) rfl (fun ls hl => ?_)
  exact w3 x1 x2 x3 fu (0 : Int32) ce hf _ _ _ X (lv_sub hl [1, 2, 3, 4, 0] rfl)
set_option maxRecDepth 100000 in
set_option maxHeartbeats 4000000 in
theorem mX6_standsAt {l : Launch} {dd : va_G} {cy : Nat → ClassId} {bd : Nat → Nat} {A : Nat → Prop} {fu : Nat} {th : Int32} {ce : Nat → Int32} {sz : Nat → Int32} {wy : Nat → Int64} {op : Nat → Int32} {x1 : Int32} {x2 : Int32} {x3 : Int32} {x4 : Int32} {x5 : Int32} {rv : Int32} (hf : fX6_standsAt fu ce x1 x2 x3 x4 x5 = some rv) : Met l yX6_standsAt wsX6_standsAt { frames := 0, cells := 0, slots := 0, locals := 0 } (va_Pc [.ref (bd 0), .int x1, .int x2, .int x3, .int x4, .int x5] (IW dd cy A (wlR bd cy th ce sz wy op))) (QX dd cy A (some (.int rv)) (wlR bd cy th ce sz wy op)) 0 0 A := by
  refine Met.ofW (cc := cX6_standsAt) (maxL := 8) (ret := some .boolean) (by decide) rfl ?_
  intro p e s m args below meth c s₁ B hml hv
  obtain ⟨hav, hI⟩ := hv
  have hx := B.exec
  have hb := B.bytes
  have hr := B.returns
  have hts := atoms_spec (ws := wsX6_standsAt) B.pre
  have hown : s.vm.findClass RX6 = some m.cls := findClass_of_methodNamed B.named
  have hlocks := B.notSynchronized
  have X := XW.of hI
  have h6 : ∀ w ∈ wsX60, w ∈ wsX6_standsAt := by decide +kernel
  refine xe_in hav (Nat.le_of_ble_eq_true rfl) rfl (fun ls hl => ?_)
  have w24 : ∀ (y1 : Int32) (y3 : Int32) (y4 : Int32) (y5 : Int32) (n : Nat) (y6 : Int32) (y7 : Int32), fX6_standsAt_24 fu ce y1 y3 y4 y5 n y6 y7 = some rv → ∀ (H : Heap) (locs : List Loc) (ls : Array Slot), XW dd cy A s (wlR bd cy th ce sz wy op) H locs → lv_has ls 8 [(0, .ref (bd 0)), (1, .int y1), (3, .int y3), (4, .int y4), (5, .int y5), (6, .int y6), (7, .int y7)] → W p l e (headSpec wsX6_standsAt { frames := 0, cells := 0, slots := 0, locals := 0 }).room s m args below meth c H locs 0 0 (MQ below (QX dd cy A (some (.int rv)) (wlR bd cy th ce sz wy op)) args s 0 0 A) (F0 m 24 ls []) := by
    intro y1 y3 y4 y5 n
    induction n with
    | zero => intro y6 y7 hf; exact absurd hf (by simp [fX6_standsAt_24])
    | succ n ih =>
      intro y6 y7 hf H locs ls X hl
      rw [fX6_standsAt_24] at hf
      refine lv_iload hx hb dX6_standsAt_24 (lv_at hl 5 rfl) ?_
      refine xr_if_eq (tgt := 73) hx hb dX6_standsAt_26 rfl hf (fun hf => ?_) (fun hf => ?_)
      · refine lv_iload hx hb dX6_standsAt_73 (lv_at hl 5 rfl) ?_
        refine xb hf (fun z9 hz hf => ?_)
        obtain ⟨hn, rfl⟩ := ckZ_some hz
        cases hf
        exact xe_z hx hb hr hlocks X hn dX6_standsAt_75
      · refine lv_iload hx hb dX6_standsAt_29 (lv_at hl 6 rfl) ?_
        refine lv_iload hx hb dX6_standsAt_31 (lv_at hl 3 rfl) ?_
        refine xr_icmp_ge (tgt := 73) hx hb dX6_standsAt_33 rfl hf (fun hf => ?_) (fun hf => ?_)
        · refine lv_iload hx hb dX6_standsAt_73 (lv_at hl 5 rfl) ?_
          refine xb hf (fun z9 hz hf => ?_)
          obtain ⟨hn, rfl⟩ := ckZ_some hz
          cases hf
          exact xe_z hx hb hr hlocks X hn dX6_standsAt_75
        · refine lv_aload_n hx hb dX6_standsAt_36 rfl (lv_at hl 0 rfl) ?_
          refine xg_f hx hb hts hown X h6 0 wlR_0 rfl 1 (by decide) (by decide +kernel) (v := .ref (bd 1)) rfl dX6_standsAt_37 ?_
          refine lv_iload_n hx hb dX6_standsAt_40 rfl (lv_at hl 1 rfl) ?_
          refine lv_iload hx hb dX6_standsAt_41 (lv_at hl 4 rfl) ?_
          refine lv_iadd hx hb dX6_standsAt_43 ?_
          refine lv_iload hx hb dX6_standsAt_44 (lv_at hl 6 rfl) ?_
          refine lv_iadd hx hb dX6_standsAt_46 ?_
          refine xa_iald hx hb X 1 wlR_1 dX6_standsAt_47 hf (fun v1 hf => ?_)
          refine lv_aload_n hx hb dX6_standsAt_48 rfl (lv_at hl 0 rfl) ?_
          refine xg_f hx hb hts hown X h6 0 wlR_0 rfl 1 (by decide) (by decide +kernel) (v := .ref (bd 1)) rfl dX6_standsAt_49 ?_
          refine lv_iload_n hx hb dX6_standsAt_52 rfl (lv_at hl 2 rfl) ?_
          refine lv_iload hx hb dX6_standsAt_53 (lv_at hl 6 rfl) ?_
          refine lv_iadd hx hb dX6_standsAt_55 ?_
          refine xa_iald hx hb X 1 wlR_1 dX6_standsAt_56 hf (fun v2 hf => ?_)
          refine xr_icmp_ne (tgt := 64) hx hb dX6_standsAt_57 rfl hf (fun hf => ?_) (fun hf => ?_)
          · refine lv_iconst (v := (0 : Int32)) hx hb dX6_standsAt_64 rfl ?_
            refine lv_istore (lv' := [(6, .int (0 : Int32)), (0, .ref (bd 0)), (1, .int y1), (3, .int y3), (4, .int y4), (5, .int y5), (7, .int y7)]) hx hb dX6_standsAt_65 hl (by decide) rfl (fun ls hl => ?_)
            refine lv_iinc (v := (y7 + 1)) (lv' := [(7, .int (y7 + 1)), (6, .int (0 : Int32)), (0, .ref (bd 0)), (1, .int y1), (3, .int y3), (4, .int y4), (5, .int y5)]) hx hb dX6_standsAt_67 hl (k := 6) rfl ii_1 (by decide) rfl (fun ls hl => ?_)
            refine lv_goto (tgt := 24) hx hb dX6_standsAt_70 rfl ?_
            exact ih (0 : Int32) (y7 + 1) hf _ _ _ X (lv_sub hl [2, 3, 4, 5, 6, 1, 0] rfl)
          · refine lv_iconst (v := (1 : Int32)) hx hb dX6_standsAt_60 rfl ?_
            refine lv_goto (tgt := 65) hx hb dX6_standsAt_61 rfl ?_
            refine lv_istore (lv' := [(6, .int (1 : Int32)), (0, .ref (bd 0)), (1, .int y1), (3, .int y3), (4, .int y4), (5, .int y5), (7, .int y7)]) hx hb dX6_standsAt_65 hl (by decide) rfl (fun ls hl => ?_)
            refine lv_iinc (v := (y7 + 1)) (lv' := [(7, .int (y7 + 1)), (6, .int (1 : Int32)), (0, .ref (bd 0)), (1, .int y1), (3, .int y3), (4, .int y4), (5, .int y5)]) hx hb dX6_standsAt_67 hl (k := 6) rfl ii_1 (by decide) rfl (fun ls hl => ?_)
            refine lv_goto (tgt := 24) hx hb dX6_standsAt_70 rfl ?_
            exact ih (1 : Int32) (y7 + 1) hf _ _ _ X (lv_sub hl [2, 3, 4, 5, 6, 1, 0] rfl)
  rw [fX6_standsAt] at hf
  refine lv_iload hx hb dX6_standsAt_0 (lv_at hl 5 rfl) ?_
  refine xr_if_lt (tgt := 18) hx hb dX6_standsAt_2 rfl hf (fun hf => ?_) (fun hf => ?_)
  · refine lv_iconst (v := (0 : Int32)) hx hb dX6_standsAt_18 rfl ?_
    refine lv_istore (lv' := [(6, .int (0 : Int32)), (0, .ref (bd 0)), (1, .int x1), (2, .int x2), (3, .int x3), (4, .int x4), (5, .int x5)]) hx hb dX6_standsAt_19 hl (by decide) rfl (fun ls hl => ?_)
    refine lv_iconst (v := (0 : Int32)) hx hb dX6_standsAt_21 rfl ?_
    refine lv_istore (lv' := [(7, .int (0 : Int32)), (6, .int (0 : Int32)), (0, .ref (bd 0)), (1, .int x1), (2, .int x2), (3, .int x3), (4, .int x4), (5, .int x5)]) hx hb dX6_standsAt_22 hl (by decide) rfl (fun ls hl => ?_)
    exact w24 x1 x3 x4 x5 fu (0 : Int32) (0 : Int32) hf _ _ _ X (lv_sub hl [2, 3, 5, 6, 7, 1, 0] rfl)
  · refine lv_iload hx hb dX6_standsAt_5 (lv_at hl 5 rfl) ?_
    refine lv_iload hx hb dX6_standsAt_7 (lv_at hl 4 rfl) ?_
    refine lv_iadd hx hb dX6_standsAt_9 ?_
    refine lv_iload_n hx hb dX6_standsAt_10 rfl (lv_at hl 2 rfl) ?_
    refine xr_icmp_gt (tgt := 18) hx hb dX6_standsAt_11 rfl hf (fun hf => ?_) (fun hf => ?_)
    · refine lv_iconst (v := (0 : Int32)) hx hb dX6_standsAt_18 rfl ?_
      refine lv_istore (lv' := [(6, .int (0 : Int32)), (0, .ref (bd 0)), (1, .int x1), (2, .int x2), (3, .int x3), (4, .int x4), (5, .int x5)]) hx hb dX6_standsAt_19 hl (by decide) rfl (fun ls hl => ?_)
      refine lv_iconst (v := (0 : Int32)) hx hb dX6_standsAt_21 rfl ?_
      refine lv_istore (lv' := [(7, .int (0 : Int32)), (6, .int (0 : Int32)), (0, .ref (bd 0)), (1, .int x1), (2, .int x2), (3, .int x3), (4, .int x4), (5, .int x5)]) hx hb dX6_standsAt_22 hl (by decide) rfl (fun ls hl => ?_)
      exact w24 x1 x3 x4 x5 fu (0 : Int32) (0 : Int32) hf _ _ _ X (lv_sub hl [2, 3, 5, 6, 7, 1, 0] rfl)
    · refine lv_iconst (v := (1 : Int32)) hx hb dX6_standsAt_14 rfl ?_
      refine lv_goto (tgt := 19) hx hb dX6_standsAt_15 rfl ?_
      refine lv_istore (lv' := [(6, .int (1 : Int32)), (0, .ref (bd 0)), (1, .int x1), (2, .int x2), (3, .int x3), (4, .int x4), (5, .int x5)]) hx hb dX6_standsAt_19 hl (by decide) rfl (fun ls hl => ?_)
      refine lv_iconst (v := (0 : Int32)) hx hb dX6_standsAt_21 rfl ?_
      refine lv_istore (lv' := [(7, .int (0 : Int32)), (6, .int (1 : Int32)), (0, .ref (bd 0)), (1, .int x1), (2, .int x2), (3, .int x3), (4, .int x4), (5, .int x5)]) hx hb dX6_standsAt_22 hl (by decide) rfl (fun ls hl => ?_)
      exact w24 x1 x3 x4 x5 fu (1 : Int32) (0 : Int32) hf _ _ _ X (lv_sub hl [2, 3, 5, 6, 7, 1, 0] rfl)
set_option maxRecDepth 100000 in
set_option maxHeartbeats 4000000 in
theorem mX6_areSame {l : Launch} {dd : va_G} {cy : Nat → ClassId} {bd : Nat → Nat} {A : Nat → Prop} {fu : Nat} {th : Int32} {ce : Nat → Int32} {sz : Nat → Int32} {wy : Nat → Int64} {op : Nat → Int32} {x1 : Int32} {x2 : Int32} {x3 : Int32} {x4 : Int32} {rv : Int32} (hf : fX6_areSame fu ce x1 x2 x3 x4 = some rv) : Met l yX6_areSame wsX6_areSame { frames := 1, cells := 0, slots := 0, locals := 27 } (va_Pc [.ref (bd 0), .int x1, .int x2, .int x3, .int x4] (IW dd cy A (wlR bd cy th ce sz wy op))) (QX dd cy A (some (.int rv)) (wlR bd cy th ce sz wy op)) 0 0 A := by
  refine Met.ofW (cc := cX6_areSame) (maxL := 5) (ret := some .boolean) (by decide) rfl ?_
  intro p e s m args below meth c s₁ B hml hv
  obtain ⟨hav, hI⟩ := hv
  have hx := B.exec
  have hb := B.bytes
  have hr := B.returns
  have hts := atoms_spec (ws := wsX6_areSame) B.pre
  have hown : s.vm.findClass RX6 = some m.cls := findClass_of_methodNamed B.named
  have hlocks := B.notSynchronized
  have X := XW.of hI
  refine xe_in hav (Nat.le_of_ble_eq_true rfl) rfl (fun ls hl => ?_)
  rw [fX6_areSame] at hf
  refine lv_iload_n hx hb dX6_areSame_0 rfl (lv_at hl 2 rfl) ?_
  refine lv_iload hx hb dX6_areSame_1 (lv_at hl 4 rfl) ?_
  refine xr_icmp_ne (tgt := 23) hx hb dX6_areSame_3 rfl hf (fun hf => ?_) (fun hf => ?_)
  · refine lv_iconst (v := (0 : Int32)) hx hb dX6_areSame_23 rfl ?_
    cases hf
    exact xe_z hx hb hr hlocks X rfl dX6_areSame_24
  · refine lv_aload_n hx hb dX6_areSame_6 rfl (lv_at hl 0 rfl) ?_
    refine lv_iload_n hx hb dX6_areSame_7 rfl (lv_at hl 1 rfl) ?_
    refine lv_iload_n hx hb dX6_areSame_8 rfl (lv_at hl 2 rfl) ?_
    refine lv_iload_n hx hb dX6_areSame_9 rfl (lv_at hl 3 rfl) ?_
    refine lv_iload hx hb dX6_areSame_10 (lv_at hl 4 rfl) ?_
    refine lv_iconst (v := (0 : Int32)) hx hb dX6_areSame_12 rfl ?_
    refine xb hf (fun v1 hv hf => ?_)
    refine xc_V1 (rest := []) ⟨hx, hb, hml, hown, hts⟩ (mX6_standsAt hv) (cwV 5 hts gX6_areSame_X6_standsAt rfl rfl rfl hqX6_standsAt ⟨Nat.le_of_ble_eq_true rfl, Nat.le_of_ble_eq_true rfl⟩) X (va_recv X.1 X.2.1 (ci := 4) (q0 := 0) rfl wlR_0) rfl hl.1 rfl (Nat.le_of_ble_eq_true rfl) dX6_areSame_13 ⟨Nat.zero_le _, Nat.zero_le _⟩ (fun H locs X => ?_)
    refine xr_if_eq (tgt := 23) hx hb dX6_areSame_16 rfl hf (fun hf => ?_) (fun hf => ?_)
    · refine lv_iconst (v := (0 : Int32)) hx hb dX6_areSame_23 rfl ?_
      cases hf
      exact xe_z hx hb hr hlocks X rfl dX6_areSame_24
    · refine lv_iconst (v := (1 : Int32)) hx hb dX6_areSame_19 rfl ?_
      refine lv_goto (tgt := 24) hx hb dX6_areSame_20 rfl ?_
      cases hf
      exact xe_z hx hb hr hlocks X rfl dX6_areSame_24
set_option maxRecDepth 100000 in
set_option maxHeartbeats 4000000 in
theorem mX6_alike {l : Launch} {dd : va_G} {cy : Nat → ClassId} {bd : Nat → Nat} {A : Nat → Prop} {fu : Nat} {th : Int32} {ce : Nat → Int32} {sz : Nat → Int32} {wy : Nat → Int64} {op : Nat → Int32} {x1 : Int32} {x2 : Int32} {x3 : Int32} {x4 : Int32} {rv : Int32} (hf : fX6_alike fu ce x1 x2 x3 x4 = some rv) : Met l yX6_alike wsX6_alike { frames := 0, cells := 0, slots := 0, locals := 0 } (va_Pc [.ref (bd 0), .int x1, .int x2, .int x3, .int x4] (IW dd cy A (wlR bd cy th ce sz wy op))) (QX dd cy A (some (.int rv)) (wlR bd cy th ce sz wy op)) 0 0 A := by
  refine Met.ofW (cc := cX6_alike) (maxL := 6) (ret := some .int) (by decide) rfl ?_
  intro p e s m args below meth c s₁ B hml hv
  obtain ⟨hav, hI⟩ := hv
  have hx := B.exec
  have hb := B.bytes
  have hr := B.returns
  have hts := atoms_spec (ws := wsX6_alike) B.pre
  have hown : s.vm.findClass RX6 = some m.cls := findClass_of_methodNamed B.named
  have hlocks := B.notSynchronized
  have X := XW.of hI
  have h6 : ∀ w ∈ wsX60, w ∈ wsX6_alike := by decide +kernel
  refine xe_in hav (Nat.le_of_ble_eq_true rfl) rfl (fun ls hl => ?_)
  have w3 : ∀ (y1 : Int32) (y2 : Int32) (y3 : Int32) (y4 : Int32) (n : Nat) (y5 : Int32), fX6_alike_3 fu ce y1 y2 y3 y4 n y5 = some rv → ∀ (H : Heap) (locs : List Loc) (ls : Array Slot), XW dd cy A s (wlR bd cy th ce sz wy op) H locs → lv_has ls 6 [(0, .ref (bd 0)), (1, .int y1), (2, .int y2), (3, .int y3), (4, .int y4), (5, .int y5)] → W p l e (headSpec wsX6_alike { frames := 0, cells := 0, slots := 0, locals := 0 }).room s m args below meth c H locs 0 0 (MQ below (QX dd cy A (some (.int rv)) (wlR bd cy th ce sz wy op)) args s 0 0 A) (F0 m 3 ls []) := by
    intro y1 y2 y3 y4 n
    induction n with
    | zero => intro y5 hf; exact absurd hf (by simp [fX6_alike_3])
    | succ n ih =>
      intro y5 hf H locs ls X hl
      rw [fX6_alike_3] at hf
      refine lv_iload hx hb dX6_alike_3 (lv_at hl 5 rfl) ?_
      refine lv_iload_n hx hb dX6_alike_5 rfl (lv_at hl 2 rfl) ?_
      refine xr_icmp_ge (tgt := 43) hx hb dX6_alike_6 rfl hf (fun hf => ?_) (fun hf => ?_)
      · refine lv_iload hx hb dX6_alike_43 (lv_at hl 5 rfl) ?_
        cases hf
        exact xe_i hx hb hr hlocks X dX6_alike_45
      · refine lv_iload hx hb dX6_alike_9 (lv_at hl 5 rfl) ?_
        refine lv_iload hx hb dX6_alike_11 (lv_at hl 4 rfl) ?_
        refine xr_icmp_ge (tgt := 43) hx hb dX6_alike_13 rfl hf (fun hf => ?_) (fun hf => ?_)
        · refine lv_iload hx hb dX6_alike_43 (lv_at hl 5 rfl) ?_
          cases hf
          exact xe_i hx hb hr hlocks X dX6_alike_45
        · refine lv_aload_n hx hb dX6_alike_16 rfl (lv_at hl 0 rfl) ?_
          refine xg_f hx hb hts hown X h6 0 wlR_0 rfl 1 (by decide) (by decide +kernel) (v := .ref (bd 1)) rfl dX6_alike_17 ?_
          refine lv_iload_n hx hb dX6_alike_20 rfl (lv_at hl 1 rfl) ?_
          refine lv_iload hx hb dX6_alike_21 (lv_at hl 5 rfl) ?_
          refine lv_iadd hx hb dX6_alike_23 ?_
          refine xa_iald hx hb X 1 wlR_1 dX6_alike_24 hf (fun v1 hf => ?_)
          refine lv_aload_n hx hb dX6_alike_25 rfl (lv_at hl 0 rfl) ?_
          refine xg_f hx hb hts hown X h6 0 wlR_0 rfl 1 (by decide) (by decide +kernel) (v := .ref (bd 1)) rfl dX6_alike_26 ?_
          refine lv_iload_n hx hb dX6_alike_29 rfl (lv_at hl 3 rfl) ?_
          refine lv_iload hx hb dX6_alike_30 (lv_at hl 5 rfl) ?_
          refine lv_iadd hx hb dX6_alike_32 ?_
          refine xa_iald hx hb X 1 wlR_1 dX6_alike_33 hf (fun v2 hf => ?_)
          refine xr_icmp_ne (tgt := 43) hx hb dX6_alike_34 rfl hf (fun hf => ?_) (fun hf => ?_)
          · refine lv_iload hx hb dX6_alike_43 (lv_at hl 5 rfl) ?_
            cases hf
            exact xe_i hx hb hr hlocks X dX6_alike_45
          · refine lv_iinc (v := (y5 + 1)) (lv' := [(5, .int (y5 + 1)), (0, .ref (bd 0)), (1, .int y1), (2, .int y2), (3, .int y3), (4, .int y4)]) hx hb dX6_alike_37 hl (k := 5) rfl ii_1 (by decide) rfl (fun ls hl => ?_)
            refine lv_goto (tgt := 3) hx hb dX6_alike_40 rfl ?_
            exact ih (y5 + 1) hf _ _ _ X (lv_sub hl [1, 2, 3, 4, 5, 0] rfl)
  rw [fX6_alike] at hf
  refine lv_iconst (v := (0 : Int32)) hx hb dX6_alike_0 rfl ?_
  refine lv_istore (lv' := [(5, .int (0 : Int32)), (0, .ref (bd 0)), (1, .int x1), (2, .int x2), (3, .int x3), (4, .int x4)]) hx hb dX6_alike_1 hl (by decide) rfl (fun ls hl => ?_)
  exact w3 x1 x2 x3 x4 fu (0 : Int32) hf _ _ _ X (lv_sub hl [1, 2, 3, 4, 5, 0] rfl)
set_option maxRecDepth 100000 in
set_option maxHeartbeats 4000000 in
theorem mX6_order {l : Launch} {dd : va_G} {cy : Nat → ClassId} {bd : Nat → Nat} {A : Nat → Prop} {fu : Nat} {th : Int32} {ce : Nat → Int32} {sz : Nat → Int32} {wy : Nat → Int64} {op : Nat → Int32} {x1 : Int32} {x2 : Int32} {x3 : Int32} {x4 : Int32} {rv : Int32} (hf : fX6_order fu ce x1 x2 x3 x4 = some rv) : Met l yX6_order wsX6_order { frames := 1, cells := 0, slots := 0, locals := 25 } (va_Pc [.ref (bd 0), .int x1, .int x2, .int x3, .int x4] (IW dd cy A (wlR bd cy th ce sz wy op))) (QX dd cy A (some (.int rv)) (wlR bd cy th ce sz wy op)) 0 0 A := by
  refine Met.ofW (cc := cX6_order) (maxL := 6) (ret := some .int) (by decide) rfl ?_
  intro p e s m args below meth c s₁ B hml hv
  obtain ⟨hav, hI⟩ := hv
  have hx := B.exec
  have hb := B.bytes
  have hr := B.returns
  have hts := atoms_spec (ws := wsX6_order) B.pre
  have hown : s.vm.findClass RX6 = some m.cls := findClass_of_methodNamed B.named
  have hlocks := B.notSynchronized
  have X := XW.of hI
  have h6 : ∀ w ∈ wsX60, w ∈ wsX6_order := by decide +kernel
  refine xe_in hav (Nat.le_of_ble_eq_true rfl) rfl (fun ls hl => ?_)
  rw [fX6_order] at hf
  refine lv_aload_n hx hb dX6_order_0 rfl (lv_at hl 0 rfl) ?_
  refine lv_iload_n hx hb dX6_order_1 rfl (lv_at hl 1 rfl) ?_
  refine lv_iload_n hx hb dX6_order_2 rfl (lv_at hl 2 rfl) ?_
  refine lv_iload_n hx hb dX6_order_3 rfl (lv_at hl 3 rfl) ?_
  refine lv_iload hx hb dX6_order_4 (lv_at hl 4 rfl) ?_
  refine xb hf (fun v1 hv hf => ?_)
  refine xc_V1 (rest := []) ⟨hx, hb, hml, hown, hts⟩ (mX6_alike hv) (cwV 4 hts gX6_order_X6_alike rfl rfl rfl hqX6_alike ⟨Nat.le_of_ble_eq_true rfl, Nat.le_of_ble_eq_true rfl⟩) X (va_recv X.1 X.2.1 (ci := 4) (q0 := 0) rfl wlR_0) rfl hl.1 rfl (Nat.le_of_ble_eq_true rfl) dX6_order_6 ⟨Nat.zero_le _, Nat.zero_le _⟩ (fun H locs X => ?_)
  refine lv_istore (lv' := [(5, .int v1), (0, .ref (bd 0)), (1, .int x1), (2, .int x2), (3, .int x3), (4, .int x4)]) hx hb dX6_order_9 hl (by decide) rfl (fun ls hl => ?_)
  refine lv_iload hx hb dX6_order_11 (lv_at hl 0 rfl) ?_
  refine lv_iload_n hx hb dX6_order_13 rfl (lv_at hl 3 rfl) ?_
  refine xr_icmp_ge (tgt := 46) hx hb dX6_order_14 rfl hf (fun hf => ?_) (fun hf => ?_)
  · refine lv_iload_n hx hb dX6_order_46 rfl (lv_at hl 3 rfl) ?_
    refine lv_iload hx hb dX6_order_47 (lv_at hl 5 rfl) ?_
    refine lv_isub hx hb dX6_order_49 ?_
    cases hf
    exact xe_i hx hb hr hlocks X dX6_order_50
  · refine lv_iload hx hb dX6_order_17 (lv_at hl 0 rfl) ?_
    refine lv_iload hx hb dX6_order_19 (lv_at hl 5 rfl) ?_
    refine xr_icmp_ge (tgt := 46) hx hb dX6_order_21 rfl hf (fun hf => ?_) (fun hf => ?_)
    · refine lv_iload_n hx hb dX6_order_46 rfl (lv_at hl 3 rfl) ?_
      refine lv_iload hx hb dX6_order_47 (lv_at hl 5 rfl) ?_
      refine lv_isub hx hb dX6_order_49 ?_
      cases hf
      exact xe_i hx hb hr hlocks X dX6_order_50
    · refine lv_aload_n hx hb dX6_order_24 rfl (lv_at hl 1 rfl) ?_
      refine xg_f hx hb hts hown X h6 0 wlR_0 rfl 1 (by decide) (by decide +kernel) (v := .ref (bd 1)) rfl dX6_order_25 ?_
      refine lv_iload_n hx hb dX6_order_28 rfl (lv_at hl 2 rfl) ?_
      refine lv_iload hx hb dX6_order_29 (lv_at hl 0 rfl) ?_
      refine lv_iadd hx hb dX6_order_31 ?_
      refine xa_iald hx hb X 1 wlR_1 dX6_order_32 hf (fun v2 hf => ?_)
      refine lv_aload_n hx hb dX6_order_33 rfl (lv_at hl 1 rfl) ?_
      refine xg_f hx hb hts hown X h6 0 wlR_0 rfl 1 (by decide) (by decide +kernel) (v := .ref (bd 1)) rfl dX6_order_34 ?_
      refine lv_iload_n hx hb dX6_order_37 rfl (lv_at hl 4 rfl) ?_
      refine lv_iload hx hb dX6_order_38 (lv_at hl 0 rfl) ?_
      refine lv_iadd hx hb dX6_order_40 ?_
      refine xa_iald hx hb X 1 wlR_1 dX6_order_41 hf (fun v3 hf => ?_)
      refine lv_isub hx hb dX6_order_42 ?_
      refine lv_goto (tgt := 50) hx hb dX6_order_43 rfl ?_
      cases hf
      exact xe_i hx hb hr hlocks X dX6_order_50
set_option maxRecDepth 100000 in
set_option maxHeartbeats 4000000 in
theorem mX6_become {l : Launch} {dd : va_G} {cy : Nat → ClassId} {bd : Nat → Nat} {A : Nat → Prop} {fu : Nat} {th : Int32} {ce : Nat → Int32} {sz : Nat → Int32} {wy : Nat → Int64} {op : Nat → Int32} {x1 : Int32} {x2 : Int32} {x3 : Int32} {rv : Int32} {ceo : Nat → Int32} {szo : Nat → Int32} (hf : fX6_become fu ce sz x1 x2 x3 = some (rv, ceo, szo)) : Met l yX6_become wsX6_become { frames := 1, cells := 0, slots := 0, locals := 24 } (va_Pc [.ref (bd 0), .int x1, .int x2, .int x3] (IW dd cy A (wlR bd cy th ce sz wy op))) (QX dd cy A (some (.int rv)) (wlR bd cy th ceo szo wy op)) 0 0 A := by
  refine Met.ofW (cc := cX6_become) (maxL := 4) (ret := some .int) (by decide) rfl ?_
  intro p e s m args below meth c s₁ B hml hv
  obtain ⟨hav, hI⟩ := hv
  have hx := B.exec
  have hb := B.bytes
  have hr := B.returns
  have hts := atoms_spec (ws := wsX6_become) B.pre
  have hown : s.vm.findClass RX6 = some m.cls := findClass_of_methodNamed B.named
  have hlocks := B.notSynchronized
  have X := XW.of hI
  have h6 : ∀ w ∈ wsX60, w ∈ wsX6_become := by decide +kernel
  refine xe_in hav (Nat.le_of_ble_eq_true rfl) rfl (fun ls hl => ?_)
  rw [fX6_become] at hf
  refine lv_aload_n hx hb dX6_become_0 rfl (lv_at hl 0 rfl) ?_
  refine lv_iload_n hx hb dX6_become_1 rfl (lv_at hl 2 rfl) ?_
  refine lv_iload_n hx hb dX6_become_2 rfl (lv_at hl 3 rfl) ?_
  refine lv_sipush (v := (750 : Int32)) hx hb dX6_become_3 rfl ?_
  refine xb hf (fun v1 hv hf => ?_)
  refine xc_V0 (rest := []) ⟨hx, hb, hml, hown, hts⟩ (mX6_copy hv) (cwV 3 hts gX6_become_X6_copy rfl rfl rfl hqX6_copy ⟨Nat.le_of_ble_eq_true rfl, Nat.le_of_ble_eq_true rfl⟩) X (va_recv X.1 X.2.1 (ci := 4) (q0 := 0) rfl wlR_0) rfl hl.1 rfl (Nat.le_of_ble_eq_true rfl) dX6_become_6 ⟨Nat.zero_le _, Nat.zero_le _⟩ (fun H locs X => ?_)
  refine lv_aload_n hx hb dX6_become_9 rfl (lv_at hl 0 rfl) ?_
  refine lv_sipush (v := (750 : Int32)) hx hb dX6_become_10 rfl ?_
  refine lv_iload_n hx hb dX6_become_13 rfl (lv_at hl 3 rfl) ?_
  refine lv_iload_n hx hb dX6_become_14 rfl (lv_at hl 1 rfl) ?_
  refine xb hf (fun v2 hv hf => ?_)
  refine xc_S1 (rest := [.int x3, .int (750 : Int32), .ref (bd 0)]) ⟨hx, hb, hml, hown, hts⟩ (mX6_baseOf hv) (va_cwS 1 hts gX6_become_X6_baseOf rfl rfl rfl hqX6_baseOf ⟨Nat.le_of_ble_eq_true rfl, Nat.le_of_ble_eq_true rfl⟩) X rfl hl.1 rfl (Nat.le_of_ble_eq_true rfl) dX6_become_15 ⟨Nat.zero_le _, Nat.zero_le _⟩ (fun H locs X => ?_)
  refine xb hf (fun v3 hv hf => ?_)
  refine xc_V0 (rest := []) ⟨hx, hb, hml, hown, hts⟩ (mX6_copy hv) (cwV 3 hts gX6_become_X6_copy rfl rfl rfl hqX6_copy ⟨Nat.le_of_ble_eq_true rfl, Nat.le_of_ble_eq_true rfl⟩) X (va_recv X.1 X.2.1 (ci := 4) (q0 := 0) rfl wlR_0) rfl hl.1 rfl (Nat.le_of_ble_eq_true rfl) dX6_become_18 ⟨Nat.zero_le _, Nat.zero_le _⟩ (fun H locs X => ?_)
  refine lv_aload_n hx hb dX6_become_21 rfl (lv_at hl 0 rfl) ?_
  refine xg_f hx hb hts hown X h6 0 wlR_0 rfl 2 (by decide) (by decide +kernel) (v := .ref (bd 2)) rfl dX6_become_22 ?_
  refine lv_iload_n hx hb dX6_become_25 rfl (lv_at hl 1 rfl) ?_
  refine lv_iload_n hx hb dX6_become_26 rfl (lv_at hl 3 rfl) ?_
  refine xa_iast hx hb X 2 wlR_2 wlR_s_sz dX6_become_27 hf (fun g4 H locs hf X => ?_)
  refine lv_iload_n hx hb dX6_become_28 rfl (lv_at hl 3 rfl) ?_
  cases hf
  exact xe_i hx hb hr hlocks X dX6_become_29
set_option maxRecDepth 100000 in
set_option maxHeartbeats 4000000 in
theorem mX6_lays {l : Launch} {dd : va_G} {cy : Nat → ClassId} {bd : Nat → Nat} {A : Nat → Prop} {fu : Nat} {th : Int32} {ce : Nat → Int32} {sz : Nat → Int32} {wy : Nat → Int64} {op : Nat → Int32} {x1 : Int32} {x2 : Int32} {x3 : Int32} {ceo : Nat → Int32} (hf : fX6_lays fu ce sz x1 x2 x3 = some ceo) : Met l yX6_lays wsX6_lays { frames := 1, cells := 0, slots := 0, locals := 24 } (va_Pc [.ref (bd 0), .int x1, .int x2, .int x3] (IW dd cy A (wlR bd cy th ce sz wy op))) (QX dd cy A none (wlR bd cy th ceo sz wy op)) 0 0 A := by
  refine Met.ofW (cc := cX6_lays) (maxL := 4) (ret := none) (by decide) rfl ?_
  intro p e s m args below meth c s₁ B hml hv
  obtain ⟨hav, hI⟩ := hv
  have hx := B.exec
  have hb := B.bytes
  have hr := B.returns
  have hts := atoms_spec (ws := wsX6_lays) B.pre
  have hown : s.vm.findClass RX6 = some m.cls := findClass_of_methodNamed B.named
  have hlocks := B.notSynchronized
  have X := XW.of hI
  have h6 : ∀ w ∈ wsX60, w ∈ wsX6_lays := by decide +kernel
  refine xe_in hav (Nat.le_of_ble_eq_true rfl) rfl (fun ls hl => ?_)
  rw [fX6_lays] at hf
  refine lv_aload_n hx hb dX6_lays_0 rfl (lv_at hl 0 rfl) ?_
  refine lv_iload_n hx hb dX6_lays_1 rfl (lv_at hl 1 rfl) ?_
  refine xb hf (fun v1 hv hf => ?_)
  refine xc_S1 (rest := [.ref (bd 0)]) ⟨hx, hb, hml, hown, hts⟩ (mX6_baseOf hv) (va_cwS 1 hts gX6_lays_X6_baseOf rfl rfl rfl hqX6_baseOf ⟨Nat.le_of_ble_eq_true rfl, Nat.le_of_ble_eq_true rfl⟩) X rfl hl.1 rfl (Nat.le_of_ble_eq_true rfl) dX6_lays_2 ⟨Nat.zero_le _, Nat.zero_le _⟩ (fun H locs X => ?_)
  refine lv_aload_n hx hb dX6_lays_5 rfl (lv_at hl 0 rfl) ?_
  refine xg_f hx hb hts hown X h6 0 wlR_0 rfl 2 (by decide) (by decide +kernel) (v := .ref (bd 2)) rfl dX6_lays_6 ?_
  refine lv_iload_n hx hb dX6_lays_9 rfl (lv_at hl 1 rfl) ?_
  refine xa_iald hx hb X 2 wlR_2 dX6_lays_10 hf (fun v2 hf => ?_)
  refine lv_iload_n hx hb dX6_lays_11 rfl (lv_at hl 3 rfl) ?_
  refine xb hf (fun v3 hv hf => ?_)
  refine xc_V0 (rest := []) ⟨hx, hb, hml, hown, hts⟩ (mX6_copy hv) (cwV 3 hts gX6_lays_X6_copy rfl rfl rfl hqX6_copy ⟨Nat.le_of_ble_eq_true rfl, Nat.le_of_ble_eq_true rfl⟩) X (va_recv X.1 X.2.1 (ci := 4) (q0 := 0) rfl wlR_0) rfl hl.1 rfl (Nat.le_of_ble_eq_true rfl) dX6_lays_12 ⟨Nat.zero_le _, Nat.zero_le _⟩ (fun H locs X => ?_)
  refine lv_aload_n hx hb dX6_lays_15 rfl (lv_at hl 0 rfl) ?_
  refine lv_iload_n hx hb dX6_lays_16 rfl (lv_at hl 2 rfl) ?_
  refine xb hf (fun v4 hv hf => ?_)
  refine xc_S1 (rest := [.ref (bd 0)]) ⟨hx, hb, hml, hown, hts⟩ (mX6_baseOf hv) (va_cwS 1 hts gX6_lays_X6_baseOf rfl rfl rfl hqX6_baseOf ⟨Nat.le_of_ble_eq_true rfl, Nat.le_of_ble_eq_true rfl⟩) X rfl hl.1 rfl (Nat.le_of_ble_eq_true rfl) dX6_lays_17 ⟨Nat.zero_le _, Nat.zero_le _⟩ (fun H locs X => ?_)
  refine lv_aload_n hx hb dX6_lays_20 rfl (lv_at hl 0 rfl) ?_
  refine xg_f hx hb hts hown X h6 0 wlR_0 rfl 2 (by decide) (by decide +kernel) (v := .ref (bd 2)) rfl dX6_lays_21 ?_
  refine lv_iload_n hx hb dX6_lays_24 rfl (lv_at hl 2 rfl) ?_
  refine xa_iald hx hb X 2 wlR_2 dX6_lays_25 hf (fun v5 hf => ?_)
  refine lv_iload_n hx hb dX6_lays_26 rfl (lv_at hl 3 rfl) ?_
  refine lv_aload_n hx hb dX6_lays_27 rfl (lv_at hl 0 rfl) ?_
  refine xg_f hx hb hts hown X h6 0 wlR_0 rfl 2 (by decide) (by decide +kernel) (v := .ref (bd 2)) rfl dX6_lays_28 ?_
  refine lv_iload_n hx hb dX6_lays_31 rfl (lv_at hl 1 rfl) ?_
  refine xa_iald hx hb X 2 wlR_2 dX6_lays_32 hf (fun v6 hf => ?_)
  refine lv_iadd hx hb dX6_lays_33 ?_
  refine xb hf (fun v7 hv hf => ?_)
  refine xc_V0 (rest := []) ⟨hx, hb, hml, hown, hts⟩ (mX6_copy hv) (cwV 3 hts gX6_lays_X6_copy rfl rfl rfl hqX6_copy ⟨Nat.le_of_ble_eq_true rfl, Nat.le_of_ble_eq_true rfl⟩) X (va_recv X.1 X.2.1 (ci := 4) (q0 := 0) rfl wlR_0) rfl hl.1 rfl (Nat.le_of_ble_eq_true rfl) dX6_lays_34 ⟨Nat.zero_le _, Nat.zero_le _⟩ (fun H locs X => ?_)
  cases hf
  exact xe_v hx hb hr hlocks X dX6_lays_37
set_option maxRecDepth 100000 in
set_option maxHeartbeats 4000000 in
theorem mX6_turns {l : Launch} {dd : va_G} {cy : Nat → ClassId} {bd : Nat → Nat} {A : Nat → Prop} {fu : Nat} {th : Int32} {ce : Nat → Int32} {sz : Nat → Int32} {wy : Nat → Int64} {op : Nat → Int32} {x1 : Int32} {x2 : Int32} {x3 : Int32} {ceo : Nat → Int32} (hf : fX6_turns fu ce sz x1 x2 x3 = some ceo) : Met l yX6_turns wsX6_turns { frames := 1, cells := 0, slots := 0, locals := 24 } (va_Pc [.ref (bd 0), .int x1, .int x2, .int x3] (IW dd cy A (wlR bd cy th ce sz wy op))) (QX dd cy A none (wlR bd cy th ceo sz wy op)) 0 0 A := by
  refine Met.ofW (cc := cX6_turns) (maxL := 4) (ret := none) (by decide) rfl ?_
  intro p e s m args below meth c s₁ B hml hv
  obtain ⟨hav, hI⟩ := hv
  have hx := B.exec
  have hb := B.bytes
  have hr := B.returns
  have hts := atoms_spec (ws := wsX6_turns) B.pre
  have hown : s.vm.findClass RX6 = some m.cls := findClass_of_methodNamed B.named
  have hlocks := B.notSynchronized
  have X := XW.of hI
  have h6 : ∀ w ∈ wsX60, w ∈ wsX6_turns := by decide +kernel
  refine xe_in hav (Nat.le_of_ble_eq_true rfl) rfl (fun ls hl => ?_)
  rw [fX6_turns] at hf
  refine lv_aload_n hx hb dX6_turns_0 rfl (lv_at hl 0 rfl) ?_
  refine lv_iload_n hx hb dX6_turns_1 rfl (lv_at hl 1 rfl) ?_
  refine xb hf (fun v1 hv hf => ?_)
  refine xc_S1 (rest := [.ref (bd 0)]) ⟨hx, hb, hml, hown, hts⟩ (mX6_baseOf hv) (va_cwS 1 hts gX6_turns_X6_baseOf rfl rfl rfl hqX6_baseOf ⟨Nat.le_of_ble_eq_true rfl, Nat.le_of_ble_eq_true rfl⟩) X rfl hl.1 rfl (Nat.le_of_ble_eq_true rfl) dX6_turns_2 ⟨Nat.zero_le _, Nat.zero_le _⟩ (fun H locs X => ?_)
  refine lv_iload_n hx hb dX6_turns_5 rfl (lv_at hl 2 rfl) ?_
  refine lv_iadd hx hb dX6_turns_6 ?_
  refine lv_aload_n hx hb dX6_turns_7 rfl (lv_at hl 0 rfl) ?_
  refine xg_f hx hb hts hown X h6 0 wlR_0 rfl 2 (by decide) (by decide +kernel) (v := .ref (bd 2)) rfl dX6_turns_8 ?_
  refine lv_iload_n hx hb dX6_turns_11 rfl (lv_at hl 1 rfl) ?_
  refine xa_iald hx hb X 2 wlR_2 dX6_turns_12 hf (fun v2 hf => ?_)
  refine lv_iload_n hx hb dX6_turns_13 rfl (lv_at hl 2 rfl) ?_
  refine lv_isub hx hb dX6_turns_14 ?_
  refine lv_iload_n hx hb dX6_turns_15 rfl (lv_at hl 3 rfl) ?_
  refine xb hf (fun v3 hv hf => ?_)
  refine xc_V0 (rest := []) ⟨hx, hb, hml, hown, hts⟩ (mX6_copy hv) (cwV 3 hts gX6_turns_X6_copy rfl rfl rfl hqX6_copy ⟨Nat.le_of_ble_eq_true rfl, Nat.le_of_ble_eq_true rfl⟩) X (va_recv X.1 X.2.1 (ci := 4) (q0 := 0) rfl wlR_0) rfl hl.1 rfl (Nat.le_of_ble_eq_true rfl) dX6_turns_16 ⟨Nat.zero_le _, Nat.zero_le _⟩ (fun H locs X => ?_)
  refine lv_aload_n hx hb dX6_turns_19 rfl (lv_at hl 0 rfl) ?_
  refine lv_iload_n hx hb dX6_turns_20 rfl (lv_at hl 1 rfl) ?_
  refine xb hf (fun v4 hv hf => ?_)
  refine xc_S1 (rest := [.ref (bd 0)]) ⟨hx, hb, hml, hown, hts⟩ (mX6_baseOf hv) (va_cwS 1 hts gX6_turns_X6_baseOf rfl rfl rfl hqX6_baseOf ⟨Nat.le_of_ble_eq_true rfl, Nat.le_of_ble_eq_true rfl⟩) X rfl hl.1 rfl (Nat.le_of_ble_eq_true rfl) dX6_turns_21 ⟨Nat.zero_le _, Nat.zero_le _⟩ (fun H locs X => ?_)
  refine lv_iload_n hx hb dX6_turns_24 rfl (lv_at hl 2 rfl) ?_
  refine lv_iload_n hx hb dX6_turns_25 rfl (lv_at hl 3 rfl) ?_
  refine lv_aload_n hx hb dX6_turns_26 rfl (lv_at hl 0 rfl) ?_
  refine xg_f hx hb hts hown X h6 0 wlR_0 rfl 2 (by decide) (by decide +kernel) (v := .ref (bd 2)) rfl dX6_turns_27 ?_
  refine lv_iload_n hx hb dX6_turns_30 rfl (lv_at hl 1 rfl) ?_
  refine xa_iald hx hb X 2 wlR_2 dX6_turns_31 hf (fun v5 hf => ?_)
  refine lv_iadd hx hb dX6_turns_32 ?_
  refine lv_iload_n hx hb dX6_turns_33 rfl (lv_at hl 2 rfl) ?_
  refine lv_isub hx hb dX6_turns_34 ?_
  refine xb hf (fun v6 hv hf => ?_)
  refine xc_V0 (rest := []) ⟨hx, hb, hml, hown, hts⟩ (mX6_copy hv) (cwV 3 hts gX6_turns_X6_copy rfl rfl rfl hqX6_copy ⟨Nat.le_of_ble_eq_true rfl, Nat.le_of_ble_eq_true rfl⟩) X (va_recv X.1 X.2.1 (ci := 4) (q0 := 0) rfl wlR_0) rfl hl.1 rfl (Nat.le_of_ble_eq_true rfl) dX6_turns_35 ⟨Nat.zero_le _, Nat.zero_le _⟩ (fun H locs X => ?_)
  cases hf
  exact xe_v hx hb hr hlocks X dX6_turns_38
set_option maxRecDepth 100000 in
set_option maxHeartbeats 4000000 in
theorem mX6_laysBack {l : Launch} {dd : va_G} {cy : Nat → ClassId} {bd : Nat → Nat} {A : Nat → Prop} {fu : Nat} {th : Int32} {ce : Nat → Int32} {sz : Nat → Int32} {wy : Nat → Int64} {op : Nat → Int32} {x1 : Int32} {x2 : Int32} {ceo : Nat → Int32} (hf : fX6_laysBack fu ce sz x1 x2 = some ceo) : Met l yX6_laysBack wsX6_laysBack { frames := 1, cells := 0, slots := 0, locals := 20 } (va_Pc [.ref (bd 0), .int x1, .int x2] (IW dd cy A (wlR bd cy th ce sz wy op))) (QX dd cy A none (wlR bd cy th ceo sz wy op)) 0 0 A := by
  refine Met.ofW (cc := cX6_laysBack) (maxL := 4) (ret := none) (by decide) rfl ?_
  intro p e s m args below meth c s₁ B hml hv
  obtain ⟨hav, hI⟩ := hv
  have hx := B.exec
  have hb := B.bytes
  have hr := B.returns
  have hts := atoms_spec (ws := wsX6_laysBack) B.pre
  have hown : s.vm.findClass RX6 = some m.cls := findClass_of_methodNamed B.named
  have hlocks := B.notSynchronized
  have X := XW.of hI
  have h6 : ∀ w ∈ wsX60, w ∈ wsX6_laysBack := by decide +kernel
  refine xe_in hav (Nat.le_of_ble_eq_true rfl) rfl (fun ls hl => ?_)
  have w2 : ∀ (y1 : Int32) (y2 : Int32) (n : Nat) (y3 : Int32) (ce : Nat → Int32), fX6_laysBack_2 fu sz y1 y2 n y3 ce = some ceo → ∀ (H : Heap) (locs : List Loc) (ls : Array Slot), XW dd cy A s (wlR bd cy th ce sz wy op) H locs → lv_has ls 4 [(0, .ref (bd 0)), (1, .int y1), (2, .int y2), (3, .int y3)] → W p l e (headSpec wsX6_laysBack { frames := 1, cells := 0, slots := 0, locals := 20 }).room s m args below meth c H locs 0 0 (MQ below (QX dd cy A none (wlR bd cy th ceo sz wy op)) args s 0 0 A) (F0 m 2 ls []) := by
    intro y1 y2 n
    induction n with
    | zero => intro y3 ce hf; exact absurd hf (by simp [fX6_laysBack_2])
    | succ n ih =>
      intro y3 ce hf H locs ls X hl
      rw [fX6_laysBack_2] at hf
      refine lv_iload_n hx hb dX6_laysBack_2 rfl (lv_at hl 3 rfl) ?_
      refine lv_aload_n hx hb dX6_laysBack_3 rfl (lv_at hl 0 rfl) ?_
      refine xg_f hx hb hts hown X h6 0 wlR_0 rfl 2 (by decide) (by decide +kernel) (v := .ref (bd 2)) rfl dX6_laysBack_4 ?_
      refine lv_iload_n hx hb dX6_laysBack_7 rfl (lv_at hl 1 rfl) ?_
      refine xa_iald hx hb X 2 wlR_2 dX6_laysBack_8 hf (fun v1 hf => ?_)
      refine xr_icmp_ge (tgt := 46) hx hb dX6_laysBack_9 rfl hf (fun hf => ?_) (fun hf => ?_)
      · cases hf
        exact xe_v hx hb hr hlocks X dX6_laysBack_46
      · refine lv_aload_n hx hb dX6_laysBack_12 rfl (lv_at hl 0 rfl) ?_
        refine xg_f hx hb hts hown X h6 0 wlR_0 rfl 1 (by decide) (by decide +kernel) (v := .ref (bd 1)) rfl dX6_laysBack_13 ?_
        refine lv_iload_n hx hb dX6_laysBack_16 rfl (lv_at hl 2 rfl) ?_
        refine lv_iload_n hx hb dX6_laysBack_17 rfl (lv_at hl 3 rfl) ?_
        refine lv_iadd hx hb dX6_laysBack_18 ?_
        refine lv_aload_n hx hb dX6_laysBack_19 rfl (lv_at hl 0 rfl) ?_
        refine xg_f hx hb hts hown X h6 0 wlR_0 rfl 1 (by decide) (by decide +kernel) (v := .ref (bd 1)) rfl dX6_laysBack_20 ?_
        refine lv_iload_n hx hb dX6_laysBack_23 rfl (lv_at hl 1 rfl) ?_
        refine xb hf (fun v2 hv hf => ?_)
        refine xc_S1 (rest := [.ref (bd 1), .int (y2 + y3), .ref (bd 1)]) ⟨hx, hb, hml, hown, hts⟩ (mX6_baseOf hv) (va_cwS 1 hts gX6_laysBack_X6_baseOf rfl rfl rfl hqX6_baseOf ⟨Nat.le_of_ble_eq_true rfl, Nat.le_of_ble_eq_true rfl⟩) X rfl hl.1 rfl (Nat.le_of_ble_eq_true rfl) dX6_laysBack_24 ⟨Nat.zero_le _, Nat.zero_le _⟩ (fun H locs X => ?_)
        refine lv_aload_n hx hb dX6_laysBack_27 rfl (lv_at hl 0 rfl) ?_
        refine xg_f hx hb hts hown X h6 0 wlR_0 rfl 2 (by decide) (by decide +kernel) (v := .ref (bd 2)) rfl dX6_laysBack_28 ?_
        refine lv_iload_n hx hb dX6_laysBack_31 rfl (lv_at hl 1 rfl) ?_
        refine xa_iald hx hb X 2 wlR_2 dX6_laysBack_32 hf (fun v3 hf => ?_)
        refine lv_iadd hx hb dX6_laysBack_33 ?_
        refine lv_iconst (v := (1 : Int32)) hx hb dX6_laysBack_34 rfl ?_
        refine lv_isub hx hb dX6_laysBack_35 ?_
        refine lv_iload_n hx hb dX6_laysBack_36 rfl (lv_at hl 3 rfl) ?_
        refine lv_isub hx hb dX6_laysBack_37 ?_
        refine xa_iald hx hb X 1 wlR_1 dX6_laysBack_38 hf (fun v4 hf => ?_)
        refine xa_iast hx hb X 1 wlR_1 wlR_s_ce dX6_laysBack_39 hf (fun g5 H locs hf X => ?_)
        refine lv_iinc (v := (y3 + 1)) (lv' := [(3, .int (y3 + 1)), (0, .ref (bd 0)), (1, .int y1), (2, .int y2)]) hx hb dX6_laysBack_40 hl (k := 3) rfl ii_1 (by decide) rfl (fun ls hl => ?_)
        refine lv_goto (tgt := 2) hx hb dX6_laysBack_43 rfl ?_
        exact ih (y3 + 1) g5 hf _ _ _ X (lv_sub hl [1, 2, 3, 0] rfl)
  rw [fX6_laysBack] at hf
  refine lv_iconst (v := (0 : Int32)) hx hb dX6_laysBack_0 rfl ?_
  refine lv_istore_n (lv' := [(3, .int (0 : Int32)), (0, .ref (bd 0)), (1, .int x1), (2, .int x2)]) hx hb dX6_laysBack_1 rfl hl (by decide) rfl (fun ls hl => ?_)
  exact w2 x1 x2 fu (0 : Int32) ce hf _ _ _ X (lv_sub hl [1, 2, 3, 0] rfl)
set_option maxRecDepth 100000 in
set_option maxHeartbeats 4000000 in
theorem mX6_adds {l : Launch} {dd : va_G} {cy : Nat → ClassId} {bd : Nat → Nat} {A : Nat → Prop} {th : Int32} {ce : Nat → Int32} {sz : Nat → Int32} {wy : Nat → Int64} {op : Nat → Int32} {x1 : Int32} {x2 : Int32} {ceo : Nat → Int32} {szo : Nat → Int32} (hf : fX6_adds ce sz x1 x2 = some (ceo, szo)) : Met l yX6_adds wsX6_adds { frames := 1, cells := 0, slots := 0, locals := 20 } (va_Pc [.ref (bd 0), .int x1, .int x2] (IW dd cy A (wlR bd cy th ce sz wy op))) (QX dd cy A none (wlR bd cy th ceo szo wy op)) 0 0 A := by
  refine Met.ofW (cc := cX6_adds) (maxL := 3) (ret := none) (by decide) rfl ?_
  intro p e s m args below meth c s₁ B hml hv
  obtain ⟨hav, hI⟩ := hv
  have hx := B.exec
  have hb := B.bytes
  have hr := B.returns
  have hts := atoms_spec (ws := wsX6_adds) B.pre
  have hown : s.vm.findClass RX6 = some m.cls := findClass_of_methodNamed B.named
  have hlocks := B.notSynchronized
  have X := XW.of hI
  have h6 : ∀ w ∈ wsX60, w ∈ wsX6_adds := by decide +kernel
  refine xe_in hav (Nat.le_of_ble_eq_true rfl) rfl (fun ls hl => ?_)
  rw [fX6_adds] at hf
  refine lv_aload_n hx hb dX6_adds_0 rfl (lv_at hl 0 rfl) ?_
  refine xg_f hx hb hts hown X h6 0 wlR_0 rfl 1 (by decide) (by decide +kernel) (v := .ref (bd 1)) rfl dX6_adds_1 ?_
  refine lv_iload_n hx hb dX6_adds_4 rfl (lv_at hl 1 rfl) ?_
  refine xb hf (fun v1 hv hf => ?_)
  refine xc_S1 (rest := [.ref (bd 1)]) ⟨hx, hb, hml, hown, hts⟩ (mX6_baseOf hv) (va_cwS 1 hts gX6_adds_X6_baseOf rfl rfl rfl hqX6_baseOf ⟨Nat.le_of_ble_eq_true rfl, Nat.le_of_ble_eq_true rfl⟩) X rfl hl.1 rfl (Nat.le_of_ble_eq_true rfl) dX6_adds_5 ⟨Nat.zero_le _, Nat.zero_le _⟩ (fun H locs X => ?_)
  refine lv_aload_n hx hb dX6_adds_8 rfl (lv_at hl 0 rfl) ?_
  refine xg_f hx hb hts hown X h6 0 wlR_0 rfl 2 (by decide) (by decide +kernel) (v := .ref (bd 2)) rfl dX6_adds_9 ?_
  refine lv_iload_n hx hb dX6_adds_12 rfl (lv_at hl 1 rfl) ?_
  refine xa_iald hx hb X 2 wlR_2 dX6_adds_13 hf (fun v2 hf => ?_)
  refine lv_iadd hx hb dX6_adds_14 ?_
  refine lv_iload_n hx hb dX6_adds_15 rfl (lv_at hl 2 rfl) ?_
  refine xa_iast hx hb X 1 wlR_1 wlR_s_ce dX6_adds_16 hf (fun g3 H locs hf X => ?_)
  refine lv_aload_n hx hb dX6_adds_17 rfl (lv_at hl 0 rfl) ?_
  refine xg_f hx hb hts hown X h6 0 wlR_0 rfl 2 (by decide) (by decide +kernel) (v := .ref (bd 2)) rfl dX6_adds_18 ?_
  refine lv_iload_n hx hb dX6_adds_21 rfl (lv_at hl 1 rfl) ?_
  refine lv_dup2_11 hx hb dX6_adds_22 rfl rfl ?_
  refine xa_iald hx hb X 2 wlR_2 dX6_adds_23 hf (fun v4 hf => ?_)
  refine lv_iconst (v := (1 : Int32)) hx hb dX6_adds_24 rfl ?_
  refine lv_iadd hx hb dX6_adds_25 ?_
  refine xa_iast hx hb X 2 wlR_2 wlR_s_sz dX6_adds_26 hf (fun g5 H locs hf X => ?_)
  cases hf
  exact xe_v hx hb hr hlocks X dX6_adds_27
set_option maxRecDepth 100000 in
set_option maxHeartbeats 4000000 in
theorem mX6_type {l : Launch} {dd : va_G} {cy : Nat → ClassId} {bd : Nat → Nat} {A : Nat → Prop} {th : Int32} {ce : Nat → Int32} {sz : Nat → Int32} {wy : Nat → Int64} {op : Nat → Int32} {x1 : Int32} {x2 : Int32} {rv : Int32} {tho : Int32} {ceo : Nat → Int32} {szo : Nat → Int32} (hf : fX6_type th ce sz x1 x2 = some (rv, tho, ceo, szo)) : Met l yX6_type wsX6_type { frames := 2, cells := 0, slots := 0, locals := 46 } (va_Pc [.ref (bd 0), .int x1, .int x2] (IW dd cy A (wlR bd cy th ce sz wy op))) (QX dd cy A (some (.int rv)) (wlR bd cy tho ceo szo wy op)) 0 0 A := by
  refine Met.ofW (cc := cX6_type) (maxL := 3) (ret := some .int) (by decide) rfl ?_
  intro p e s m args below meth c s₁ B hml hv
  obtain ⟨hav, hI⟩ := hv
  have hx := B.exec
  have hb := B.bytes
  have hr := B.returns
  have hts := atoms_spec (ws := wsX6_type) B.pre
  have hown : s.vm.findClass RX6 = some m.cls := findClass_of_methodNamed B.named
  have hlocks := B.notSynchronized
  have X := XW.of hI
  have h6 : ∀ w ∈ wsX60, w ∈ wsX6_type := by decide +kernel
  refine xe_in hav (Nat.le_of_ble_eq_true rfl) rfl (fun ls hl => ?_)
  have w45 : ∀ (y1 : Int32) (y2 : Int32) (s0 : Int32) (th : Int32) (ce : Nat → Int32) (sz : Nat → Int32), fX6_type_45 y1 y2 s0 th ce sz = some (rv, tho, ceo, szo) → ∀ (H : Heap) (locs : List Loc) (ls : Array Slot), XW dd cy A s (wlR bd cy th ce sz wy op) H locs → lv_has ls 3 [(0, .ref (bd 0)), (1, .int y1), (2, .int y2)] → W p l e (headSpec wsX6_type { frames := 2, cells := 0, slots := 0, locals := 46 }).room s m args below meth c H locs 0 0 (MQ below (QX dd cy A (some (.int rv)) (wlR bd cy tho ceo szo wy op)) args s 0 0 A) (F0 m 45 ls [.int s0, .ref (bd 0)]) := by
    intro y1 y2 s0 th ce sz hf H locs ls X hl
    rw [fX6_type_45] at hf
    refine lv_iconst (v := (3 : Int32)) hx hb dX6_type_45 rfl ?_
    refine xb hf (fun v5 hv hf => ?_)
    refine xc_V1 (rest := []) ⟨hx, hb, hml, hown, hts⟩ (mX6_isThrown hv) (cwV 2 hts gX6_type_X6_isThrown rfl rfl rfl hqX6_isThrown ⟨Nat.le_of_ble_eq_true rfl, Nat.le_of_ble_eq_true rfl⟩) X (va_recv X.1 X.2.1 (ci := 4) (q0 := 0) rfl wlR_0) rfl hl.1 rfl (Nat.le_of_ble_eq_true rfl) dX6_type_46 ⟨Nat.zero_le _, Nat.zero_le _⟩ (fun H locs X => ?_)
    refine xr_if_eq (tgt := 54) hx hb dX6_type_49 rfl hf (fun hf => ?_) (fun hf => ?_)
    · refine lv_aload_n hx hb dX6_type_54 rfl (lv_at hl 0 rfl) ?_
      refine lv_iload_n hx hb dX6_type_55 rfl (lv_at hl 1 rfl) ?_
      refine lv_iload_n hx hb dX6_type_56 rfl (lv_at hl 2 rfl) ?_
      refine xb hf (fun v6 hv hf => ?_)
      refine xc_V0 (rest := []) ⟨hx, hb, hml, hown, hts⟩ (mX6_adds hv) (cwV 2 hts gX6_type_X6_adds rfl rfl rfl hqX6_adds ⟨Nat.le_of_ble_eq_true rfl, Nat.le_of_ble_eq_true rfl⟩) X (va_recv X.1 X.2.1 (ci := 4) (q0 := 0) rfl wlR_0) rfl hl.1 rfl (Nat.le_of_ble_eq_true rfl) dX6_type_57 ⟨Nat.zero_le _, Nat.zero_le _⟩ (fun H locs X => ?_)
      refine lv_aload_n hx hb dX6_type_60 rfl (lv_at hl 0 rfl) ?_
      refine xg_f hx hb hts hown X h6 0 wlR_0 rfl 2 (by decide) (by decide +kernel) (v := .ref (bd 2)) rfl dX6_type_61 ?_
      refine lv_iload_n hx hb dX6_type_64 rfl (lv_at hl 1 rfl) ?_
      refine xa_iald hx hb X 2 wlR_2 dX6_type_65 hf (fun v7 hf => ?_)
      cases hf
      exact xe_i hx hb hr hlocks X dX6_type_66
    · refine lv_iconst (v := (0 : Int32)) hx hb dX6_type_52 rfl ?_
      cases hf
      exact xe_i hx hb hr hlocks X dX6_type_53
  have w21 : ∀ (y1 : Int32) (y2 : Int32) (s0 : Int32) (th : Int32) (ce : Nat → Int32) (sz : Nat → Int32), fX6_type_21 y1 y2 s0 th ce sz = some (rv, tho, ceo, szo) → ∀ (H : Heap) (locs : List Loc) (ls : Array Slot), XW dd cy A s (wlR bd cy th ce sz wy op) H locs → lv_has ls 3 [(0, .ref (bd 0)), (1, .int y1), (2, .int y2)] → W p l e (headSpec wsX6_type { frames := 2, cells := 0, slots := 0, locals := 46 }).room s m args below meth c H locs 0 0 (MQ below (QX dd cy A (some (.int rv)) (wlR bd cy tho ceo szo wy op)) args s 0 0 A) (F0 m 21 ls [.int s0, .ref (bd 0)]) := by
    intro y1 y2 s0 th ce sz hf H locs ls X hl
    rw [fX6_type_21] at hf
    refine lv_iconst (v := (2 : Int32)) hx hb dX6_type_21 rfl ?_
    refine xb hf (fun v3 hv hf => ?_)
    refine xc_V1 (rest := []) ⟨hx, hb, hml, hown, hts⟩ (mX6_isThrown hv) (cwV 2 hts gX6_type_X6_isThrown rfl rfl rfl hqX6_isThrown ⟨Nat.le_of_ble_eq_true rfl, Nat.le_of_ble_eq_true rfl⟩) X (va_recv X.1 X.2.1 (ci := 4) (q0 := 0) rfl wlR_0) rfl hl.1 rfl (Nat.le_of_ble_eq_true rfl) dX6_type_22 ⟨Nat.zero_le _, Nat.zero_le _⟩ (fun H locs X => ?_)
    refine xr_if_ne (tgt := 52) hx hb dX6_type_25 rfl hf (fun hf => ?_) (fun hf => ?_)
    · refine lv_iconst (v := (0 : Int32)) hx hb dX6_type_52 rfl ?_
      cases hf
      exact xe_i hx hb hr hlocks X dX6_type_53
    · refine lv_aload_n hx hb dX6_type_28 rfl (lv_at hl 0 rfl) ?_
      refine lv_aload_n hx hb dX6_type_29 rfl (lv_at hl 0 rfl) ?_
      refine xg_f hx hb hts hown X h6 0 wlR_0 rfl 2 (by decide) (by decide +kernel) (v := .ref (bd 2)) rfl dX6_type_30 ?_
      refine lv_iload_n hx hb dX6_type_33 rfl (lv_at hl 1 rfl) ?_
      refine xa_iald hx hb X 2 wlR_2 dX6_type_34 hf (fun v4 hf => ?_)
      refine lv_bipush (v := (60 : Int32)) hx hb dX6_type_35 rfl ?_
      refine xr_icmp_ne (tgt := 44) hx hb dX6_type_37 rfl hf (fun hf => ?_) (fun hf => ?_)
      · refine lv_iconst (v := (0 : Int32)) hx hb dX6_type_44 rfl ?_
        exact w45 y1 y2 (0 : Int32) v3.2 ce sz hf _ _ _ X (lv_sub hl [0, 1, 2] rfl)
      · refine lv_iconst (v := (1 : Int32)) hx hb dX6_type_40 rfl ?_
        refine lv_goto (tgt := 45) hx hb dX6_type_41 rfl ?_
        exact w45 y1 y2 (1 : Int32) v3.2 ce sz hf _ _ _ X (lv_sub hl [0, 1, 2] rfl)
  rw [fX6_type] at hf
  refine lv_aload_n hx hb dX6_type_0 rfl (lv_at hl 0 rfl) ?_
  refine lv_iload_n hx hb dX6_type_1 rfl (lv_at hl 1 rfl) ?_
  refine xb hf (fun v1 hv hf => ?_)
  refine xc_V1 (rest := []) ⟨hx, hb, hml, hown, hts⟩ (mX6_isNo hv) (cwV 1 hts gX6_type_X6_isNo rfl rfl rfl hqX6_isNo ⟨Nat.le_of_ble_eq_true rfl, Nat.le_of_ble_eq_true rfl⟩) X (va_recv X.1 X.2.1 (ci := 4) (q0 := 0) rfl wlR_0) rfl hl.1 rfl (Nat.le_of_ble_eq_true rfl) dX6_type_2 ⟨Nat.zero_le _, Nat.zero_le _⟩ (fun H locs X => ?_)
  refine xr_if_ne (tgt := 52) hx hb dX6_type_5 rfl hf (fun hf => ?_) (fun hf => ?_)
  · refine lv_iconst (v := (0 : Int32)) hx hb dX6_type_52 rfl ?_
    cases hf
    exact xe_i hx hb hr hlocks X dX6_type_53
  · refine lv_aload_n hx hb dX6_type_8 rfl (lv_at hl 0 rfl) ?_
    refine lv_iload_n hx hb dX6_type_9 rfl (lv_at hl 2 rfl) ?_
    refine xb hf (fun v2 hv hf => ?_)
    refine xc_S1 (rest := [.ref (bd 0)]) ⟨hx, hb, hml, hown, hts⟩ (mX6_isSign hv) (va_cwS 1 hts gX6_type_X6_isSign rfl rfl rfl hqX6_isSign ⟨Nat.le_of_ble_eq_true rfl, Nat.le_of_ble_eq_true rfl⟩) X rfl hl.1 rfl (Nat.le_of_ble_eq_true rfl) dX6_type_10 ⟨Nat.zero_le _, Nat.zero_le _⟩ (fun H locs X => ?_)
    refine xr_if_ne (tgt := 20) hx hb dX6_type_13 rfl hf (fun hf => ?_) (fun hf => ?_)
    · refine lv_iconst (v := (0 : Int32)) hx hb dX6_type_20 rfl ?_
      exact w21 x1 x2 (0 : Int32) v1.2 ce sz hf _ _ _ X (lv_sub hl [0, 1, 2] rfl)
    · refine lv_iconst (v := (1 : Int32)) hx hb dX6_type_16 rfl ?_
      refine lv_goto (tgt := 21) hx hb dX6_type_17 rfl ?_
      exact w21 x1 x2 (1 : Int32) v1.2 ce sz hf _ _ _ X (lv_sub hl [0, 1, 2] rfl)
set_option maxRecDepth 100000 in
set_option maxHeartbeats 4000000 in
theorem mX6_typeMore {l : Launch} {dd : va_G} {cy : Nat → ClassId} {bd : Nat → Nat} {A : Nat → Prop} {fu : Nat} {th : Int32} {ce : Nat → Int32} {sz : Nat → Int32} {wy : Nat → Int64} {op : Nat → Int32} {x1 : Int32} {x2 : Int32} {x3 : Int32} {x4 : Int32} {x5 : Int32} {x6 : Int32} {x7 : Int32} {x8 : Int32} {rv : Int32} {tho : Int32} {ceo : Nat → Int32} {szo : Nat → Int32} (hf : fX6_typeMore fu th ce sz x1 x2 x3 x4 x5 x6 x7 x8 = some (rv, tho, ceo, szo)) : Met l yX6_typeMore wsX6_typeMore { frames := 2, cells := 0, slots := 0, locals := 46 } (va_Pc [.ref (bd 0), .int x1, .int x2, .int x3, .int x4, .int x5, .int x6, .int x7, .int x8] (IW dd cy A (wlR bd cy th ce sz wy op))) (QX dd cy A (some (.int rv)) (wlR bd cy tho ceo szo wy op)) 0 0 A := by
  refine Met.ofW (cc := cX6_typeMore) (maxL := 11) (ret := some .int) (by decide) rfl ?_
  intro p e s m args below meth c s₁ B hml hv
  obtain ⟨hav, hI⟩ := hv
  have hx := B.exec
  have hb := B.bytes
  have hr := B.returns
  have hts := atoms_spec (ws := wsX6_typeMore) B.pre
  have hown : s.vm.findClass RX6 = some m.cls := findClass_of_methodNamed B.named
  have hlocks := B.notSynchronized
  have X := XW.of hI
  have h6 : ∀ w ∈ wsX60, w ∈ wsX6_typeMore := by decide +kernel
  refine xe_in hav (Nat.le_of_ble_eq_true rfl) rfl (fun ls hl => ?_)
  have w190 : ∀ (y1 : Int32) (y2 : Int32) (n : Nat) (y10 : Int32) (th : Int32) (ce : Nat → Int32) (sz : Nat → Int32), fX6_typeMore_190 fu y1 y2 n y10 th ce sz = some (rv, tho, ceo, szo) → ∀ (H : Heap) (locs : List Loc) (ls : Array Slot), XW dd cy A s (wlR bd cy th ce sz wy op) H locs → lv_has ls 11 [(0, .ref (bd 0)), (1, .int y1), (2, .int y2), (10, .int y10)] → W p l e (headSpec wsX6_typeMore { frames := 2, cells := 0, slots := 0, locals := 46 }).room s m args below meth c H locs 0 0 (MQ below (QX dd cy A (some (.int rv)) (wlR bd cy tho ceo szo wy op)) args s 0 0 A) (F0 m 190 ls []) := by
    intro y1 y2 n
    induction n with
    | zero => intro y10 th ce sz hf; exact absurd hf (by simp [fX6_typeMore_190])
    | succ n ih =>
      intro y10 th ce sz hf H locs ls X hl
      rw [fX6_typeMore_190] at hf
      refine lv_iload hx hb dX6_typeMore_190 (lv_at hl 3 rfl) ?_
      refine lv_iload_n hx hb dX6_typeMore_192 rfl (lv_at hl 2 rfl) ?_
      refine xr_icmp_ge (tgt := 218) hx hb dX6_typeMore_193 rfl hf (fun hf => ?_) (fun hf => ?_)
      · refine lv_aload_n hx hb dX6_typeMore_218 rfl (lv_at hl 0 rfl) ?_
        refine xg_f hx hb hts hown X h6 0 wlR_0 rfl 2 (by decide) (by decide +kernel) (v := .ref (bd 2)) rfl dX6_typeMore_219 ?_
        refine lv_iload_n hx hb dX6_typeMore_222 rfl (lv_at hl 1 rfl) ?_
        refine xa_iald hx hb X 2 wlR_2 dX6_typeMore_223 hf (fun v13 hf => ?_)
        cases hf
        exact xe_i hx hb hr hlocks X dX6_typeMore_224
      · refine lv_aload_n hx hb dX6_typeMore_196 rfl (lv_at hl 0 rfl) ?_
        refine lv_iload_n hx hb dX6_typeMore_197 rfl (lv_at hl 1 rfl) ?_
        refine lv_aload_n hx hb dX6_typeMore_198 rfl (lv_at hl 0 rfl) ?_
        refine xg_f hx hb hts hown X h6 0 wlR_0 rfl 1 (by decide) (by decide +kernel) (v := .ref (bd 1)) rfl dX6_typeMore_199 ?_
        refine lv_sipush (v := (360 : Int32)) hx hb dX6_typeMore_202 rfl ?_
        refine lv_iload hx hb dX6_typeMore_205 (lv_at hl 3 rfl) ?_
        refine lv_iadd hx hb dX6_typeMore_207 ?_
        refine xa_iald hx hb X 1 wlR_1 dX6_typeMore_208 hf (fun v14 hf => ?_)
        refine xb hf (fun v15 hv hf => ?_)
        refine xc_V0 (rest := []) ⟨hx, hb, hml, hown, hts⟩ (mX6_adds hv) (cwV 2 hts gX6_typeMore_X6_adds rfl rfl rfl hqX6_adds ⟨Nat.le_of_ble_eq_true rfl, Nat.le_of_ble_eq_true rfl⟩) X (va_recv X.1 X.2.1 (ci := 4) (q0 := 0) rfl wlR_0) rfl hl.1 rfl (Nat.le_of_ble_eq_true rfl) dX6_typeMore_209 ⟨Nat.zero_le _, Nat.zero_le _⟩ (fun H locs X => ?_)
        refine lv_iinc (v := (y10 + 1)) (lv' := [(10, .int (y10 + 1)), (0, .ref (bd 0)), (1, .int y1), (2, .int y2)]) hx hb dX6_typeMore_212 hl (k := 3) rfl ii_1 (by decide) rfl (fun ls hl => ?_)
        refine lv_goto (tgt := 190) hx hb dX6_typeMore_215 rfl ?_
        exact ih (y10 + 1) th v15.1 v15.2 hf _ _ _ X (lv_sub hl [1, 2, 3, 0] rfl)
  have w178 : ∀ (y1 : Int32) (y2 : Int32) (s0 : Int32) (th : Int32) (ce : Nat → Int32) (sz : Nat → Int32), fX6_typeMore_178 fu y1 y2 s0 th ce sz = some (rv, tho, ceo, szo) → ∀ (H : Heap) (locs : List Loc) (ls : Array Slot), XW dd cy A s (wlR bd cy th ce sz wy op) H locs → lv_has ls 11 [(0, .ref (bd 0)), (1, .int y1), (2, .int y2)] → W p l e (headSpec wsX6_typeMore { frames := 2, cells := 0, slots := 0, locals := 46 }).room s m args below meth c H locs 0 0 (MQ below (QX dd cy A (some (.int rv)) (wlR bd cy tho ceo szo wy op)) args s 0 0 A) (F0 m 178 ls [.int s0, .ref (bd 0)]) := by
    intro y1 y2 s0 th ce sz hf H locs ls X hl
    rw [fX6_typeMore_178] at hf
    refine lv_iconst (v := (3 : Int32)) hx hb dX6_typeMore_178 rfl ?_
    refine xb hf (fun v12 hv hf => ?_)
    refine xc_V1 (rest := []) ⟨hx, hb, hml, hown, hts⟩ (mX6_isThrown hv) (cwV 2 hts gX6_typeMore_X6_isThrown rfl rfl rfl hqX6_isThrown ⟨Nat.le_of_ble_eq_true rfl, Nat.le_of_ble_eq_true rfl⟩) X (va_recv X.1 X.2.1 (ci := 4) (q0 := 0) rfl wlR_0) rfl hl.1 rfl (Nat.le_of_ble_eq_true rfl) dX6_typeMore_179 ⟨Nat.zero_le _, Nat.zero_le _⟩ (fun H locs X => ?_)
    refine xr_if_eq (tgt := 187) hx hb dX6_typeMore_182 rfl hf (fun hf => ?_) (fun hf => ?_)
    · refine lv_iconst (v := (0 : Int32)) hx hb dX6_typeMore_187 rfl ?_
      refine lv_istore (lv' := [(10, .int (0 : Int32)), (0, .ref (bd 0)), (1, .int y1), (2, .int y2)]) hx hb dX6_typeMore_188 hl (by decide) rfl (fun ls hl => ?_)
      exact w190 y1 y2 fu (0 : Int32) v12.2 ce sz hf _ _ _ X (lv_sub hl [1, 2, 3, 0] rfl)
    · refine lv_iconst (v := (0 : Int32)) hx hb dX6_typeMore_185 rfl ?_
      cases hf
      exact xe_i hx hb hr hlocks X dX6_typeMore_186
  have w152 : ∀ (y1 : Int32) (y2 : Int32) (s0 : Int32) (th : Int32) (ce : Nat → Int32) (sz : Nat → Int32), fX6_typeMore_152 fu y1 y2 s0 th ce sz = some (rv, tho, ceo, szo) → ∀ (H : Heap) (locs : List Loc) (ls : Array Slot), XW dd cy A s (wlR bd cy th ce sz wy op) H locs → lv_has ls 11 [(0, .ref (bd 0)), (1, .int y1), (2, .int y2)] → W p l e (headSpec wsX6_typeMore { frames := 2, cells := 0, slots := 0, locals := 46 }).room s m args below meth c H locs 0 0 (MQ below (QX dd cy A (some (.int rv)) (wlR bd cy tho ceo szo wy op)) args s 0 0 A) (F0 m 152 ls [.int s0, .ref (bd 0)]) := by
    intro y1 y2 s0 th ce sz hf H locs ls X hl
    rw [fX6_typeMore_152] at hf
    refine lv_iconst (v := (2 : Int32)) hx hb dX6_typeMore_152 rfl ?_
    refine xb hf (fun v10 hv hf => ?_)
    refine xc_V1 (rest := []) ⟨hx, hb, hml, hown, hts⟩ (mX6_isThrown hv) (cwV 2 hts gX6_typeMore_X6_isThrown rfl rfl rfl hqX6_isThrown ⟨Nat.le_of_ble_eq_true rfl, Nat.le_of_ble_eq_true rfl⟩) X (va_recv X.1 X.2.1 (ci := 4) (q0 := 0) rfl wlR_0) rfl hl.1 rfl (Nat.le_of_ble_eq_true rfl) dX6_typeMore_153 ⟨Nat.zero_le _, Nat.zero_le _⟩ (fun H locs X => ?_)
    refine xr_if_ne (tgt := 185) hx hb dX6_typeMore_156 rfl hf (fun hf => ?_) (fun hf => ?_)
    · refine lv_iconst (v := (0 : Int32)) hx hb dX6_typeMore_185 rfl ?_
      cases hf
      exact xe_i hx hb hr hlocks X dX6_typeMore_186
    · refine lv_aload_n hx hb dX6_typeMore_159 rfl (lv_at hl 0 rfl) ?_
      refine lv_aload_n hx hb dX6_typeMore_160 rfl (lv_at hl 0 rfl) ?_
      refine xg_f hx hb hts hown X h6 0 wlR_0 rfl 2 (by decide) (by decide +kernel) (v := .ref (bd 2)) rfl dX6_typeMore_161 ?_
      refine lv_iload_n hx hb dX6_typeMore_164 rfl (lv_at hl 1 rfl) ?_
      refine xa_iald hx hb X 2 wlR_2 dX6_typeMore_165 hf (fun v11 hf => ?_)
      refine lv_iload_n hx hb dX6_typeMore_166 rfl (lv_at hl 2 rfl) ?_
      refine lv_iadd hx hb dX6_typeMore_167 ?_
      refine lv_bipush (v := (60 : Int32)) hx hb dX6_typeMore_168 rfl ?_
      refine xr_icmp_le (tgt := 177) hx hb dX6_typeMore_170 rfl hf (fun hf => ?_) (fun hf => ?_)
      · refine lv_iconst (v := (0 : Int32)) hx hb dX6_typeMore_177 rfl ?_
        exact w178 y1 y2 (0 : Int32) v10.2 ce sz hf _ _ _ X (lv_sub hl [0, 1, 2] rfl)
      · refine lv_iconst (v := (1 : Int32)) hx hb dX6_typeMore_173 rfl ?_
        refine lv_goto (tgt := 178) hx hb dX6_typeMore_174 rfl ?_
        exact w178 y1 y2 (1 : Int32) v10.2 ce sz hf _ _ _ X (lv_sub hl [0, 1, 2] rfl)
  have w100 : ∀ (y1 : Int32) (y2 : Int32) (n : Nat) (y9 : Int32) (y10 : Int32) (th : Int32) (ce : Nat → Int32) (sz : Nat → Int32), fX6_typeMore_100 fu y1 y2 n y9 y10 th ce sz = some (rv, tho, ceo, szo) → ∀ (H : Heap) (locs : List Loc) (ls : Array Slot), XW dd cy A s (wlR bd cy th ce sz wy op) H locs → lv_has ls 11 [(0, .ref (bd 0)), (1, .int y1), (2, .int y2), (9, .int y9), (10, .int y10)] → W p l e (headSpec wsX6_typeMore { frames := 2, cells := 0, slots := 0, locals := 46 }).room s m args below meth c H locs 0 0 (MQ below (QX dd cy A (some (.int rv)) (wlR bd cy tho ceo szo wy op)) args s 0 0 A) (F0 m 100 ls []) := by
    intro y1 y2 n
    induction n with
    | zero => intro y9 y10 th ce sz hf; exact absurd hf (by simp [fX6_typeMore_100])
    | succ n ih =>
      intro y9 y10 th ce sz hf H locs ls X hl
      rw [fX6_typeMore_100] at hf
      refine lv_iload hx hb dX6_typeMore_100 (lv_at hl 4 rfl) ?_
      refine lv_iload_n hx hb dX6_typeMore_102 rfl (lv_at hl 2 rfl) ?_
      refine xr_icmp_ge (tgt := 141) hx hb dX6_typeMore_103 rfl hf (fun hf => ?_) (fun hf => ?_)
      · refine lv_aload_n hx hb dX6_typeMore_141 rfl (lv_at hl 0 rfl) ?_
        refine lv_iload hx hb dX6_typeMore_142 (lv_at hl 3 rfl) ?_
        refine xr_if_ne (tgt := 151) hx hb dX6_typeMore_144 rfl hf (fun hf => ?_) (fun hf => ?_)
        · refine lv_iconst (v := (0 : Int32)) hx hb dX6_typeMore_151 rfl ?_
          exact w152 y1 y2 (0 : Int32) th ce sz hf _ _ _ X (lv_sub hl [0, 1, 2] rfl)
        · refine lv_iconst (v := (1 : Int32)) hx hb dX6_typeMore_147 rfl ?_
          refine lv_goto (tgt := 152) hx hb dX6_typeMore_148 rfl ?_
          exact w152 y1 y2 (1 : Int32) th ce sz hf _ _ _ X (lv_sub hl [0, 1, 2] rfl)
      · refine lv_iload hx hb dX6_typeMore_106 (lv_at hl 3 rfl) ?_
        refine xr_if_eq (tgt := 132) hx hb dX6_typeMore_108 rfl hf (fun hf => ?_) (fun hf => ?_)
        · refine lv_iconst (v := (0 : Int32)) hx hb dX6_typeMore_132 rfl ?_
          refine lv_istore (lv' := [(9, .int (0 : Int32)), (0, .ref (bd 0)), (1, .int y1), (2, .int y2), (10, .int y10)]) hx hb dX6_typeMore_133 hl (by decide) rfl (fun ls hl => ?_)
          refine lv_iinc (v := (y10 + 1)) (lv' := [(10, .int (y10 + 1)), (9, .int (0 : Int32)), (0, .ref (bd 0)), (1, .int y1), (2, .int y2)]) hx hb dX6_typeMore_135 hl (k := 4) rfl ii_1 (by decide) rfl (fun ls hl => ?_)
          refine lv_goto (tgt := 100) hx hb dX6_typeMore_138 rfl ?_
          exact ih (0 : Int32) (y10 + 1) th ce sz hf _ _ _ X (lv_sub hl [2, 3, 4, 1, 0] rfl)
        · refine lv_aload_n hx hb dX6_typeMore_111 rfl (lv_at hl 0 rfl) ?_
          refine xg_f hx hb hts hown X h6 0 wlR_0 rfl 1 (by decide) (by decide +kernel) (v := .ref (bd 1)) rfl dX6_typeMore_112 ?_
          refine lv_sipush (v := (360 : Int32)) hx hb dX6_typeMore_115 rfl ?_
          refine lv_iload hx hb dX6_typeMore_118 (lv_at hl 4 rfl) ?_
          refine lv_iadd hx hb dX6_typeMore_120 ?_
          refine xa_iald hx hb X 1 wlR_1 dX6_typeMore_121 hf (fun v16 hf => ?_)
          refine xb hf (fun v17 hv hf => ?_)
          refine xc_S1 (rest := []) ⟨hx, hb, hml, hown, hts⟩ (mX6_isSign hv) (va_cwS 1 hts gX6_typeMore_X6_isSign rfl rfl rfl hqX6_isSign ⟨Nat.le_of_ble_eq_true rfl, Nat.le_of_ble_eq_true rfl⟩) X rfl hl.1 rfl (Nat.le_of_ble_eq_true rfl) dX6_typeMore_122 ⟨Nat.zero_le _, Nat.zero_le _⟩ (fun H locs X => ?_)
          refine xr_if_eq (tgt := 132) hx hb dX6_typeMore_125 rfl hf (fun hf => ?_) (fun hf => ?_)
          · refine lv_iconst (v := (0 : Int32)) hx hb dX6_typeMore_132 rfl ?_
            refine lv_istore (lv' := [(9, .int (0 : Int32)), (0, .ref (bd 0)), (1, .int y1), (2, .int y2), (10, .int y10)]) hx hb dX6_typeMore_133 hl (by decide) rfl (fun ls hl => ?_)
            refine lv_iinc (v := (y10 + 1)) (lv' := [(10, .int (y10 + 1)), (9, .int (0 : Int32)), (0, .ref (bd 0)), (1, .int y1), (2, .int y2)]) hx hb dX6_typeMore_135 hl (k := 4) rfl ii_1 (by decide) rfl (fun ls hl => ?_)
            refine lv_goto (tgt := 100) hx hb dX6_typeMore_138 rfl ?_
            exact ih (0 : Int32) (y10 + 1) th ce sz hf _ _ _ X (lv_sub hl [2, 3, 4, 1, 0] rfl)
          · refine lv_iconst (v := (1 : Int32)) hx hb dX6_typeMore_128 rfl ?_
            refine lv_goto (tgt := 133) hx hb dX6_typeMore_129 rfl ?_
            refine lv_istore (lv' := [(9, .int (1 : Int32)), (0, .ref (bd 0)), (1, .int y1), (2, .int y2), (10, .int y10)]) hx hb dX6_typeMore_133 hl (by decide) rfl (fun ls hl => ?_)
            refine lv_iinc (v := (y10 + 1)) (lv' := [(10, .int (y10 + 1)), (9, .int (1 : Int32)), (0, .ref (bd 0)), (1, .int y1), (2, .int y2)]) hx hb dX6_typeMore_135 hl (k := 4) rfl ii_1 (by decide) rfl (fun ls hl => ?_)
            refine lv_goto (tgt := 100) hx hb dX6_typeMore_138 rfl ?_
            exact ih (1 : Int32) (y10 + 1) th ce sz hf _ _ _ X (lv_sub hl [2, 3, 4, 1, 0] rfl)
  have w26 : ∀ (y1 : Int32) (y2 : Int32) (y3 : Int32) (y4 : Int32) (y5 : Int32) (y6 : Int32) (y7 : Int32) (y8 : Int32) (s0 : Int32) (th : Int32) (ce : Nat → Int32) (sz : Nat → Int32), fX6_typeMore_26 fu y1 y2 y3 y4 y5 y6 y7 y8 s0 th ce sz = some (rv, tho, ceo, szo) → ∀ (H : Heap) (locs : List Loc) (ls : Array Slot), XW dd cy A s (wlR bd cy th ce sz wy op) H locs → lv_has ls 11 [(0, .ref (bd 0)), (1, .int y1), (2, .int y2), (3, .int y3), (4, .int y4), (5, .int y5), (6, .int y6), (7, .int y7), (8, .int y8)] → W p l e (headSpec wsX6_typeMore { frames := 2, cells := 0, slots := 0, locals := 46 }).room s m args below meth c H locs 0 0 (MQ below (QX dd cy A (some (.int rv)) (wlR bd cy tho ceo szo wy op)) args s 0 0 A) (F0 m 26 ls [.int s0, .ref (bd 0)]) := by
    intro y1 y2 y3 y4 y5 y6 y7 y8 s0 th ce sz hf H locs ls X hl
    rw [fX6_typeMore_26] at hf
    refine lv_iconst (v := (2 : Int32)) hx hb dX6_typeMore_26 rfl ?_
    refine xb hf (fun v3 hv hf => ?_)
    refine xc_V1 (rest := []) ⟨hx, hb, hml, hown, hts⟩ (mX6_isThrown hv) (cwV 2 hts gX6_typeMore_X6_isThrown rfl rfl rfl hqX6_isThrown ⟨Nat.le_of_ble_eq_true rfl, Nat.le_of_ble_eq_true rfl⟩) X (va_recv X.1 X.2.1 (ci := 4) (q0 := 0) rfl wlR_0) rfl hl.1 rfl (Nat.le_of_ble_eq_true rfl) dX6_typeMore_27 ⟨Nat.zero_le _, Nat.zero_le _⟩ (fun H locs X => ?_)
    refine xr_if_eq (tgt := 35) hx hb dX6_typeMore_30 rfl hf (fun hf => ?_) (fun hf => ?_)
    · refine lv_aload_n hx hb dX6_typeMore_35 rfl (lv_at hl 0 rfl) ?_
      refine xg_f hx hb hts hown X h6 0 wlR_0 rfl 1 (by decide) (by decide +kernel) (v := .ref (bd 1)) rfl dX6_typeMore_36 ?_
      refine lv_sipush (v := (360 : Int32)) hx hb dX6_typeMore_39 rfl ?_
      refine lv_iload_n hx hb dX6_typeMore_42 rfl (lv_at hl 3 rfl) ?_
      refine xa_iast hx hb X 1 wlR_1 wlR_s_ce dX6_typeMore_43 hf (fun g4 H locs hf X => ?_)
      refine lv_aload_n hx hb dX6_typeMore_44 rfl (lv_at hl 0 rfl) ?_
      refine xg_f hx hb hts hown X h6 0 wlR_0 rfl 1 (by decide) (by decide +kernel) (v := .ref (bd 1)) rfl dX6_typeMore_45 ?_
      refine lv_sipush (v := (361 : Int32)) hx hb dX6_typeMore_48 rfl ?_
      refine lv_iload hx hb dX6_typeMore_51 (lv_at hl 4 rfl) ?_
      refine xa_iast hx hb X 1 wlR_1 wlR_s_ce dX6_typeMore_53 hf (fun g5 H locs hf X => ?_)
      refine lv_aload_n hx hb dX6_typeMore_54 rfl (lv_at hl 0 rfl) ?_
      refine xg_f hx hb hts hown X h6 0 wlR_0 rfl 1 (by decide) (by decide +kernel) (v := .ref (bd 1)) rfl dX6_typeMore_55 ?_
      refine lv_sipush (v := (362 : Int32)) hx hb dX6_typeMore_58 rfl ?_
      refine lv_iload hx hb dX6_typeMore_61 (lv_at hl 5 rfl) ?_
      refine xa_iast hx hb X 1 wlR_1 wlR_s_ce dX6_typeMore_63 hf (fun g6 H locs hf X => ?_)
      refine lv_aload_n hx hb dX6_typeMore_64 rfl (lv_at hl 0 rfl) ?_
      refine xg_f hx hb hts hown X h6 0 wlR_0 rfl 1 (by decide) (by decide +kernel) (v := .ref (bd 1)) rfl dX6_typeMore_65 ?_
      refine lv_sipush (v := (363 : Int32)) hx hb dX6_typeMore_68 rfl ?_
      refine lv_iload hx hb dX6_typeMore_71 (lv_at hl 6 rfl) ?_
      refine xa_iast hx hb X 1 wlR_1 wlR_s_ce dX6_typeMore_73 hf (fun g7 H locs hf X => ?_)
      refine lv_aload_n hx hb dX6_typeMore_74 rfl (lv_at hl 0 rfl) ?_
      refine xg_f hx hb hts hown X h6 0 wlR_0 rfl 1 (by decide) (by decide +kernel) (v := .ref (bd 1)) rfl dX6_typeMore_75 ?_
      refine lv_sipush (v := (364 : Int32)) hx hb dX6_typeMore_78 rfl ?_
      refine lv_iload hx hb dX6_typeMore_81 (lv_at hl 7 rfl) ?_
      refine xa_iast hx hb X 1 wlR_1 wlR_s_ce dX6_typeMore_83 hf (fun g8 H locs hf X => ?_)
      refine lv_aload_n hx hb dX6_typeMore_84 rfl (lv_at hl 0 rfl) ?_
      refine xg_f hx hb hts hown X h6 0 wlR_0 rfl 1 (by decide) (by decide +kernel) (v := .ref (bd 1)) rfl dX6_typeMore_85 ?_
      refine lv_sipush (v := (365 : Int32)) hx hb dX6_typeMore_88 rfl ?_
      refine lv_iload hx hb dX6_typeMore_91 (lv_at hl 8 rfl) ?_
      refine xa_iast hx hb X 1 wlR_1 wlR_s_ce dX6_typeMore_93 hf (fun g9 H locs hf X => ?_)
      refine lv_iconst (v := (1 : Int32)) hx hb dX6_typeMore_94 rfl ?_
      refine lv_istore (lv' := [(9, .int (1 : Int32)), (0, .ref (bd 0)), (1, .int y1), (2, .int y2), (3, .int y3), (4, .int y4), (5, .int y5), (6, .int y6), (7, .int y7), (8, .int y8)]) hx hb dX6_typeMore_95 hl (by decide) rfl (fun ls hl => ?_)
      refine lv_iconst (v := (0 : Int32)) hx hb dX6_typeMore_97 rfl ?_
      refine lv_istore (lv' := [(10, .int (0 : Int32)), (9, .int (1 : Int32)), (0, .ref (bd 0)), (1, .int y1), (2, .int y2), (3, .int y3), (4, .int y4), (5, .int y5), (6, .int y6), (7, .int y7), (8, .int y8)]) hx hb dX6_typeMore_98 hl (by decide) rfl (fun ls hl => ?_)
      exact w100 y1 y2 fu (1 : Int32) (0 : Int32) v3.2 g9 sz hf _ _ _ X (lv_sub hl [2, 3, 4, 1, 0] rfl)
    · refine lv_iconst (v := (0 : Int32)) hx hb dX6_typeMore_33 rfl ?_
      cases hf
      exact xe_i hx hb hr hlocks X dX6_typeMore_34
  rw [fX6_typeMore] at hf
  refine lv_aload_n hx hb dX6_typeMore_0 rfl (lv_at hl 0 rfl) ?_
  refine lv_iload_n hx hb dX6_typeMore_1 rfl (lv_at hl 1 rfl) ?_
  refine xb hf (fun v1 hv hf => ?_)
  refine xc_V1 (rest := []) ⟨hx, hb, hml, hown, hts⟩ (mX6_isNo hv) (cwV 1 hts gX6_typeMore_X6_isNo rfl rfl rfl hqX6_isNo ⟨Nat.le_of_ble_eq_true rfl, Nat.le_of_ble_eq_true rfl⟩) X (va_recv X.1 X.2.1 (ci := 4) (q0 := 0) rfl wlR_0) rfl hl.1 rfl (Nat.le_of_ble_eq_true rfl) dX6_typeMore_2 ⟨Nat.zero_le _, Nat.zero_le _⟩ (fun H locs X => ?_)
  refine xr_if_ne (tgt := 33) hx hb dX6_typeMore_5 rfl hf (fun hf => ?_) (fun hf => ?_)
  · refine lv_iconst (v := (0 : Int32)) hx hb dX6_typeMore_33 rfl ?_
    cases hf
    exact xe_i hx hb hr hlocks X dX6_typeMore_34
  · refine lv_aload_n hx hb dX6_typeMore_8 rfl (lv_at hl 0 rfl) ?_
    refine lv_iload_n hx hb dX6_typeMore_9 rfl (lv_at hl 2 rfl) ?_
    refine lv_i2l (v := (x2.toInt64)) hx hb dX6_typeMore_10 rfl ?_
    refine lv_lconst (v := (1 : Int64)) hx hb dX6_typeMore_11 rfl ?_
    refine lv_ldc2 (v := (6 : Int64)) hx hb hown (hts (.constantLong RX6 69 (6)) (by decide +kernel)) dX6_typeMore_12 ?_
    refine xb hf (fun v2 hv hf => ?_)
    refine xc_S1 (rest := [.ref (bd 0)]) ⟨hx, hb, hml, hown, hts⟩ (mX6_isIn hv) (va_cwS 3 hts gX6_typeMore_X6_isIn rfl rfl rfl hqX6_isIn ⟨Nat.le_of_ble_eq_true rfl, Nat.le_of_ble_eq_true rfl⟩) X rfl hl.1 rfl (Nat.le_of_ble_eq_true rfl) dX6_typeMore_15 ⟨Nat.zero_le _, Nat.zero_le _⟩ (fun H locs X => ?_)
    refine xr_if_ne (tgt := 25) hx hb dX6_typeMore_18 rfl hf (fun hf => ?_) (fun hf => ?_)
    · refine lv_iconst (v := (0 : Int32)) hx hb dX6_typeMore_25 rfl ?_
      exact w26 x1 x2 x3 x4 x5 x6 x7 x8 (0 : Int32) v1.2 ce sz hf _ _ _ X (lv_sub hl [0, 1, 2, 3, 4, 5, 6, 7, 8] rfl)
    · refine lv_iconst (v := (1 : Int32)) hx hb dX6_typeMore_21 rfl ?_
      refine lv_goto (tgt := 26) hx hb dX6_typeMore_22 rfl ?_
      exact w26 x1 x2 x3 x4 x5 x6 x7 x8 (1 : Int32) v1.2 ce sz hf _ _ _ X (lv_sub hl [0, 1, 2, 3, 4, 5, 6, 7, 8] rfl)
set_option maxRecDepth 100000 in
set_option maxHeartbeats 4000000 in
theorem mX6_erase {l : Launch} {dd : va_G} {cy : Nat → ClassId} {bd : Nat → Nat} {A : Nat → Prop} {th : Int32} {ce : Nat → Int32} {sz : Nat → Int32} {wy : Nat → Int64} {op : Nat → Int32} {x1 : Int32} {rv : Int32} {tho : Int32} {szo : Nat → Int32} (hf : fX6_erase th sz x1 = some (rv, tho, szo)) : Met l yX6_erase wsX6_erase { frames := 2, cells := 0, slots := 0, locals := 46 } (va_Pc [.ref (bd 0), .int x1] (IW dd cy A (wlR bd cy th ce sz wy op))) (QX dd cy A (some (.int rv)) (wlR bd cy tho ce szo wy op)) 0 0 A := by
  refine Met.ofW (cc := cX6_erase) (maxL := 3) (ret := some .int) (by decide) rfl ?_
  intro p e s m args below meth c s₁ B hml hv
  obtain ⟨hav, hI⟩ := hv
  have hx := B.exec
  have hb := B.bytes
  have hr := B.returns
  have hts := atoms_spec (ws := wsX6_erase) B.pre
  have hown : s.vm.findClass RX6 = some m.cls := findClass_of_methodNamed B.named
  have hlocks := B.notSynchronized
  have X := XW.of hI
  have h6 : ∀ w ∈ wsX60, w ∈ wsX6_erase := by decide +kernel
  refine xe_in hav (Nat.le_of_ble_eq_true rfl) rfl (fun ls hl => ?_)
  rw [fX6_erase] at hf
  refine lv_aload_n hx hb dX6_erase_0 rfl (lv_at hl 0 rfl) ?_
  refine lv_iload_n hx hb dX6_erase_1 rfl (lv_at hl 1 rfl) ?_
  refine xb hf (fun v1 hv hf => ?_)
  refine xc_V1 (rest := []) ⟨hx, hb, hml, hown, hts⟩ (mX6_isNo hv) (cwV 1 hts gX6_erase_X6_isNo rfl rfl rfl hqX6_isNo ⟨Nat.le_of_ble_eq_true rfl, Nat.le_of_ble_eq_true rfl⟩) X (va_recv X.1 X.2.1 (ci := 4) (q0 := 0) rfl wlR_0) rfl hl.1 rfl (Nat.le_of_ble_eq_true rfl) dX6_erase_2 ⟨Nat.zero_le _, Nat.zero_le _⟩ (fun H locs X => ?_)
  refine xr_if_eq (tgt := 10) hx hb dX6_erase_5 rfl hf (fun hf => ?_) (fun hf => ?_)
  · refine lv_aload_n hx hb dX6_erase_10 rfl (lv_at hl 0 rfl) ?_
    refine xg_f hx hb hts hown X h6 0 wlR_0 rfl 2 (by decide) (by decide +kernel) (v := .ref (bd 2)) rfl dX6_erase_11 ?_
    refine lv_iload_n hx hb dX6_erase_14 rfl (lv_at hl 1 rfl) ?_
    refine xa_iald hx hb X 2 wlR_2 dX6_erase_15 hf (fun v2 hf => ?_)
    refine lv_istore_n (lv' := [(2, .int v2), (0, .ref (bd 0)), (1, .int x1)]) hx hb dX6_erase_16 rfl hl (by decide) rfl (fun ls hl => ?_)
    refine lv_aload_n hx hb dX6_erase_17 rfl (lv_at hl 1 rfl) ?_
    refine xg_f hx hb hts hown X h6 0 wlR_0 rfl 2 (by decide) (by decide +kernel) (v := .ref (bd 2)) rfl dX6_erase_18 ?_
    refine lv_iload_n hx hb dX6_erase_21 rfl (lv_at hl 2 rfl) ?_
    refine lv_iconst (v := (0 : Int32)) hx hb dX6_erase_22 rfl ?_
    refine xa_iast hx hb X 2 wlR_2 wlR_s_sz dX6_erase_23 hf (fun g3 H locs hf X => ?_)
    refine lv_iload_n hx hb dX6_erase_24 rfl (lv_at hl 0 rfl) ?_
    cases hf
    exact xe_i hx hb hr hlocks X dX6_erase_25
  · refine lv_iconst (v := (0 : Int32)) hx hb dX6_erase_8 rfl ?_
    cases hf
    exact xe_i hx hb hr hlocks X dX6_erase_9
set_option maxRecDepth 100000 in
set_option maxHeartbeats 4000000 in
theorem mX6_length {l : Launch} {dd : va_G} {cy : Nat → ClassId} {bd : Nat → Nat} {A : Nat → Prop} {th : Int32} {ce : Nat → Int32} {sz : Nat → Int32} {wy : Nat → Int64} {op : Nat → Int32} {x1 : Int32} {rv : Int32} {tho : Int32} (hf : fX6_length th sz x1 = some (rv, tho)) : Met l yX6_length wsX6_length { frames := 2, cells := 0, slots := 0, locals := 46 } (va_Pc [.ref (bd 0), .int x1] (IW dd cy A (wlR bd cy th ce sz wy op))) (QX dd cy A (some (.int rv)) (wlR bd cy tho ce sz wy op)) 0 0 A := by
  refine Met.ofW (cc := cX6_length) (maxL := 2) (ret := some .int) (by decide) rfl ?_
  intro p e s m args below meth c s₁ B hml hv
  obtain ⟨hav, hI⟩ := hv
  have hx := B.exec
  have hb := B.bytes
  have hr := B.returns
  have hts := atoms_spec (ws := wsX6_length) B.pre
  have hown : s.vm.findClass RX6 = some m.cls := findClass_of_methodNamed B.named
  have hlocks := B.notSynchronized
  have X := XW.of hI
  have h6 : ∀ w ∈ wsX60, w ∈ wsX6_length := by decide +kernel
  refine xe_in hav (Nat.le_of_ble_eq_true rfl) rfl (fun ls hl => ?_)
  rw [fX6_length] at hf
  refine lv_aload_n hx hb dX6_length_0 rfl (lv_at hl 0 rfl) ?_
  refine lv_iload_n hx hb dX6_length_1 rfl (lv_at hl 1 rfl) ?_
  refine xb hf (fun v1 hv hf => ?_)
  refine xc_V1 (rest := []) ⟨hx, hb, hml, hown, hts⟩ (mX6_isNo hv) (cwV 1 hts gX6_length_X6_isNo rfl rfl rfl hqX6_isNo ⟨Nat.le_of_ble_eq_true rfl, Nat.le_of_ble_eq_true rfl⟩) X (va_recv X.1 X.2.1 (ci := 4) (q0 := 0) rfl wlR_0) rfl hl.1 rfl (Nat.le_of_ble_eq_true rfl) dX6_length_2 ⟨Nat.zero_le _, Nat.zero_le _⟩ (fun H locs X => ?_)
  refine xr_if_eq (tgt := 12) hx hb dX6_length_5 rfl hf (fun hf => ?_) (fun hf => ?_)
  · refine lv_aload_n hx hb dX6_length_12 rfl (lv_at hl 0 rfl) ?_
    refine xg_f hx hb hts hown X h6 0 wlR_0 rfl 2 (by decide) (by decide +kernel) (v := .ref (bd 2)) rfl dX6_length_13 ?_
    refine lv_iload_n hx hb dX6_length_16 rfl (lv_at hl 1 rfl) ?_
    refine xa_iald hx hb X 2 wlR_2 dX6_length_17 hf (fun v2 hf => ?_)
    cases hf
    exact xe_i hx hb hr hlocks X dX6_length_18
  · refine lv_iconst (v := (0 : Int32)) hx hb dX6_length_8 rfl ?_
    refine lv_goto (tgt := 18) hx hb dX6_length_9 rfl ?_
    cases hf
    exact xe_i hx hb hr hlocks X dX6_length_18
set_option maxRecDepth 100000 in
set_option maxHeartbeats 4000000 in
theorem mX6_isNoPlace {l : Launch} {dd : va_G} {cy : Nat → ClassId} {bd : Nat → Nat} {A : Nat → Prop} {th : Int32} {ce : Nat → Int32} {sz : Nat → Int32} {wy : Nat → Int64} {op : Nat → Int32} {x1 : Int32} {x2 : Int32} {rv : Int32} {tho : Int32} (hf : fX6_isNoPlace th sz x1 x2 = some (rv, tho)) : Met l yX6_isNoPlace wsX6_isNoPlace { frames := 2, cells := 0, slots := 0, locals := 46 } (va_Pc [.ref (bd 0), .int x1, .int x2] (IW dd cy A (wlR bd cy th ce sz wy op))) (QX dd cy A (some (.int rv)) (wlR bd cy tho ce sz wy op)) 0 0 A := by
  refine Met.ofW (cc := cX6_isNoPlace) (maxL := 3) (ret := some .boolean) (by decide) rfl ?_
  intro p e s m args below meth c s₁ B hml hv
  obtain ⟨hav, hI⟩ := hv
  have hx := B.exec
  have hb := B.bytes
  have hr := B.returns
  have hts := atoms_spec (ws := wsX6_isNoPlace) B.pre
  have hown : s.vm.findClass RX6 = some m.cls := findClass_of_methodNamed B.named
  have hlocks := B.notSynchronized
  have X := XW.of hI
  have h6 : ∀ w ∈ wsX60, w ∈ wsX6_isNoPlace := by decide +kernel
  refine xe_in hav (Nat.le_of_ble_eq_true rfl) rfl (fun ls hl => ?_)
  have w32 : ∀ (s0 : Int32) (th : Int32), fX6_isNoPlace_32 sz s0 th = some (rv, tho) → ∀ (H : Heap) (locs : List Loc) (ls : Array Slot), XW dd cy A s (wlR bd cy th ce sz wy op) H locs → lv_has ls 3 [] → W p l e (headSpec wsX6_isNoPlace { frames := 2, cells := 0, slots := 0, locals := 46 }).room s m args below meth c H locs 0 0 (MQ below (QX dd cy A (some (.int rv)) (wlR bd cy tho ce sz wy op)) args s 0 0 A) (F0 m 32 ls [.int s0, .ref (bd 0)]) := by
    intro s0 th hf H locs ls X hl
    rw [fX6_isNoPlace_32] at hf
    refine lv_iconst (v := (1 : Int32)) hx hb dX6_isNoPlace_32 rfl ?_
    refine xb hf (fun v4 hv hf => ?_)
    refine xc_V1 (rest := []) ⟨hx, hb, hml, hown, hts⟩ (mX6_isThrown hv) (cwV 2 hts gX6_isNoPlace_X6_isThrown rfl rfl rfl hqX6_isThrown ⟨Nat.le_of_ble_eq_true rfl, Nat.le_of_ble_eq_true rfl⟩) X (va_recv X.1 X.2.1 (ci := 4) (q0 := 0) rfl wlR_0) rfl hl.1 rfl (Nat.le_of_ble_eq_true rfl) dX6_isNoPlace_33 ⟨Nat.zero_le _, Nat.zero_le _⟩ (fun H locs X => ?_)
    refine xr_if_eq (tgt := 43) hx hb dX6_isNoPlace_36 rfl hf (fun hf => ?_) (fun hf => ?_)
    · refine lv_iconst (v := (0 : Int32)) hx hb dX6_isNoPlace_43 rfl ?_
      cases hf
      exact xe_z hx hb hr hlocks X rfl dX6_isNoPlace_44
    · refine lv_iconst (v := (1 : Int32)) hx hb dX6_isNoPlace_39 rfl ?_
      refine lv_goto (tgt := 44) hx hb dX6_isNoPlace_40 rfl ?_
      cases hf
      exact xe_z hx hb hr hlocks X rfl dX6_isNoPlace_44
  rw [fX6_isNoPlace] at hf
  refine lv_aload_n hx hb dX6_isNoPlace_0 rfl (lv_at hl 0 rfl) ?_
  refine lv_iload_n hx hb dX6_isNoPlace_1 rfl (lv_at hl 1 rfl) ?_
  refine xb hf (fun v1 hv hf => ?_)
  refine xc_V1 (rest := []) ⟨hx, hb, hml, hown, hts⟩ (mX6_isNo hv) (cwV 1 hts gX6_isNoPlace_X6_isNo rfl rfl rfl hqX6_isNo ⟨Nat.le_of_ble_eq_true rfl, Nat.le_of_ble_eq_true rfl⟩) X (va_recv X.1 X.2.1 (ci := 4) (q0 := 0) rfl wlR_0) rfl hl.1 rfl (Nat.le_of_ble_eq_true rfl) dX6_isNoPlace_2 ⟨Nat.zero_le _, Nat.zero_le _⟩ (fun H locs X => ?_)
  refine xr_if_ne (tgt := 39) hx hb dX6_isNoPlace_5 rfl hf (fun hf => ?_) (fun hf => ?_)
  · refine lv_iconst (v := (1 : Int32)) hx hb dX6_isNoPlace_39 rfl ?_
    refine lv_goto (tgt := 44) hx hb dX6_isNoPlace_40 rfl ?_
    cases hf
    exact xe_z hx hb hr hlocks X rfl dX6_isNoPlace_44
  · refine lv_aload_n hx hb dX6_isNoPlace_8 rfl (lv_at hl 0 rfl) ?_
    refine lv_iload_n hx hb dX6_isNoPlace_9 rfl (lv_at hl 2 rfl) ?_
    refine lv_i2l (v := (x2.toInt64)) hx hb dX6_isNoPlace_10 rfl ?_
    refine lv_lconst (v := (0 : Int64)) hx hb dX6_isNoPlace_11 rfl ?_
    refine lv_aload_n hx hb dX6_isNoPlace_12 rfl (lv_at hl 0 rfl) ?_
    refine xg_f hx hb hts hown X h6 0 wlR_0 rfl 2 (by decide) (by decide +kernel) (v := .ref (bd 2)) rfl dX6_isNoPlace_13 ?_
    refine lv_iload_n hx hb dX6_isNoPlace_16 rfl (lv_at hl 1 rfl) ?_
    refine xa_iald hx hb X 2 wlR_2 dX6_isNoPlace_17 hf (fun v2 hf => ?_)
    refine lv_iconst (v := (1 : Int32)) hx hb dX6_isNoPlace_18 rfl ?_
    refine lv_isub hx hb dX6_isNoPlace_19 ?_
    refine lv_i2l (v := ((v2 - (1 : Int32)).toInt64)) hx hb dX6_isNoPlace_20 rfl ?_
    refine xb hf (fun v3 hv hf => ?_)
    refine xc_S1 (rest := [.ref (bd 0)]) ⟨hx, hb, hml, hown, hts⟩ (mX6_isIn hv) (va_cwS 3 hts gX6_isNoPlace_X6_isIn rfl rfl rfl hqX6_isIn ⟨Nat.le_of_ble_eq_true rfl, Nat.le_of_ble_eq_true rfl⟩) X rfl hl.1 rfl (Nat.le_of_ble_eq_true rfl) dX6_isNoPlace_21 ⟨Nat.zero_le _, Nat.zero_le _⟩ (fun H locs X => ?_)
    refine xr_if_ne (tgt := 31) hx hb dX6_isNoPlace_24 rfl hf (fun hf => ?_) (fun hf => ?_)
    · refine lv_iconst (v := (0 : Int32)) hx hb dX6_isNoPlace_31 rfl ?_
      exact w32 (0 : Int32) v1.2 hf _ _ _ X (lv_sub hl [] rfl)
    · refine lv_iconst (v := (1 : Int32)) hx hb dX6_isNoPlace_27 rfl ?_
      refine lv_goto (tgt := 32) hx hb dX6_isNoPlace_28 rfl ?_
      exact w32 (1 : Int32) v1.2 hf _ _ _ X (lv_sub hl [] rfl)
set_option maxRecDepth 100000 in
set_option maxHeartbeats 4000000 in
theorem mX6_signAt {l : Launch} {dd : va_G} {cy : Nat → ClassId} {bd : Nat → Nat} {A : Nat → Prop} {th : Int32} {ce : Nat → Int32} {sz : Nat → Int32} {wy : Nat → Int64} {op : Nat → Int32} {x1 : Int32} {x2 : Int32} {rv : Int32} {tho : Int32} (hf : fX6_signAt th ce sz x1 x2 = some (rv, tho)) : Met l yX6_signAt wsX6_signAt { frames := 3, cells := 0, slots := 0, locals := 68 } (va_Pc [.ref (bd 0), .int x1, .int x2] (IW dd cy A (wlR bd cy th ce sz wy op))) (QX dd cy A (some (.int rv)) (wlR bd cy tho ce sz wy op)) 0 0 A := by
  refine Met.ofW (cc := cX6_signAt) (maxL := 3) (ret := some .char) (by decide) rfl ?_
  intro p e s m args below meth c s₁ B hml hv
  obtain ⟨hav, hI⟩ := hv
  have hx := B.exec
  have hb := B.bytes
  have hr := B.returns
  have hts := atoms_spec (ws := wsX6_signAt) B.pre
  have hown : s.vm.findClass RX6 = some m.cls := findClass_of_methodNamed B.named
  have hlocks := B.notSynchronized
  have X := XW.of hI
  have h6 : ∀ w ∈ wsX60, w ∈ wsX6_signAt := by decide +kernel
  refine xe_in hav (Nat.le_of_ble_eq_true rfl) rfl (fun ls hl => ?_)
  rw [fX6_signAt] at hf
  refine lv_aload_n hx hb dX6_signAt_0 rfl (lv_at hl 0 rfl) ?_
  refine lv_iload_n hx hb dX6_signAt_1 rfl (lv_at hl 1 rfl) ?_
  refine lv_iload_n hx hb dX6_signAt_2 rfl (lv_at hl 2 rfl) ?_
  refine xb hf (fun v1 hv hf => ?_)
  refine xc_V1 (rest := []) ⟨hx, hb, hml, hown, hts⟩ (mX6_isNoPlace hv) (cwV 2 hts gX6_signAt_X6_isNoPlace rfl rfl rfl hqX6_isNoPlace ⟨Nat.le_of_ble_eq_true rfl, Nat.le_of_ble_eq_true rfl⟩) X (va_recv X.1 X.2.1 (ci := 4) (q0 := 0) rfl wlR_0) rfl hl.1 rfl (Nat.le_of_ble_eq_true rfl) dX6_signAt_3 ⟨Nat.zero_le _, Nat.zero_le _⟩ (fun H locs X => ?_)
  refine xr_if_eq (tgt := 14) hx hb dX6_signAt_6 rfl hf (fun hf => ?_) (fun hf => ?_)
  · refine lv_aload_n hx hb dX6_signAt_14 rfl (lv_at hl 0 rfl) ?_
    refine xg_f hx hb hts hown X h6 0 wlR_0 rfl 1 (by decide) (by decide +kernel) (v := .ref (bd 1)) rfl dX6_signAt_15 ?_
    refine lv_iload_n hx hb dX6_signAt_18 rfl (lv_at hl 1 rfl) ?_
    refine xb hf (fun v2 hv hf => ?_)
    refine xc_S1 (rest := [.ref (bd 1)]) ⟨hx, hb, hml, hown, hts⟩ (mX6_baseOf hv) (va_cwS 1 hts gX6_signAt_X6_baseOf rfl rfl rfl hqX6_baseOf ⟨Nat.le_of_ble_eq_true rfl, Nat.le_of_ble_eq_true rfl⟩) X rfl hl.1 rfl (Nat.le_of_ble_eq_true rfl) dX6_signAt_19 ⟨Nat.zero_le _, Nat.zero_le _⟩ (fun H locs X => ?_)
    refine lv_iload_n hx hb dX6_signAt_22 rfl (lv_at hl 2 rfl) ?_
    refine lv_iadd hx hb dX6_signAt_23 ?_
    refine xa_iald hx hb X 1 wlR_1 dX6_signAt_24 hf (fun v3 hf => ?_)
    refine lv_i2c (v := ((v3.toUInt32 % 65536).toInt32)) hx hb dX6_signAt_25 rfl ?_
    refine xb hf (fun z9 hz hf => ?_)
    obtain ⟨hn, rfl⟩ := ckC_some hz
    cases hf
    exact xe_z hx hb hr hlocks X hn dX6_signAt_26
  · refine lv_bipush (v := (32 : Int32)) hx hb dX6_signAt_9 rfl ?_
    refine lv_goto (tgt := 26) hx hb dX6_signAt_11 rfl ?_
    refine xb hf (fun z9 hz hf => ?_)
    obtain ⟨hn, rfl⟩ := ckC_some hz
    cases hf
    exact xe_z hx hb hr hlocks X hn dX6_signAt_26
set_option maxRecDepth 100000 in
set_option maxHeartbeats 4000000 in
theorem mX6_join {l : Launch} {dd : va_G} {cy : Nat → ClassId} {bd : Nat → Nat} {A : Nat → Prop} {fu : Nat} {th : Int32} {ce : Nat → Int32} {sz : Nat → Int32} {wy : Nat → Int64} {op : Nat → Int32} {x1 : Int32} {x2 : Int32} {x3 : Int32} {rv : Int32} {tho : Int32} {ceo : Nat → Int32} {szo : Nat → Int32} (hf : fX6_join fu th ce sz x1 x2 x3 = some (rv, tho, ceo, szo)) : Met l yX6_join wsX6_join { frames := 3, cells := 0, slots := 0, locals := 69 } (va_Pc [.ref (bd 0), .int x1, .int x2, .int x3] (IW dd cy A (wlR bd cy th ce sz wy op))) (QX dd cy A (some (.int rv)) (wlR bd cy tho ceo szo wy op)) 0 0 A := by
  refine Met.ofW (cc := cX6_join) (maxL := 4) (ret := some .int) (by decide) rfl ?_
  intro p e s m args below meth c s₁ B hml hv
  obtain ⟨hav, hI⟩ := hv
  have hx := B.exec
  have hb := B.bytes
  have hr := B.returns
  have hts := atoms_spec (ws := wsX6_join) B.pre
  have hown : s.vm.findClass RX6 = some m.cls := findClass_of_methodNamed B.named
  have hlocks := B.notSynchronized
  have X := XW.of hI
  have h6 : ∀ w ∈ wsX60, w ∈ wsX6_join := by decide +kernel
  refine xe_in hav (Nat.le_of_ble_eq_true rfl) rfl (fun ls hl => ?_)
  have w34 : ∀ (y1 : Int32) (y2 : Int32) (y3 : Int32) (s0 : Int32) (th : Int32) (ce : Nat → Int32) (sz : Nat → Int32), fX6_join_34 fu y1 y2 y3 s0 th ce sz = some (rv, tho, ceo, szo) → ∀ (H : Heap) (locs : List Loc) (ls : Array Slot), XW dd cy A s (wlR bd cy th ce sz wy op) H locs → lv_has ls 4 [(0, .ref (bd 0)), (1, .int y1), (2, .int y2), (3, .int y3)] → W p l e (headSpec wsX6_join { frames := 3, cells := 0, slots := 0, locals := 69 }).room s m args below meth c H locs 0 0 (MQ below (QX dd cy A (some (.int rv)) (wlR bd cy tho ceo szo wy op)) args s 0 0 A) (F0 m 34 ls [.int s0, .ref (bd 0)]) := by
    intro y1 y2 y3 s0 th ce sz hf H locs ls X hl
    rw [fX6_join_34] at hf
    refine lv_iconst (v := (2 : Int32)) hx hb dX6_join_34 rfl ?_
    refine xb hf (fun v4 hv hf => ?_)
    refine xc_V1 (rest := []) ⟨hx, hb, hml, hown, hts⟩ (mX6_isThrown hv) (cwV 2 hts gX6_join_X6_isThrown rfl rfl rfl hqX6_isThrown ⟨Nat.le_of_ble_eq_true rfl, Nat.le_of_ble_eq_true rfl⟩) X (va_recv X.1 X.2.1 (ci := 4) (q0 := 0) rfl wlR_0) rfl hl.1 rfl (Nat.le_of_ble_eq_true rfl) dX6_join_35 ⟨Nat.zero_le _, Nat.zero_le _⟩ (fun H locs X => ?_)
    refine xr_if_eq (tgt := 43) hx hb dX6_join_38 rfl hf (fun hf => ?_) (fun hf => ?_)
    · refine lv_aload_n hx hb dX6_join_43 rfl (lv_at hl 0 rfl) ?_
      refine lv_iload_n hx hb dX6_join_44 rfl (lv_at hl 2 rfl) ?_
      refine lv_iload_n hx hb dX6_join_45 rfl (lv_at hl 3 rfl) ?_
      refine lv_sipush (v := (360 : Int32)) hx hb dX6_join_46 rfl ?_
      refine xb hf (fun v5 hv hf => ?_)
      refine xc_V0 (rest := []) ⟨hx, hb, hml, hown, hts⟩ (mX6_lays hv) (cwV 3 hts gX6_join_X6_lays rfl rfl rfl hqX6_lays ⟨Nat.le_of_ble_eq_true rfl, Nat.le_of_ble_eq_true rfl⟩) X (va_recv X.1 X.2.1 (ci := 4) (q0 := 0) rfl wlR_0) rfl hl.1 rfl (Nat.le_of_ble_eq_true rfl) dX6_join_49 ⟨Nat.zero_le _, Nat.zero_le _⟩ (fun H locs X => ?_)
      refine lv_aload_n hx hb dX6_join_52 rfl (lv_at hl 0 rfl) ?_
      refine lv_iload_n hx hb dX6_join_53 rfl (lv_at hl 1 rfl) ?_
      refine lv_sipush (v := (360 : Int32)) hx hb dX6_join_54 rfl ?_
      refine lv_aload_n hx hb dX6_join_57 rfl (lv_at hl 0 rfl) ?_
      refine xg_f hx hb hts hown X h6 0 wlR_0 rfl 2 (by decide) (by decide +kernel) (v := .ref (bd 2)) rfl dX6_join_58 ?_
      refine lv_iload_n hx hb dX6_join_61 rfl (lv_at hl 2 rfl) ?_
      refine xa_iald hx hb X 2 wlR_2 dX6_join_62 hf (fun v6 hf => ?_)
      refine lv_aload_n hx hb dX6_join_63 rfl (lv_at hl 0 rfl) ?_
      refine xg_f hx hb hts hown X h6 0 wlR_0 rfl 2 (by decide) (by decide +kernel) (v := .ref (bd 2)) rfl dX6_join_64 ?_
      refine lv_iload_n hx hb dX6_join_67 rfl (lv_at hl 3 rfl) ?_
      refine xa_iald hx hb X 2 wlR_2 dX6_join_68 hf (fun v7 hf => ?_)
      refine lv_iadd hx hb dX6_join_69 ?_
      refine xb hf (fun v8 hv hf => ?_)
      refine xc_V1 (rest := []) ⟨hx, hb, hml, hown, hts⟩ (mX6_become hv) (cwV 3 hts gX6_join_X6_become rfl rfl rfl hqX6_become ⟨Nat.le_of_ble_eq_true rfl, Nat.le_of_ble_eq_true rfl⟩) X (va_recv X.1 X.2.1 (ci := 4) (q0 := 0) rfl wlR_0) rfl hl.1 rfl (Nat.le_of_ble_eq_true rfl) dX6_join_70 ⟨Nat.zero_le _, Nat.zero_le _⟩ (fun H locs X => ?_)
      cases hf
      exact xe_i hx hb hr hlocks X dX6_join_73
    · refine lv_iconst (v := (0 : Int32)) hx hb dX6_join_41 rfl ?_
      cases hf
      exact xe_i hx hb hr hlocks X dX6_join_42
  rw [fX6_join] at hf
  refine lv_aload_n hx hb dX6_join_0 rfl (lv_at hl 0 rfl) ?_
  refine lv_iload_n hx hb dX6_join_1 rfl (lv_at hl 1 rfl) ?_
  refine lv_iload_n hx hb dX6_join_2 rfl (lv_at hl 2 rfl) ?_
  refine lv_iload_n hx hb dX6_join_3 rfl (lv_at hl 3 rfl) ?_
  refine xb hf (fun v1 hv hf => ?_)
  refine xc_V1 (rest := []) ⟨hx, hb, hml, hown, hts⟩ (mX6_isNoOfAll hv) (cwV 3 hts gX6_join_X6_isNoOfAll rfl rfl rfl hqX6_isNoOfAll ⟨Nat.le_of_ble_eq_true rfl, Nat.le_of_ble_eq_true rfl⟩) X (va_recv X.1 X.2.1 (ci := 4) (q0 := 0) rfl wlR_0) rfl hl.1 rfl (Nat.le_of_ble_eq_true rfl) dX6_join_4 ⟨Nat.zero_le _, Nat.zero_le _⟩ (fun H locs X => ?_)
  refine xr_if_ne (tgt := 41) hx hb dX6_join_7 rfl hf (fun hf => ?_) (fun hf => ?_)
  · refine lv_iconst (v := (0 : Int32)) hx hb dX6_join_41 rfl ?_
    cases hf
    exact xe_i hx hb hr hlocks X dX6_join_42
  · refine lv_aload_n hx hb dX6_join_10 rfl (lv_at hl 0 rfl) ?_
    refine lv_aload_n hx hb dX6_join_11 rfl (lv_at hl 0 rfl) ?_
    refine xg_f hx hb hts hown X h6 0 wlR_0 rfl 2 (by decide) (by decide +kernel) (v := .ref (bd 2)) rfl dX6_join_12 ?_
    refine lv_iload_n hx hb dX6_join_15 rfl (lv_at hl 2 rfl) ?_
    refine xa_iald hx hb X 2 wlR_2 dX6_join_16 hf (fun v2 hf => ?_)
    refine lv_aload_n hx hb dX6_join_17 rfl (lv_at hl 0 rfl) ?_
    refine xg_f hx hb hts hown X h6 0 wlR_0 rfl 2 (by decide) (by decide +kernel) (v := .ref (bd 2)) rfl dX6_join_18 ?_
    refine lv_iload_n hx hb dX6_join_21 rfl (lv_at hl 3 rfl) ?_
    refine xa_iald hx hb X 2 wlR_2 dX6_join_22 hf (fun v3 hf => ?_)
    refine lv_iadd hx hb dX6_join_23 ?_
    refine lv_bipush (v := (60 : Int32)) hx hb dX6_join_24 rfl ?_
    refine xr_icmp_le (tgt := 33) hx hb dX6_join_26 rfl hf (fun hf => ?_) (fun hf => ?_)
    · refine lv_iconst (v := (0 : Int32)) hx hb dX6_join_33 rfl ?_
      exact w34 x1 x2 x3 (0 : Int32) v1.2 ce sz hf _ _ _ X (lv_sub hl [0, 1, 2, 3] rfl)
    · refine lv_iconst (v := (1 : Int32)) hx hb dX6_join_29 rfl ?_
      refine lv_goto (tgt := 34) hx hb dX6_join_30 rfl ?_
      exact w34 x1 x2 x3 (1 : Int32) v1.2 ce sz hf _ _ _ X (lv_sub hl [0, 1, 2, 3] rfl)
set_option maxRecDepth 100000 in
set_option maxHeartbeats 4000000 in
theorem mX6_repeat {l : Launch} {dd : va_G} {cy : Nat → ClassId} {bd : Nat → Nat} {A : Nat → Prop} {fu : Nat} {th : Int32} {ce : Nat → Int32} {sz : Nat → Int32} {wy : Nat → Int64} {op : Nat → Int32} {x1 : Int32} {x2 : Int32} {x3 : Int32} {rv : Int32} {tho : Int32} {ceo : Nat → Int32} {szo : Nat → Int32} (hf : fX6_repeat fu th ce sz x1 x2 x3 = some (rv, tho, ceo, szo)) : Met l yX6_repeat wsX6_repeat { frames := 3, cells := 0, slots := 0, locals := 68 } (va_Pc [.ref (bd 0), .int x1, .int x2, .int x3] (IW dd cy A (wlR bd cy th ce sz wy op))) (QX dd cy A (some (.int rv)) (wlR bd cy tho ceo szo wy op)) 0 0 A := by
  refine Met.ofW (cc := cX6_repeat) (maxL := 6) (ret := some .int) (by decide) rfl ?_
  intro p e s m args below meth c s₁ B hml hv
  obtain ⟨hav, hI⟩ := hv
  have hx := B.exec
  have hb := B.bytes
  have hr := B.returns
  have hts := atoms_spec (ws := wsX6_repeat) B.pre
  have hown : s.vm.findClass RX6 = some m.cls := findClass_of_methodNamed B.named
  have hlocks := B.notSynchronized
  have X := XW.of hI
  have h6 : ∀ w ∈ wsX60, w ∈ wsX6_repeat := by decide +kernel
  refine xe_in hav (Nat.le_of_ble_eq_true rfl) rfl (fun ls hl => ?_)
  have w71 : ∀ (y1 : Int32) (y2 : Int32) (y4 : Int32) (n : Nat) (y5 : Int32) (th : Int32) (ce : Nat → Int32) (sz : Nat → Int32), fX6_repeat_71 fu y1 y2 y4 n y5 th ce sz = some (rv, tho, ceo, szo) → ∀ (H : Heap) (locs : List Loc) (ls : Array Slot), XW dd cy A s (wlR bd cy th ce sz wy op) H locs → lv_has ls 6 [(0, .ref (bd 0)), (1, .int y1), (2, .int y2), (4, .int y4), (5, .int y5)] → W p l e (headSpec wsX6_repeat { frames := 3, cells := 0, slots := 0, locals := 68 }).room s m args below meth c H locs 0 0 (MQ below (QX dd cy A (some (.int rv)) (wlR bd cy tho ceo szo wy op)) args s 0 0 A) (F0 m 71 ls []) := by
    intro y1 y2 y4 n
    induction n with
    | zero => intro y5 th ce sz hf; exact absurd hf (by simp [fX6_repeat_71])
    | succ n ih =>
      intro y5 th ce sz hf H locs ls X hl
      rw [fX6_repeat_71] at hf
      refine lv_iload hx hb dX6_repeat_71 (lv_at hl 4 rfl) ?_
      refine lv_iload hx hb dX6_repeat_73 (lv_at hl 3 rfl) ?_
      refine xr_icmp_ge (tgt := 114) hx hb dX6_repeat_75 rfl hf (fun hf => ?_) (fun hf => ?_)
      · refine lv_aload_n hx hb dX6_repeat_114 rfl (lv_at hl 0 rfl) ?_
        refine lv_iload_n hx hb dX6_repeat_115 rfl (lv_at hl 1 rfl) ?_
        refine lv_sipush (v := (360 : Int32)) hx hb dX6_repeat_116 rfl ?_
        refine lv_iload hx hb dX6_repeat_119 (lv_at hl 3 rfl) ?_
        refine xb hf (fun v6 hv hf => ?_)
        refine xc_V1 (rest := []) ⟨hx, hb, hml, hown, hts⟩ (mX6_become hv) (cwV 3 hts gX6_repeat_X6_become rfl rfl rfl hqX6_become ⟨Nat.le_of_ble_eq_true rfl, Nat.le_of_ble_eq_true rfl⟩) X (va_recv X.1 X.2.1 (ci := 4) (q0 := 0) rfl wlR_0) rfl hl.1 rfl (Nat.le_of_ble_eq_true rfl) dX6_repeat_121 ⟨Nat.zero_le _, Nat.zero_le _⟩ (fun H locs X => ?_)
        cases hf
        exact xe_i hx hb hr hlocks X dX6_repeat_124
      · refine lv_aload_n hx hb dX6_repeat_78 rfl (lv_at hl 0 rfl) ?_
        refine xg_f hx hb hts hown X h6 0 wlR_0 rfl 1 (by decide) (by decide +kernel) (v := .ref (bd 1)) rfl dX6_repeat_79 ?_
        refine lv_sipush (v := (360 : Int32)) hx hb dX6_repeat_82 rfl ?_
        refine lv_iload hx hb dX6_repeat_85 (lv_at hl 4 rfl) ?_
        refine lv_iadd hx hb dX6_repeat_87 ?_
        refine lv_aload_n hx hb dX6_repeat_88 rfl (lv_at hl 0 rfl) ?_
        refine xg_f hx hb hts hown X h6 0 wlR_0 rfl 1 (by decide) (by decide +kernel) (v := .ref (bd 1)) rfl dX6_repeat_89 ?_
        refine lv_iload_n hx hb dX6_repeat_92 rfl (lv_at hl 2 rfl) ?_
        refine xb hf (fun v7 hv hf => ?_)
        refine xc_S1 (rest := [.ref (bd 1), .int ((360 : Int32) + y5), .ref (bd 1)]) ⟨hx, hb, hml, hown, hts⟩ (mX6_baseOf hv) (va_cwS 1 hts gX6_repeat_X6_baseOf rfl rfl rfl hqX6_baseOf ⟨Nat.le_of_ble_eq_true rfl, Nat.le_of_ble_eq_true rfl⟩) X rfl hl.1 rfl (Nat.le_of_ble_eq_true rfl) dX6_repeat_93 ⟨Nat.zero_le _, Nat.zero_le _⟩ (fun H locs X => ?_)
        refine lv_iload hx hb dX6_repeat_96 (lv_at hl 4 rfl) ?_
        refine lv_aload_n hx hb dX6_repeat_98 rfl (lv_at hl 0 rfl) ?_
        refine xg_f hx hb hts hown X h6 0 wlR_0 rfl 2 (by decide) (by decide +kernel) (v := .ref (bd 2)) rfl dX6_repeat_99 ?_
        refine lv_iload_n hx hb dX6_repeat_102 rfl (lv_at hl 2 rfl) ?_
        refine xa_iald hx hb X 2 wlR_2 dX6_repeat_103 hf (fun v8 hf => ?_)
        refine xr_irem hx hb dX6_repeat_104 hf (fun v9 hf => ?_)
        refine lv_iadd hx hb dX6_repeat_105 ?_
        refine xa_iald hx hb X 1 wlR_1 dX6_repeat_106 hf (fun v10 hf => ?_)
        refine xa_iast hx hb X 1 wlR_1 wlR_s_ce dX6_repeat_107 hf (fun g11 H locs hf X => ?_)
        refine lv_iinc (v := (y5 + 1)) (lv' := [(5, .int (y5 + 1)), (0, .ref (bd 0)), (1, .int y1), (2, .int y2), (4, .int y4)]) hx hb dX6_repeat_108 hl (k := 4) rfl ii_1 (by decide) rfl (fun ls hl => ?_)
        refine lv_goto (tgt := 71) hx hb dX6_repeat_111 rfl ?_
        exact ih (y5 + 1) th g11 sz hf _ _ _ X (lv_sub hl [1, 2, 3, 4, 0] rfl)
  have w49 : ∀ (y1 : Int32) (y2 : Int32) (y3 : Int32) (s0 : Int32) (th : Int32) (ce : Nat → Int32) (sz : Nat → Int32), fX6_repeat_49 fu y1 y2 y3 s0 th ce sz = some (rv, tho, ceo, szo) → ∀ (H : Heap) (locs : List Loc) (ls : Array Slot), XW dd cy A s (wlR bd cy th ce sz wy op) H locs → lv_has ls 6 [(0, .ref (bd 0)), (1, .int y1), (2, .int y2), (3, .int y3)] → W p l e (headSpec wsX6_repeat { frames := 3, cells := 0, slots := 0, locals := 68 }).room s m args below meth c H locs 0 0 (MQ below (QX dd cy A (some (.int rv)) (wlR bd cy tho ceo szo wy op)) args s 0 0 A) (F0 m 49 ls [.int s0, .ref (bd 0)]) := by
    intro y1 y2 y3 s0 th ce sz hf H locs ls X hl
    rw [fX6_repeat_49] at hf
    refine lv_iconst (v := (3 : Int32)) hx hb dX6_repeat_49 rfl ?_
    refine xb hf (fun v4 hv hf => ?_)
    refine xc_V1 (rest := []) ⟨hx, hb, hml, hown, hts⟩ (mX6_isThrown hv) (cwV 2 hts gX6_repeat_X6_isThrown rfl rfl rfl hqX6_isThrown ⟨Nat.le_of_ble_eq_true rfl, Nat.le_of_ble_eq_true rfl⟩) X (va_recv X.1 X.2.1 (ci := 4) (q0 := 0) rfl wlR_0) rfl hl.1 rfl (Nat.le_of_ble_eq_true rfl) dX6_repeat_50 ⟨Nat.zero_le _, Nat.zero_le _⟩ (fun H locs X => ?_)
    refine xr_if_eq (tgt := 58) hx hb dX6_repeat_53 rfl hf (fun hf => ?_) (fun hf => ?_)
    · refine lv_iload_n hx hb dX6_repeat_58 rfl (lv_at hl 3 rfl) ?_
      refine lv_aload_n hx hb dX6_repeat_59 rfl (lv_at hl 0 rfl) ?_
      refine xg_f hx hb hts hown X h6 0 wlR_0 rfl 2 (by decide) (by decide +kernel) (v := .ref (bd 2)) rfl dX6_repeat_60 ?_
      refine lv_iload_n hx hb dX6_repeat_63 rfl (lv_at hl 2 rfl) ?_
      refine xa_iald hx hb X 2 wlR_2 dX6_repeat_64 hf (fun v5 hf => ?_)
      refine lv_imul hx hb dX6_repeat_65 ?_
      refine lv_istore (lv' := [(4, .int (y3 * v5)), (0, .ref (bd 0)), (1, .int y1), (2, .int y2), (3, .int y3)]) hx hb dX6_repeat_66 hl (by decide) rfl (fun ls hl => ?_)
      refine lv_iconst (v := (0 : Int32)) hx hb dX6_repeat_68 rfl ?_
      refine lv_istore (lv' := [(5, .int (0 : Int32)), (4, .int (y3 * v5)), (0, .ref (bd 0)), (1, .int y1), (2, .int y2), (3, .int y3)]) hx hb dX6_repeat_69 hl (by decide) rfl (fun ls hl => ?_)
      exact w71 y1 y2 (y3 * v5) fu (0 : Int32) v4.2 ce sz hf _ _ _ X (lv_sub hl [2, 3, 4, 1, 0] rfl)
    · refine lv_iconst (v := (0 : Int32)) hx hb dX6_repeat_56 rfl ?_
      cases hf
      exact xe_i hx hb hr hlocks X dX6_repeat_57
  have w19 : ∀ (y1 : Int32) (y2 : Int32) (y3 : Int32) (s0 : Int32) (th : Int32) (ce : Nat → Int32) (sz : Nat → Int32), fX6_repeat_19 fu y1 y2 y3 s0 th ce sz = some (rv, tho, ceo, szo) → ∀ (H : Heap) (locs : List Loc) (ls : Array Slot), XW dd cy A s (wlR bd cy th ce sz wy op) H locs → lv_has ls 6 [(0, .ref (bd 0)), (1, .int y1), (2, .int y2), (3, .int y3)] → W p l e (headSpec wsX6_repeat { frames := 3, cells := 0, slots := 0, locals := 68 }).room s m args below meth c H locs 0 0 (MQ below (QX dd cy A (some (.int rv)) (wlR bd cy tho ceo szo wy op)) args s 0 0 A) (F0 m 19 ls [.int s0, .ref (bd 0)]) := by
    intro y1 y2 y3 s0 th ce sz hf H locs ls X hl
    rw [fX6_repeat_19] at hf
    refine lv_iconst (v := (2 : Int32)) hx hb dX6_repeat_19 rfl ?_
    refine xb hf (fun v2 hv hf => ?_)
    refine xc_V1 (rest := []) ⟨hx, hb, hml, hown, hts⟩ (mX6_isThrown hv) (cwV 2 hts gX6_repeat_X6_isThrown rfl rfl rfl hqX6_isThrown ⟨Nat.le_of_ble_eq_true rfl, Nat.le_of_ble_eq_true rfl⟩) X (va_recv X.1 X.2.1 (ci := 4) (q0 := 0) rfl wlR_0) rfl hl.1 rfl (Nat.le_of_ble_eq_true rfl) dX6_repeat_20 ⟨Nat.zero_le _, Nat.zero_le _⟩ (fun H locs X => ?_)
    refine xr_if_ne (tgt := 56) hx hb dX6_repeat_23 rfl hf (fun hf => ?_) (fun hf => ?_)
    · refine lv_iconst (v := (0 : Int32)) hx hb dX6_repeat_56 rfl ?_
      cases hf
      exact xe_i hx hb hr hlocks X dX6_repeat_57
    · refine lv_aload_n hx hb dX6_repeat_26 rfl (lv_at hl 0 rfl) ?_
      refine lv_iload_n hx hb dX6_repeat_27 rfl (lv_at hl 3 rfl) ?_
      refine lv_i2l (v := (y3.toInt64)) hx hb dX6_repeat_28 rfl ?_
      refine lv_aload_n hx hb dX6_repeat_29 rfl (lv_at hl 0 rfl) ?_
      refine xg_f hx hb hts hown X h6 0 wlR_0 rfl 2 (by decide) (by decide +kernel) (v := .ref (bd 2)) rfl dX6_repeat_30 ?_
      refine lv_iload_n hx hb dX6_repeat_33 rfl (lv_at hl 2 rfl) ?_
      refine xa_iald hx hb X 2 wlR_2 dX6_repeat_34 hf (fun v3 hf => ?_)
      refine lv_i2l (v := (v3.toInt64)) hx hb dX6_repeat_35 rfl ?_
      refine lv_lmul hx hb dX6_repeat_36 ?_
      refine lv_ldc2 (v := (60 : Int64)) hx hb hown (hts (.constantLong RX6 89 (60)) (by decide +kernel)) dX6_repeat_37 ?_
      refine W.lcmp hx hb dX6_repeat_40 ?_
      refine xr_if_le (tgt := 48) hx hb dX6_repeat_41 rfl hf (fun hf => ?_) (fun hf => ?_)
      · refine lv_iconst (v := (0 : Int32)) hx hb dX6_repeat_48 rfl ?_
        exact w49 y1 y2 y3 (0 : Int32) v2.2 ce sz hf _ _ _ X (lv_sub hl [0, 1, 2, 3] rfl)
      · refine lv_iconst (v := (1 : Int32)) hx hb dX6_repeat_44 rfl ?_
        refine lv_goto (tgt := 49) hx hb dX6_repeat_45 rfl ?_
        exact w49 y1 y2 y3 (1 : Int32) v2.2 ce sz hf _ _ _ X (lv_sub hl [0, 1, 2, 3] rfl)
  rw [fX6_repeat] at hf
  refine lv_aload_n hx hb dX6_repeat_0 rfl (lv_at hl 0 rfl) ?_
  refine lv_iload_n hx hb dX6_repeat_1 rfl (lv_at hl 1 rfl) ?_
  refine lv_iload_n hx hb dX6_repeat_2 rfl (lv_at hl 2 rfl) ?_
  refine xb hf (fun v1 hv hf => ?_)
  refine xc_V1 (rest := []) ⟨hx, hb, hml, hown, hts⟩ (mX6_isNoOf hv) (cwV 2 hts gX6_repeat_X6_isNoOf rfl rfl rfl hqX6_isNoOf ⟨Nat.le_of_ble_eq_true rfl, Nat.le_of_ble_eq_true rfl⟩) X (va_recv X.1 X.2.1 (ci := 4) (q0 := 0) rfl wlR_0) rfl hl.1 rfl (Nat.le_of_ble_eq_true rfl) dX6_repeat_3 ⟨Nat.zero_le _, Nat.zero_le _⟩ (fun H locs X => ?_)
  refine xr_if_ne (tgt := 56) hx hb dX6_repeat_6 rfl hf (fun hf => ?_) (fun hf => ?_)
  · refine lv_iconst (v := (0 : Int32)) hx hb dX6_repeat_56 rfl ?_
    cases hf
    exact xe_i hx hb hr hlocks X dX6_repeat_57
  · refine lv_aload_n hx hb dX6_repeat_9 rfl (lv_at hl 0 rfl) ?_
    refine lv_iload_n hx hb dX6_repeat_10 rfl (lv_at hl 3 rfl) ?_
    refine xr_if_ge (tgt := 18) hx hb dX6_repeat_11 rfl hf (fun hf => ?_) (fun hf => ?_)
    · refine lv_iconst (v := (0 : Int32)) hx hb dX6_repeat_18 rfl ?_
      exact w19 x1 x2 x3 (0 : Int32) v1.2 ce sz hf _ _ _ X (lv_sub hl [0, 1, 2, 3] rfl)
    · refine lv_iconst (v := (1 : Int32)) hx hb dX6_repeat_14 rfl ?_
      refine lv_goto (tgt := 19) hx hb dX6_repeat_15 rfl ?_
      exact w19 x1 x2 x3 (1 : Int32) v1.2 ce sz hf _ _ _ X (lv_sub hl [0, 1, 2, 3] rfl)
set_option maxRecDepth 100000 in
set_option maxHeartbeats 4000000 in
theorem mX6_part {l : Launch} {dd : va_G} {cy : Nat → ClassId} {bd : Nat → Nat} {A : Nat → Prop} {fu : Nat} {th : Int32} {ce : Nat → Int32} {sz : Nat → Int32} {wy : Nat → Int64} {op : Nat → Int32} {x1 : Int32} {x2 : Int32} {x3 : Int32} {x4 : Int32} {rv : Int32} {tho : Int32} {ceo : Nat → Int32} {szo : Nat → Int32} (hf : fX6_part fu th ce sz x1 x2 x3 x4 = some (rv, tho, ceo, szo)) : Met l yX6_part wsX6_part { frames := 3, cells := 0, slots := 0, locals := 68 } (va_Pc [.ref (bd 0), .int x1, .int x2, .int x3, .int x4] (IW dd cy A (wlR bd cy th ce sz wy op))) (QX dd cy A (some (.int rv)) (wlR bd cy tho ceo szo wy op)) 0 0 A := by
  refine Met.ofW (cc := cX6_part) (maxL := 5) (ret := some .int) (by decide) rfl ?_
  intro p e s m args below meth c s₁ B hml hv
  obtain ⟨hav, hI⟩ := hv
  have hx := B.exec
  have hb := B.bytes
  have hr := B.returns
  have hts := atoms_spec (ws := wsX6_part) B.pre
  have hown : s.vm.findClass RX6 = some m.cls := findClass_of_methodNamed B.named
  have hlocks := B.notSynchronized
  have X := XW.of hI
  have h6 : ∀ w ∈ wsX60, w ∈ wsX6_part := by decide +kernel
  refine xe_in hav (Nat.le_of_ble_eq_true rfl) rfl (fun ls hl => ?_)
  have w36 : ∀ (y1 : Int32) (y2 : Int32) (y3 : Int32) (y4 : Int32) (s0 : Int32) (th : Int32) (ce : Nat → Int32) (sz : Nat → Int32), fX6_part_36 fu y1 y2 y3 y4 s0 th ce sz = some (rv, tho, ceo, szo) → ∀ (H : Heap) (locs : List Loc) (ls : Array Slot), XW dd cy A s (wlR bd cy th ce sz wy op) H locs → lv_has ls 5 [(0, .ref (bd 0)), (1, .int y1), (2, .int y2), (3, .int y3), (4, .int y4)] → W p l e (headSpec wsX6_part { frames := 3, cells := 0, slots := 0, locals := 68 }).room s m args below meth c H locs 0 0 (MQ below (QX dd cy A (some (.int rv)) (wlR bd cy tho ceo szo wy op)) args s 0 0 A) (F0 m 36 ls [.int s0, .ref (bd 0)]) := by
    intro y1 y2 y3 y4 s0 th ce sz hf H locs ls X hl
    rw [fX6_part_36] at hf
    refine lv_iconst (v := (1 : Int32)) hx hb dX6_part_36 rfl ?_
    refine xb hf (fun v2 hv hf => ?_)
    refine xc_V1 (rest := []) ⟨hx, hb, hml, hown, hts⟩ (mX6_isThrown hv) (cwV 2 hts gX6_part_X6_isThrown rfl rfl rfl hqX6_isThrown ⟨Nat.le_of_ble_eq_true rfl, Nat.le_of_ble_eq_true rfl⟩) X (va_recv X.1 X.2.1 (ci := 4) (q0 := 0) rfl wlR_0) rfl hl.1 rfl (Nat.le_of_ble_eq_true rfl) dX6_part_37 ⟨Nat.zero_le _, Nat.zero_le _⟩ (fun H locs X => ?_)
    refine xr_if_eq (tgt := 45) hx hb dX6_part_40 rfl hf (fun hf => ?_) (fun hf => ?_)
    · refine lv_aload_n hx hb dX6_part_45 rfl (lv_at hl 0 rfl) ?_
      refine lv_iload_n hx hb dX6_part_46 rfl (lv_at hl 1 rfl) ?_
      refine lv_iload_n hx hb dX6_part_47 rfl (lv_at hl 2 rfl) ?_
      refine xb hf (fun v3 hv hf => ?_)
      refine xc_S1 (rest := [.int y1, .ref (bd 0)]) ⟨hx, hb, hml, hown, hts⟩ (mX6_baseOf hv) (va_cwS 1 hts gX6_part_X6_baseOf rfl rfl rfl hqX6_baseOf ⟨Nat.le_of_ble_eq_true rfl, Nat.le_of_ble_eq_true rfl⟩) X rfl hl.1 rfl (Nat.le_of_ble_eq_true rfl) dX6_part_48 ⟨Nat.zero_le _, Nat.zero_le _⟩ (fun H locs X => ?_)
      refine lv_iload_n hx hb dX6_part_51 rfl (lv_at hl 3 rfl) ?_
      refine lv_iadd hx hb dX6_part_52 ?_
      refine lv_iload hx hb dX6_part_53 (lv_at hl 4 rfl) ?_
      refine lv_iload_n hx hb dX6_part_55 rfl (lv_at hl 3 rfl) ?_
      refine lv_isub hx hb dX6_part_56 ?_
      refine xb hf (fun v4 hv hf => ?_)
      refine xc_V1 (rest := []) ⟨hx, hb, hml, hown, hts⟩ (mX6_become hv) (cwV 3 hts gX6_part_X6_become rfl rfl rfl hqX6_become ⟨Nat.le_of_ble_eq_true rfl, Nat.le_of_ble_eq_true rfl⟩) X (va_recv X.1 X.2.1 (ci := 4) (q0 := 0) rfl wlR_0) rfl hl.1 rfl (Nat.le_of_ble_eq_true rfl) dX6_part_57 ⟨Nat.zero_le _, Nat.zero_le _⟩ (fun H locs X => ?_)
      cases hf
      exact xe_i hx hb hr hlocks X dX6_part_60
    · refine lv_iconst (v := (0 : Int32)) hx hb dX6_part_43 rfl ?_
      cases hf
      exact xe_i hx hb hr hlocks X dX6_part_44
  have w31 : ∀ (y1 : Int32) (y2 : Int32) (y3 : Int32) (y4 : Int32) (th : Int32) (ce : Nat → Int32) (sz : Nat → Int32), fX6_part_31 fu y1 y2 y3 y4 th ce sz = some (rv, tho, ceo, szo) → ∀ (H : Heap) (locs : List Loc) (ls : Array Slot), XW dd cy A s (wlR bd cy th ce sz wy op) H locs → lv_has ls 5 [(0, .ref (bd 0)), (1, .int y1), (2, .int y2), (3, .int y3), (4, .int y4)] → W p l e (headSpec wsX6_part { frames := 3, cells := 0, slots := 0, locals := 68 }).room s m args below meth c H locs 0 0 (MQ below (QX dd cy A (some (.int rv)) (wlR bd cy tho ceo szo wy op)) args s 0 0 A) (F0 m 31 ls [.ref (bd 0)]) := by
    intro y1 y2 y3 y4 th ce sz hf H locs ls X hl
    rw [fX6_part_31] at hf
    refine lv_iconst (v := (1 : Int32)) hx hb dX6_part_31 rfl ?_
    refine lv_goto (tgt := 36) hx hb dX6_part_32 rfl ?_
    exact w36 y1 y2 y3 y4 (1 : Int32) th ce sz hf _ _ _ X (lv_sub hl [0, 1, 2, 3, 4] rfl)
  rw [fX6_part] at hf
  refine lv_aload_n hx hb dX6_part_0 rfl (lv_at hl 0 rfl) ?_
  refine lv_iload_n hx hb dX6_part_1 rfl (lv_at hl 1 rfl) ?_
  refine lv_iload_n hx hb dX6_part_2 rfl (lv_at hl 2 rfl) ?_
  refine xb hf (fun v1 hv hf => ?_)
  refine xc_V1 (rest := []) ⟨hx, hb, hml, hown, hts⟩ (mX6_isNoOf hv) (cwV 2 hts gX6_part_X6_isNoOf rfl rfl rfl hqX6_isNoOf ⟨Nat.le_of_ble_eq_true rfl, Nat.le_of_ble_eq_true rfl⟩) X (va_recv X.1 X.2.1 (ci := 4) (q0 := 0) rfl wlR_0) rfl hl.1 rfl (Nat.le_of_ble_eq_true rfl) dX6_part_3 ⟨Nat.zero_le _, Nat.zero_le _⟩ (fun H locs X => ?_)
  refine xr_if_ne (tgt := 43) hx hb dX6_part_6 rfl hf (fun hf => ?_) (fun hf => ?_)
  · refine lv_iconst (v := (0 : Int32)) hx hb dX6_part_43 rfl ?_
    cases hf
    exact xe_i hx hb hr hlocks X dX6_part_44
  · refine lv_aload_n hx hb dX6_part_9 rfl (lv_at hl 0 rfl) ?_
    refine lv_iload_n hx hb dX6_part_10 rfl (lv_at hl 3 rfl) ?_
    refine xr_if_lt (tgt := 31) hx hb dX6_part_11 rfl hf (fun hf => ?_) (fun hf => ?_)
    · exact w31 x1 x2 x3 x4 v1.2 ce sz hf _ _ _ X (lv_sub hl [0, 1, 2, 3, 4] rfl)
    · refine lv_iload_n hx hb dX6_part_14 rfl (lv_at hl 3 rfl) ?_
      refine lv_iload hx hb dX6_part_15 (lv_at hl 4 rfl) ?_
      refine xr_icmp_gt (tgt := 31) hx hb dX6_part_17 rfl hf (fun hf => ?_) (fun hf => ?_)
      · exact w31 x1 x2 x3 x4 v1.2 ce sz hf _ _ _ X (lv_sub hl [0, 1, 2, 3, 4] rfl)
      · refine lv_iload hx hb dX6_part_20 (lv_at hl 4 rfl) ?_
        refine lv_aload_n hx hb dX6_part_22 rfl (lv_at hl 0 rfl) ?_
        refine xg_f hx hb hts hown X h6 0 wlR_0 rfl 2 (by decide) (by decide +kernel) (v := .ref (bd 2)) rfl dX6_part_23 ?_
        refine lv_iload_n hx hb dX6_part_26 rfl (lv_at hl 2 rfl) ?_
        refine xa_iald hx hb X 2 wlR_2 dX6_part_27 hf (fun v5 hf => ?_)
        refine xr_icmp_le (tgt := 35) hx hb dX6_part_28 rfl hf (fun hf => ?_) (fun hf => ?_)
        · refine lv_iconst (v := (0 : Int32)) hx hb dX6_part_35 rfl ?_
          exact w36 x1 x2 x3 x4 (0 : Int32) v1.2 ce sz hf _ _ _ X (lv_sub hl [0, 1, 2, 3, 4] rfl)
        · exact w31 x1 x2 x3 x4 v1.2 ce sz hf _ _ _ X (lv_sub hl [0, 1, 2, 3, 4] rfl)
set_option maxRecDepth 100000 in
set_option maxHeartbeats 4000000 in
theorem mX6_turn {l : Launch} {dd : va_G} {cy : Nat → ClassId} {bd : Nat → Nat} {A : Nat → Prop} {fu : Nat} {th : Int32} {ce : Nat → Int32} {sz : Nat → Int32} {wy : Nat → Int64} {op : Nat → Int32} {x1 : Int32} {x2 : Int32} {x3 : Int32} {rv : Int32} {tho : Int32} {ceo : Nat → Int32} {szo : Nat → Int32} (hf : fX6_turn fu th ce sz x1 x2 x3 = some (rv, tho, ceo, szo)) : Met l yX6_turn wsX6_turn { frames := 3, cells := 0, slots := 0, locals := 68 } (va_Pc [.ref (bd 0), .int x1, .int x2, .int x3] (IW dd cy A (wlR bd cy th ce sz wy op))) (QX dd cy A (some (.int rv)) (wlR bd cy tho ceo szo wy op)) 0 0 A := by
  refine Met.ofW (cc := cX6_turn) (maxL := 4) (ret := some .int) (by decide) rfl ?_
  intro p e s m args below meth c s₁ B hml hv
  obtain ⟨hav, hI⟩ := hv
  have hx := B.exec
  have hb := B.bytes
  have hr := B.returns
  have hts := atoms_spec (ws := wsX6_turn) B.pre
  have hown : s.vm.findClass RX6 = some m.cls := findClass_of_methodNamed B.named
  have hlocks := B.notSynchronized
  have X := XW.of hI
  have h6 : ∀ w ∈ wsX60, w ∈ wsX6_turn := by decide +kernel
  refine xe_in hav (Nat.le_of_ble_eq_true rfl) rfl (fun ls hl => ?_)
  have w31 : ∀ (y1 : Int32) (y2 : Int32) (y3 : Int32) (s0 : Int32) (th : Int32) (ce : Nat → Int32) (sz : Nat → Int32), fX6_turn_31 fu y1 y2 y3 s0 th ce sz = some (rv, tho, ceo, szo) → ∀ (H : Heap) (locs : List Loc) (ls : Array Slot), XW dd cy A s (wlR bd cy th ce sz wy op) H locs → lv_has ls 4 [(0, .ref (bd 0)), (1, .int y1), (2, .int y2), (3, .int y3)] → W p l e (headSpec wsX6_turn { frames := 3, cells := 0, slots := 0, locals := 68 }).room s m args below meth c H locs 0 0 (MQ below (QX dd cy A (some (.int rv)) (wlR bd cy tho ceo szo wy op)) args s 0 0 A) (F0 m 31 ls [.int s0, .ref (bd 0)]) := by
    intro y1 y2 y3 s0 th ce sz hf H locs ls X hl
    rw [fX6_turn_31] at hf
    refine lv_iconst (v := (1 : Int32)) hx hb dX6_turn_31 rfl ?_
    refine xb hf (fun v4 hv hf => ?_)
    refine xc_V1 (rest := []) ⟨hx, hb, hml, hown, hts⟩ (mX6_isThrown hv) (cwV 2 hts gX6_turn_X6_isThrown rfl rfl rfl hqX6_isThrown ⟨Nat.le_of_ble_eq_true rfl, Nat.le_of_ble_eq_true rfl⟩) X (va_recv X.1 X.2.1 (ci := 4) (q0 := 0) rfl wlR_0) rfl hl.1 rfl (Nat.le_of_ble_eq_true rfl) dX6_turn_32 ⟨Nat.zero_le _, Nat.zero_le _⟩ (fun H locs X => ?_)
    refine xr_if_eq (tgt := 40) hx hb dX6_turn_35 rfl hf (fun hf => ?_) (fun hf => ?_)
    · refine lv_aload_n hx hb dX6_turn_40 rfl (lv_at hl 0 rfl) ?_
      refine lv_iload_n hx hb dX6_turn_41 rfl (lv_at hl 2 rfl) ?_
      refine lv_iload_n hx hb dX6_turn_42 rfl (lv_at hl 3 rfl) ?_
      refine lv_sipush (v := (360 : Int32)) hx hb dX6_turn_43 rfl ?_
      refine xb hf (fun v5 hv hf => ?_)
      refine xc_V0 (rest := []) ⟨hx, hb, hml, hown, hts⟩ (mX6_turns hv) (cwV 3 hts gX6_turn_X6_turns rfl rfl rfl hqX6_turns ⟨Nat.le_of_ble_eq_true rfl, Nat.le_of_ble_eq_true rfl⟩) X (va_recv X.1 X.2.1 (ci := 4) (q0 := 0) rfl wlR_0) rfl hl.1 rfl (Nat.le_of_ble_eq_true rfl) dX6_turn_46 ⟨Nat.zero_le _, Nat.zero_le _⟩ (fun H locs X => ?_)
      refine lv_aload_n hx hb dX6_turn_49 rfl (lv_at hl 0 rfl) ?_
      refine lv_iload_n hx hb dX6_turn_50 rfl (lv_at hl 1 rfl) ?_
      refine lv_sipush (v := (360 : Int32)) hx hb dX6_turn_51 rfl ?_
      refine lv_aload_n hx hb dX6_turn_54 rfl (lv_at hl 0 rfl) ?_
      refine xg_f hx hb hts hown X h6 0 wlR_0 rfl 2 (by decide) (by decide +kernel) (v := .ref (bd 2)) rfl dX6_turn_55 ?_
      refine lv_iload_n hx hb dX6_turn_58 rfl (lv_at hl 2 rfl) ?_
      refine xa_iald hx hb X 2 wlR_2 dX6_turn_59 hf (fun v6 hf => ?_)
      refine xb hf (fun v7 hv hf => ?_)
      refine xc_V1 (rest := []) ⟨hx, hb, hml, hown, hts⟩ (mX6_become hv) (cwV 3 hts gX6_turn_X6_become rfl rfl rfl hqX6_become ⟨Nat.le_of_ble_eq_true rfl, Nat.le_of_ble_eq_true rfl⟩) X (va_recv X.1 X.2.1 (ci := 4) (q0 := 0) rfl wlR_0) rfl hl.1 rfl (Nat.le_of_ble_eq_true rfl) dX6_turn_60 ⟨Nat.zero_le _, Nat.zero_le _⟩ (fun H locs X => ?_)
      cases hf
      exact xe_i hx hb hr hlocks X dX6_turn_63
    · refine lv_iconst (v := (0 : Int32)) hx hb dX6_turn_38 rfl ?_
      cases hf
      exact xe_i hx hb hr hlocks X dX6_turn_39
  rw [fX6_turn] at hf
  refine lv_aload_n hx hb dX6_turn_0 rfl (lv_at hl 0 rfl) ?_
  refine lv_iload_n hx hb dX6_turn_1 rfl (lv_at hl 1 rfl) ?_
  refine lv_iload_n hx hb dX6_turn_2 rfl (lv_at hl 2 rfl) ?_
  refine xb hf (fun v1 hv hf => ?_)
  refine xc_V1 (rest := []) ⟨hx, hb, hml, hown, hts⟩ (mX6_isNoOf hv) (cwV 2 hts gX6_turn_X6_isNoOf rfl rfl rfl hqX6_isNoOf ⟨Nat.le_of_ble_eq_true rfl, Nat.le_of_ble_eq_true rfl⟩) X (va_recv X.1 X.2.1 (ci := 4) (q0 := 0) rfl wlR_0) rfl hl.1 rfl (Nat.le_of_ble_eq_true rfl) dX6_turn_3 ⟨Nat.zero_le _, Nat.zero_le _⟩ (fun H locs X => ?_)
  refine xr_if_ne (tgt := 38) hx hb dX6_turn_6 rfl hf (fun hf => ?_) (fun hf => ?_)
  · refine lv_iconst (v := (0 : Int32)) hx hb dX6_turn_38 rfl ?_
    cases hf
    exact xe_i hx hb hr hlocks X dX6_turn_39
  · refine lv_aload_n hx hb dX6_turn_9 rfl (lv_at hl 0 rfl) ?_
    refine lv_iload_n hx hb dX6_turn_10 rfl (lv_at hl 3 rfl) ?_
    refine lv_i2l (v := (x3.toInt64)) hx hb dX6_turn_11 rfl ?_
    refine lv_lconst (v := (0 : Int64)) hx hb dX6_turn_12 rfl ?_
    refine lv_aload_n hx hb dX6_turn_13 rfl (lv_at hl 0 rfl) ?_
    refine xg_f hx hb hts hown X h6 0 wlR_0 rfl 2 (by decide) (by decide +kernel) (v := .ref (bd 2)) rfl dX6_turn_14 ?_
    refine lv_iload_n hx hb dX6_turn_17 rfl (lv_at hl 2 rfl) ?_
    refine xa_iald hx hb X 2 wlR_2 dX6_turn_18 hf (fun v2 hf => ?_)
    refine lv_i2l (v := (v2.toInt64)) hx hb dX6_turn_19 rfl ?_
    refine xb hf (fun v3 hv hf => ?_)
    refine xc_S1 (rest := [.ref (bd 0)]) ⟨hx, hb, hml, hown, hts⟩ (mX6_isIn hv) (va_cwS 3 hts gX6_turn_X6_isIn rfl rfl rfl hqX6_isIn ⟨Nat.le_of_ble_eq_true rfl, Nat.le_of_ble_eq_true rfl⟩) X rfl hl.1 rfl (Nat.le_of_ble_eq_true rfl) dX6_turn_20 ⟨Nat.zero_le _, Nat.zero_le _⟩ (fun H locs X => ?_)
    refine xr_if_ne (tgt := 30) hx hb dX6_turn_23 rfl hf (fun hf => ?_) (fun hf => ?_)
    · refine lv_iconst (v := (0 : Int32)) hx hb dX6_turn_30 rfl ?_
      exact w31 x1 x2 x3 (0 : Int32) v1.2 ce sz hf _ _ _ X (lv_sub hl [0, 1, 2, 3] rfl)
    · refine lv_iconst (v := (1 : Int32)) hx hb dX6_turn_26 rfl ?_
      refine lv_goto (tgt := 31) hx hb dX6_turn_27 rfl ?_
      exact w31 x1 x2 x3 (1 : Int32) v1.2 ce sz hf _ _ _ X (lv_sub hl [0, 1, 2, 3] rfl)
set_option maxRecDepth 100000 in
set_option maxHeartbeats 4000000 in
theorem mX6_back {l : Launch} {dd : va_G} {cy : Nat → ClassId} {bd : Nat → Nat} {A : Nat → Prop} {fu : Nat} {th : Int32} {ce : Nat → Int32} {sz : Nat → Int32} {wy : Nat → Int64} {op : Nat → Int32} {x1 : Int32} {x2 : Int32} {rv : Int32} {tho : Int32} {ceo : Nat → Int32} {szo : Nat → Int32} (hf : fX6_back fu th ce sz x1 x2 = some (rv, tho, ceo, szo)) : Met l yX6_back wsX6_back { frames := 3, cells := 0, slots := 0, locals := 68 } (va_Pc [.ref (bd 0), .int x1, .int x2] (IW dd cy A (wlR bd cy th ce sz wy op))) (QX dd cy A (some (.int rv)) (wlR bd cy tho ceo szo wy op)) 0 0 A := by
  refine Met.ofW (cc := cX6_back) (maxL := 3) (ret := some .int) (by decide) rfl ?_
  intro p e s m args below meth c s₁ B hml hv
  obtain ⟨hav, hI⟩ := hv
  have hx := B.exec
  have hb := B.bytes
  have hr := B.returns
  have hts := atoms_spec (ws := wsX6_back) B.pre
  have hown : s.vm.findClass RX6 = some m.cls := findClass_of_methodNamed B.named
  have hlocks := B.notSynchronized
  have X := XW.of hI
  have h6 : ∀ w ∈ wsX60, w ∈ wsX6_back := by decide +kernel
  refine xe_in hav (Nat.le_of_ble_eq_true rfl) rfl (fun ls hl => ?_)
  rw [fX6_back] at hf
  refine lv_aload_n hx hb dX6_back_0 rfl (lv_at hl 0 rfl) ?_
  refine lv_iload_n hx hb dX6_back_1 rfl (lv_at hl 1 rfl) ?_
  refine lv_iload_n hx hb dX6_back_2 rfl (lv_at hl 2 rfl) ?_
  refine xb hf (fun v1 hv hf => ?_)
  refine xc_V1 (rest := []) ⟨hx, hb, hml, hown, hts⟩ (mX6_isNoOf hv) (cwV 2 hts gX6_back_X6_isNoOf rfl rfl rfl hqX6_isNoOf ⟨Nat.le_of_ble_eq_true rfl, Nat.le_of_ble_eq_true rfl⟩) X (va_recv X.1 X.2.1 (ci := 4) (q0 := 0) rfl wlR_0) rfl hl.1 rfl (Nat.le_of_ble_eq_true rfl) dX6_back_3 ⟨Nat.zero_le _, Nat.zero_le _⟩ (fun H locs X => ?_)
  refine xr_if_eq (tgt := 11) hx hb dX6_back_6 rfl hf (fun hf => ?_) (fun hf => ?_)
  · refine lv_aload_n hx hb dX6_back_11 rfl (lv_at hl 0 rfl) ?_
    refine lv_iload_n hx hb dX6_back_12 rfl (lv_at hl 2 rfl) ?_
    refine lv_sipush (v := (360 : Int32)) hx hb dX6_back_13 rfl ?_
    refine xb hf (fun v2 hv hf => ?_)
    refine xc_V0 (rest := []) ⟨hx, hb, hml, hown, hts⟩ (mX6_laysBack hv) (cwV 2 hts gX6_back_X6_laysBack rfl rfl rfl hqX6_laysBack ⟨Nat.le_of_ble_eq_true rfl, Nat.le_of_ble_eq_true rfl⟩) X (va_recv X.1 X.2.1 (ci := 4) (q0 := 0) rfl wlR_0) rfl hl.1 rfl (Nat.le_of_ble_eq_true rfl) dX6_back_16 ⟨Nat.zero_le _, Nat.zero_le _⟩ (fun H locs X => ?_)
    refine lv_aload_n hx hb dX6_back_19 rfl (lv_at hl 0 rfl) ?_
    refine lv_iload_n hx hb dX6_back_20 rfl (lv_at hl 1 rfl) ?_
    refine lv_sipush (v := (360 : Int32)) hx hb dX6_back_21 rfl ?_
    refine lv_aload_n hx hb dX6_back_24 rfl (lv_at hl 0 rfl) ?_
    refine xg_f hx hb hts hown X h6 0 wlR_0 rfl 2 (by decide) (by decide +kernel) (v := .ref (bd 2)) rfl dX6_back_25 ?_
    refine lv_iload_n hx hb dX6_back_28 rfl (lv_at hl 2 rfl) ?_
    refine xa_iald hx hb X 2 wlR_2 dX6_back_29 hf (fun v3 hf => ?_)
    refine xb hf (fun v4 hv hf => ?_)
    refine xc_V1 (rest := []) ⟨hx, hb, hml, hown, hts⟩ (mX6_become hv) (cwV 3 hts gX6_back_X6_become rfl rfl rfl hqX6_become ⟨Nat.le_of_ble_eq_true rfl, Nat.le_of_ble_eq_true rfl⟩) X (va_recv X.1 X.2.1 (ci := 4) (q0 := 0) rfl wlR_0) rfl hl.1 rfl (Nat.le_of_ble_eq_true rfl) dX6_back_30 ⟨Nat.zero_le _, Nat.zero_le _⟩ (fun H locs X => ?_)
    cases hf
    exact xe_i hx hb hr hlocks X dX6_back_33
  · refine lv_iconst (v := (0 : Int32)) hx hb dX6_back_9 rfl ?_
    cases hf
    exact xe_i hx hb hr hlocks X dX6_back_10
set_option maxRecDepth 100000 in
set_option maxHeartbeats 4000000 in
theorem mX6_counted {l : Launch} {dd : va_G} {cy : Nat → ClassId} {bd : Nat → Nat} {A : Nat → Prop} {fu : Nat} {th : Int32} {ce : Nat → Int32} {sz : Nat → Int32} {wy : Nat → Int64} {op : Nat → Int32} {x1 : Int32} {x2 : Int32} {x3 : Int32} {x4 : Int32} {rv : Int32} (hf : fX6_counted fu ce sz x1 x2 x3 x4 = some rv) : Met l yX6_counted wsX6_counted { frames := 1, cells := 0, slots := 0, locals := 27 } (va_Pc [.ref (bd 0), .int x1, .int x2, .int x3, .int x4] (IW dd cy A (wlR bd cy th ce sz wy op))) (QX dd cy A (some (.int rv)) (wlR bd cy th ce sz wy op)) 0 0 A := by
  refine Met.ofW (cc := cX6_counted) (maxL := 8) (ret := some .int) (by decide) rfl ?_
  intro p e s m args below meth c s₁ B hml hv
  obtain ⟨hav, hI⟩ := hv
  have hx := B.exec
  have hb := B.bytes
  have hr := B.returns
  have hts := atoms_spec (ws := wsX6_counted) B.pre
  have hown : s.vm.findClass RX6 = some m.cls := findClass_of_methodNamed B.named
  have hlocks := B.notSynchronized
  have X := XW.of hI
  have h6 : ∀ w ∈ wsX60, w ∈ wsX6_counted := by decide +kernel
  refine xe_in hav (Nat.le_of_ble_eq_true rfl) rfl (fun ls hl => ?_)
  have w49 : ∀ (y1 : Int32) (y2 : Int32) (y3 : Int32) (y4 : Int32) (y6 : Int32) (y7 : Int32) (k6 : Int32 → Int32 → Option (Int32)) (hk6 : ∀ (zy5 : Int32) (zy6 : Int32), k6 zy5 zy6 = some rv → ∀ (H : Heap) (locs : List Loc) (ls : Array Slot), XW dd cy A s (wlR bd cy th ce sz wy op) H locs → lv_has ls 8 [(0, .ref (bd 0)), (1, .int y1), (2, .int y2), (3, .int y3), (4, .int y4), (5, .int zy5), (6, .int zy6)] → W p l e (headSpec wsX6_counted { frames := 1, cells := 0, slots := 0, locals := 27 }).room s m args below meth c H locs 0 0 (MQ below (QX dd cy A (some (.int rv)) (wlR bd cy th ce sz wy op)) args s 0 0 A) (F0 m 6 ls [])) (s0 : Int32) (s1 : Int32), fX6_counted_49 fu ce sz y1 y2 y3 y4 y6 y7 k6 s0 s1 = some rv → ∀ (H : Heap) (locs : List Loc) (ls : Array Slot), XW dd cy A s (wlR bd cy th ce sz wy op) H locs → lv_has ls 8 [(0, .ref (bd 0)), (1, .int y1), (2, .int y2), (3, .int y3), (4, .int y4), (6, .int y6), (7, .int y7)] → W p l e (headSpec wsX6_counted { frames := 1, cells := 0, slots := 0, locals := 27 }).room s m args below meth c H locs 0 0 (MQ below (QX dd cy A (some (.int rv)) (wlR bd cy th ce sz wy op)) args s 0 0 A) (F0 m 49 ls [.int s0, .int s1]) := by
    intro y1 y2 y3 y4 y6 y7 k6 hk6 s0 s1 hf H locs ls X hl
    rw [fX6_counted_49] at hf
    refine lv_iadd hx hb dX6_counted_49 ?_
    refine lv_istore (lv' := [(5, .int (s1 + s0)), (0, .ref (bd 0)), (1, .int y1), (2, .int y2), (3, .int y3), (4, .int y4), (6, .int y6), (7, .int y7)]) hx hb dX6_counted_50 hl (by decide) rfl (fun ls hl => ?_)
    refine lv_iload hx hb dX6_counted_52 (lv_at hl 6 rfl) ?_
    refine lv_iload hx hb dX6_counted_54 (lv_at hl 7 rfl) ?_
    refine xr_if_eq (tgt := 68) hx hb dX6_counted_56 rfl hf (fun hf => ?_) (fun hf => ?_)
    · refine lv_iconst (v := (1 : Int32)) hx hb dX6_counted_68 rfl ?_
      refine lv_iadd hx hb dX6_counted_69 ?_
      refine lv_istore (lv' := [(6, .int (y6 + (1 : Int32))), (5, .int (s1 + s0)), (0, .ref (bd 0)), (1, .int y1), (2, .int y2), (3, .int y3), (4, .int y4), (7, .int y7)]) hx hb dX6_counted_70 hl (by decide) rfl (fun ls hl => ?_)
      refine lv_goto (tgt := 6) hx hb dX6_counted_72 rfl ?_
      exact hk6 (s1 + s0) (y6 + (1 : Int32)) hf _ _ _ X (lv_sub hl [2, 3, 4, 5, 6, 1, 0] rfl)
    · refine lv_iload hx hb dX6_counted_59 (lv_at hl 5 rfl) ?_
      refine xr_if_eq (tgt := 68) hx hb dX6_counted_61 rfl hf (fun hf => ?_) (fun hf => ?_)
      · refine lv_iconst (v := (1 : Int32)) hx hb dX6_counted_68 rfl ?_
        refine lv_iadd hx hb dX6_counted_69 ?_
        refine lv_istore (lv' := [(6, .int (y6 + (1 : Int32))), (5, .int (s1 + s0)), (0, .ref (bd 0)), (1, .int y1), (2, .int y2), (3, .int y3), (4, .int y4), (7, .int y7)]) hx hb dX6_counted_70 hl (by decide) rfl (fun ls hl => ?_)
        refine lv_goto (tgt := 6) hx hb dX6_counted_72 rfl ?_
        exact hk6 (s1 + s0) (y6 + (1 : Int32)) hf _ _ _ X (lv_sub hl [2, 3, 4, 5, 6, 1, 0] rfl)
      · refine lv_iload_n hx hb dX6_counted_64 rfl (lv_at hl 4 rfl) ?_
        refine lv_goto (tgt := 69) hx hb dX6_counted_65 rfl ?_
        refine lv_iadd hx hb dX6_counted_69 ?_
        refine lv_istore (lv' := [(6, .int (y6 + y3)), (5, .int (s1 + s0)), (0, .ref (bd 0)), (1, .int y1), (2, .int y2), (3, .int y3), (4, .int y4), (7, .int y7)]) hx hb dX6_counted_70 hl (by decide) rfl (fun ls hl => ?_)
        refine lv_goto (tgt := 6) hx hb dX6_counted_72 rfl ?_
        exact hk6 (s1 + s0) (y6 + y3) hf _ _ _ X (lv_sub hl [2, 3, 4, 5, 6, 1, 0] rfl)
  have w6 : ∀ (y1 : Int32) (y2 : Int32) (y3 : Int32) (y4 : Int32) (n : Nat) (y5 : Int32) (y6 : Int32), fX6_counted_6 fu ce sz y1 y2 y3 y4 n y5 y6 = some rv → ∀ (H : Heap) (locs : List Loc) (ls : Array Slot), XW dd cy A s (wlR bd cy th ce sz wy op) H locs → lv_has ls 8 [(0, .ref (bd 0)), (1, .int y1), (2, .int y2), (3, .int y3), (4, .int y4), (5, .int y5), (6, .int y6)] → W p l e (headSpec wsX6_counted { frames := 1, cells := 0, slots := 0, locals := 27 }).room s m args below meth c H locs 0 0 (MQ below (QX dd cy A (some (.int rv)) (wlR bd cy th ce sz wy op)) args s 0 0 A) (F0 m 6 ls []) := by
    intro y1 y2 y3 y4 n
    induction n with
    | zero => intro y5 y6 hf; exact absurd hf (by simp [fX6_counted_6])
    | succ n ih =>
      intro y5 y6 hf H locs ls X hl
      rw [fX6_counted_6] at hf
      refine lv_iload hx hb dX6_counted_6 (lv_at hl 6 rfl) ?_
      refine lv_aload_n hx hb dX6_counted_8 rfl (lv_at hl 0 rfl) ?_
      refine xg_f hx hb hts hown X h6 0 wlR_0 rfl 2 (by decide) (by decide +kernel) (v := .ref (bd 2)) rfl dX6_counted_9 ?_
      refine lv_iload_n hx hb dX6_counted_12 rfl (lv_at hl 1 rfl) ?_
      refine xa_iald hx hb X 2 wlR_2 dX6_counted_13 hf (fun v1 hf => ?_)
      refine xr_icmp_ge (tgt := 75) hx hb dX6_counted_14 rfl hf (fun hf => ?_) (fun hf => ?_)
      · refine lv_iload hx hb dX6_counted_75 (lv_at hl 5 rfl) ?_
        cases hf
        exact xe_i hx hb hr hlocks X dX6_counted_77
      · refine lv_aload_n hx hb dX6_counted_17 rfl (lv_at hl 0 rfl) ?_
        refine lv_iload_n hx hb dX6_counted_18 rfl (lv_at hl 1 rfl) ?_
        refine xb hf (fun v2 hv hf => ?_)
        refine xc_S1 (rest := [.ref (bd 0)]) ⟨hx, hb, hml, hown, hts⟩ (mX6_baseOf hv) (va_cwS 1 hts gX6_counted_X6_baseOf rfl rfl rfl hqX6_baseOf ⟨Nat.le_of_ble_eq_true rfl, Nat.le_of_ble_eq_true rfl⟩) X rfl hl.1 rfl (Nat.le_of_ble_eq_true rfl) dX6_counted_19 ⟨Nat.zero_le _, Nat.zero_le _⟩ (fun H locs X => ?_)
        refine lv_aload_n hx hb dX6_counted_22 rfl (lv_at hl 0 rfl) ?_
        refine xg_f hx hb hts hown X h6 0 wlR_0 rfl 2 (by decide) (by decide +kernel) (v := .ref (bd 2)) rfl dX6_counted_23 ?_
        refine lv_iload_n hx hb dX6_counted_26 rfl (lv_at hl 1 rfl) ?_
        refine xa_iald hx hb X 2 wlR_2 dX6_counted_27 hf (fun v3 hf => ?_)
        refine lv_iload_n hx hb dX6_counted_28 rfl (lv_at hl 2 rfl) ?_
        refine lv_iload_n hx hb dX6_counted_29 rfl (lv_at hl 3 rfl) ?_
        refine lv_iload hx hb dX6_counted_30 (lv_at hl 6 rfl) ?_
        refine xb hf (fun v4 hv hf => ?_)
        refine xc_V1 (rest := []) ⟨hx, hb, hml, hown, hts⟩ (mX6_standsAt hv) (cwV 5 hts gX6_counted_X6_standsAt rfl rfl rfl hqX6_standsAt ⟨Nat.le_of_ble_eq_true rfl, Nat.le_of_ble_eq_true rfl⟩) X (va_recv X.1 X.2.1 (ci := 4) (q0 := 0) rfl wlR_0) rfl hl.1 rfl (Nat.le_of_ble_eq_true rfl) dX6_counted_32 ⟨Nat.zero_le _, Nat.zero_le _⟩ (fun H locs X => ?_)
        refine lv_istore (lv' := [(7, .int v4), (0, .ref (bd 0)), (1, .int y1), (2, .int y2), (3, .int y3), (4, .int y4), (5, .int y5), (6, .int y6)]) hx hb dX6_counted_35 hl (by decide) rfl (fun ls hl => ?_)
        refine lv_iload hx hb dX6_counted_37 (lv_at hl 6 rfl) ?_
        refine lv_iload hx hb dX6_counted_39 (lv_at hl 0 rfl) ?_
        refine xr_if_eq (tgt := 48) hx hb dX6_counted_41 rfl hf (fun hf => ?_) (fun hf => ?_)
        · refine lv_iconst (v := (0 : Int32)) hx hb dX6_counted_48 rfl ?_
          exact w49 y1 y2 y3 y4 y6 v4 _ ih (0 : Int32) y5 hf _ _ _ X (lv_sub hl [1, 2, 3, 4, 5, 7, 0] rfl)
        · refine lv_iconst (v := (1 : Int32)) hx hb dX6_counted_44 rfl ?_
          refine lv_goto (tgt := 49) hx hb dX6_counted_45 rfl ?_
          exact w49 y1 y2 y3 y4 y6 v4 _ ih (1 : Int32) y5 hf _ _ _ X (lv_sub hl [1, 2, 3, 4, 5, 7, 0] rfl)
  rw [fX6_counted] at hf
  refine lv_iconst (v := (0 : Int32)) hx hb dX6_counted_0 rfl ?_
  refine lv_istore (lv' := [(5, .int (0 : Int32)), (0, .ref (bd 0)), (1, .int x1), (2, .int x2), (3, .int x3), (4, .int x4)]) hx hb dX6_counted_1 hl (by decide) rfl (fun ls hl => ?_)
  refine lv_iconst (v := (0 : Int32)) hx hb dX6_counted_3 rfl ?_
  refine lv_istore (lv' := [(6, .int (0 : Int32)), (5, .int (0 : Int32)), (0, .ref (bd 0)), (1, .int x1), (2, .int x2), (3, .int x3), (4, .int x4)]) hx hb dX6_counted_4 hl (by decide) rfl (fun ls hl => ?_)
  exact w6 x1 x2 x3 x4 fu (0 : Int32) (0 : Int32) hf _ _ _ X (lv_sub hl [2, 3, 4, 5, 6, 1, 0] rfl)
set_option maxRecDepth 100000 in
set_option maxHeartbeats 4000000 in
theorem mX6_put {l : Launch} {dd : va_G} {cy : Nat → ClassId} {bd : Nat → Nat} {A : Nat → Prop} {fu : Nat} {th : Int32} {ce : Nat → Int32} {sz : Nat → Int32} {wy : Nat → Int64} {op : Nat → Int32} {x1 : Int32} {x2 : Int32} {x3 : Int32} {x4 : Int32} {rv : Int32} {tho : Int32} {ceo : Nat → Int32} {szo : Nat → Int32} (hf : fX6_put fu th ce sz x1 x2 x3 x4 = some (rv, tho, ceo, szo)) : Met l yX6_put wsX6_put { frames := 3, cells := 0, slots := 0, locals := 69 } (va_Pc [.ref (bd 0), .int x1, .int x2, .int x3, .int x4] (IW dd cy A (wlR bd cy th ce sz wy op))) (QX dd cy A (some (.int rv)) (wlR bd cy tho ceo szo wy op)) 0 0 A := by
  refine Met.ofW (cc := cX6_put) (maxL := 10) (ret := some .int) (by decide) rfl ?_
  intro p e s m args below meth c s₁ B hml hv
  obtain ⟨hav, hI⟩ := hv
  have hx := B.exec
  have hb := B.bytes
  have hr := B.returns
  have hts := atoms_spec (ws := wsX6_put) B.pre
  have hown : s.vm.findClass RX6 = some m.cls := findClass_of_methodNamed B.named
  have hlocks := B.notSynchronized
  have X := XW.of hI
  have h6 : ∀ w ∈ wsX60, w ∈ wsX6_put := by decide +kernel
  refine xe_in hav (Nat.le_of_ble_eq_true rfl) rfl (fun ls hl => ?_)
  have w191 : ∀ (y1 : Int32) (y2 : Int32) (y3 : Int32) (y4 : Int32) (y5 : Int32) (y6 : Int32) (y7 : Int32) (y8 : Int32) (y9 : Int32) (k113 : Int32 → Int32 → Int32 → (Nat → Int32) → (Nat → Int32) → Option (Int32 × Int32 × (Nat → Int32) × (Nat → Int32))) (hk113 : ∀ (zy6 : Int32) (zy7 : Int32) (zth : Int32) (zce : Nat → Int32) (zsz : Nat → Int32), k113 zy6 zy7 zth zce zsz = some (rv, tho, ceo, szo) → ∀ (H : Heap) (locs : List Loc) (ls : Array Slot), XW dd cy A s (wlR bd cy zth zce zsz wy op) H locs → lv_has ls 10 [(0, .ref (bd 0)), (1, .int y1), (2, .int y2), (3, .int y3), (4, .int y4), (5, .int y5), (6, .int zy6), (7, .int zy7)] → W p l e (headSpec wsX6_put { frames := 3, cells := 0, slots := 0, locals := 69 }).room s m args below meth c H locs 0 0 (MQ below (QX dd cy A (some (.int rv)) (wlR bd cy tho ceo szo wy op)) args s 0 0 A) (F0 m 113 ls [])) (s0 : Int32) (th : Int32) (ce : Nat → Int32) (sz : Nat → Int32), fX6_put_191 fu y1 y2 y3 y4 y5 y6 y7 y8 y9 k113 s0 th ce sz = some (rv, tho, ceo, szo) → ∀ (H : Heap) (locs : List Loc) (ls : Array Slot), XW dd cy A s (wlR bd cy th ce sz wy op) H locs → lv_has ls 10 [(0, .ref (bd 0)), (1, .int y1), (2, .int y2), (3, .int y3), (4, .int y4), (5, .int y5), (6, .int y6), (7, .int y7), (8, .int y8), (9, .int y9)] → W p l e (headSpec wsX6_put { frames := 3, cells := 0, slots := 0, locals := 69 }).room s m args below meth c H locs 0 0 (MQ below (QX dd cy A (some (.int rv)) (wlR bd cy tho ceo szo wy op)) args s 0 0 A) (F0 m 191 ls [.int s0, .ref (bd 0)]) := by
    intro y1 y2 y3 y4 y5 y6 y7 y8 y9 k113 hk113 s0 th ce sz hf H locs ls X hl
    rw [fX6_put_191] at hf
    refine lv_iload hx hb dX6_put_191 (lv_at hl 9 rfl) ?_
    refine lv_iload hx hb dX6_put_193 (lv_at hl 6 rfl) ?_
    refine xb hf (fun v20 hv hf => ?_)
    refine xc_V0 (rest := []) ⟨hx, hb, hml, hown, hts⟩ (mX6_copy hv) (cwV 3 hts gX6_put_X6_copy rfl rfl rfl hqX6_copy ⟨Nat.le_of_ble_eq_true rfl, Nat.le_of_ble_eq_true rfl⟩) X (va_recv X.1 X.2.1 (ci := 4) (q0 := 0) rfl wlR_0) rfl hl.1 rfl (Nat.le_of_ble_eq_true rfl) dX6_put_195 ⟨Nat.zero_le _, Nat.zero_le _⟩ (fun H locs X => ?_)
    refine lv_iload hx hb dX6_put_198 (lv_at hl 6 rfl) ?_
    refine lv_iload hx hb dX6_put_200 (lv_at hl 9 rfl) ?_
    refine lv_iadd hx hb dX6_put_202 ?_
    refine lv_istore (lv' := [(6, .int (y6 + y9)), (0, .ref (bd 0)), (1, .int y1), (2, .int y2), (3, .int y3), (4, .int y4), (5, .int y5), (7, .int y7), (8, .int y8), (9, .int y9)]) hx hb dX6_put_203 hl (by decide) rfl (fun ls hl => ?_)
    refine lv_iload hx hb dX6_put_205 (lv_at hl 7 rfl) ?_
    refine lv_iload hx hb dX6_put_207 (lv_at hl 8 rfl) ?_
    refine xr_if_eq (tgt := 221) hx hb dX6_put_209 rfl hf (fun hf => ?_) (fun hf => ?_)
    · refine lv_iconst (v := (1 : Int32)) hx hb dX6_put_221 rfl ?_
      refine lv_iadd hx hb dX6_put_222 ?_
      refine lv_istore (lv' := [(7, .int (y7 + (1 : Int32))), (6, .int (y6 + y9)), (0, .ref (bd 0)), (1, .int y1), (2, .int y2), (3, .int y3), (4, .int y4), (5, .int y5), (8, .int y8), (9, .int y9)]) hx hb dX6_put_223 hl (by decide) rfl (fun ls hl => ?_)
      refine lv_goto (tgt := 113) hx hb dX6_put_225 rfl ?_
      exact hk113 (y6 + y9) (y7 + (1 : Int32)) th v20 sz hf _ _ _ X (lv_sub hl [2, 3, 4, 5, 6, 7, 1, 0] rfl)
    · refine lv_aload_n hx hb dX6_put_212 rfl (lv_at hl 1 rfl) ?_
      refine xg_f hx hb hts hown X h6 0 wlR_0 rfl 2 (by decide) (by decide +kernel) (v := .ref (bd 2)) rfl dX6_put_213 ?_
      refine lv_iload_n hx hb dX6_put_216 rfl (lv_at hl 4 rfl) ?_
      refine xa_iald hx hb X 2 wlR_2 dX6_put_217 hf (fun v21 hf => ?_)
      refine lv_goto (tgt := 222) hx hb dX6_put_218 rfl ?_
      refine lv_iadd hx hb dX6_put_222 ?_
      refine lv_istore (lv' := [(7, .int (y7 + v21)), (6, .int (y6 + y9)), (0, .ref (bd 0)), (1, .int y1), (2, .int y2), (3, .int y3), (4, .int y4), (5, .int y5), (8, .int y8), (9, .int y9)]) hx hb dX6_put_223 hl (by decide) rfl (fun ls hl => ?_)
      refine lv_goto (tgt := 113) hx hb dX6_put_225 rfl ?_
      exact hk113 (y6 + y9) (y7 + v21) th v20 sz hf _ _ _ X (lv_sub hl [2, 3, 4, 5, 6, 7, 1, 0] rfl)
  have w168 : ∀ (y1 : Int32) (y2 : Int32) (y3 : Int32) (y4 : Int32) (y5 : Int32) (y6 : Int32) (y7 : Int32) (y8 : Int32) (k113 : Int32 → Int32 → Int32 → (Nat → Int32) → (Nat → Int32) → Option (Int32 × Int32 × (Nat → Int32) × (Nat → Int32))) (hk113 : ∀ (zy6 : Int32) (zy7 : Int32) (zth : Int32) (zce : Nat → Int32) (zsz : Nat → Int32), k113 zy6 zy7 zth zce zsz = some (rv, tho, ceo, szo) → ∀ (H : Heap) (locs : List Loc) (ls : Array Slot), XW dd cy A s (wlR bd cy zth zce zsz wy op) H locs → lv_has ls 10 [(0, .ref (bd 0)), (1, .int y1), (2, .int y2), (3, .int y3), (4, .int y4), (5, .int y5), (6, .int zy6), (7, .int zy7)] → W p l e (headSpec wsX6_put { frames := 3, cells := 0, slots := 0, locals := 69 }).room s m args below meth c H locs 0 0 (MQ below (QX dd cy A (some (.int rv)) (wlR bd cy tho ceo szo wy op)) args s 0 0 A) (F0 m 113 ls [])) (s0 : Int32) (th : Int32) (ce : Nat → Int32) (sz : Nat → Int32), fX6_put_168 fu y1 y2 y3 y4 y5 y6 y7 y8 k113 s0 th ce sz = some (rv, tho, ceo, szo) → ∀ (H : Heap) (locs : List Loc) (ls : Array Slot), XW dd cy A s (wlR bd cy th ce sz wy op) H locs → lv_has ls 10 [(0, .ref (bd 0)), (1, .int y1), (2, .int y2), (3, .int y3), (4, .int y4), (5, .int y5), (6, .int y6), (7, .int y7), (8, .int y8)] → W p l e (headSpec wsX6_put { frames := 3, cells := 0, slots := 0, locals := 69 }).room s m args below meth c H locs 0 0 (MQ below (QX dd cy A (some (.int rv)) (wlR bd cy tho ceo szo wy op)) args s 0 0 A) (F0 m 168 ls [.int s0]) := by
    intro y1 y2 y3 y4 y5 y6 y7 y8 k113 hk113 s0 th ce sz hf H locs ls X hl
    rw [fX6_put_168] at hf
    refine lv_istore (lv' := [(9, .int s0), (0, .ref (bd 0)), (1, .int y1), (2, .int y2), (3, .int y3), (4, .int y4), (5, .int y5), (6, .int y6), (7, .int y7), (8, .int y8)]) hx hb dX6_put_168 hl (by decide) rfl (fun ls hl => ?_)
    refine lv_aload_n hx hb dX6_put_170 rfl (lv_at hl 1 rfl) ?_
    refine lv_iload hx hb dX6_put_171 (lv_at hl 9 rfl) ?_
    refine xr_if_eq (tgt := 184) hx hb dX6_put_173 rfl hf (fun hf => ?_) (fun hf => ?_)
    · refine lv_iload_n hx hb dX6_put_184 rfl (lv_at hl 3 rfl) ?_
      refine xb hf (fun v19 hv hf => ?_)
      refine xc_S1 (rest := [.ref (bd 0)]) ⟨hx, hb, hml, hown, hts⟩ (mX6_baseOf hv) (va_cwS 1 hts gX6_put_X6_baseOf rfl rfl rfl hqX6_baseOf ⟨Nat.le_of_ble_eq_true rfl, Nat.le_of_ble_eq_true rfl⟩) X rfl hl.1 rfl (Nat.le_of_ble_eq_true rfl) dX6_put_185 ⟨Nat.zero_le _, Nat.zero_le _⟩ (fun H locs X => ?_)
      refine lv_iload hx hb dX6_put_188 (lv_at hl 8 rfl) ?_
      refine lv_iadd hx hb dX6_put_190 ?_
      exact w191 y1 y2 y3 y4 y5 y6 y7 y8 s0 _ hk113 (v19 + y7) th ce sz hf _ _ _ X (lv_sub hl [1, 2, 3, 4, 5, 6, 7, 8, 9, 0] rfl)
    · refine lv_iload hx hb dX6_put_176 (lv_at hl 5 rfl) ?_
      refine xb hf (fun v22 hv hf => ?_)
      refine xc_S1 (rest := [.ref (bd 0)]) ⟨hx, hb, hml, hown, hts⟩ (mX6_baseOf hv) (va_cwS 1 hts gX6_put_X6_baseOf rfl rfl rfl hqX6_baseOf ⟨Nat.le_of_ble_eq_true rfl, Nat.le_of_ble_eq_true rfl⟩) X rfl hl.1 rfl (Nat.le_of_ble_eq_true rfl) dX6_put_178 ⟨Nat.zero_le _, Nat.zero_le _⟩ (fun H locs X => ?_)
      refine lv_goto (tgt := 191) hx hb dX6_put_181 rfl ?_
      exact w191 y1 y2 y3 y4 y5 y6 y7 y8 s0 _ hk113 v22 th ce sz hf _ _ _ X (lv_sub hl [1, 2, 3, 4, 5, 6, 7, 8, 9, 0] rfl)
  have w113 : ∀ (y1 : Int32) (y2 : Int32) (y3 : Int32) (y4 : Int32) (y5 : Int32) (n : Nat) (y6 : Int32) (y7 : Int32) (th : Int32) (ce : Nat → Int32) (sz : Nat → Int32), fX6_put_113 fu y1 y2 y3 y4 y5 n y6 y7 th ce sz = some (rv, tho, ceo, szo) → ∀ (H : Heap) (locs : List Loc) (ls : Array Slot), XW dd cy A s (wlR bd cy th ce sz wy op) H locs → lv_has ls 10 [(0, .ref (bd 0)), (1, .int y1), (2, .int y2), (3, .int y3), (4, .int y4), (5, .int y5), (6, .int y6), (7, .int y7)] → W p l e (headSpec wsX6_put { frames := 3, cells := 0, slots := 0, locals := 69 }).room s m args below meth c H locs 0 0 (MQ below (QX dd cy A (some (.int rv)) (wlR bd cy tho ceo szo wy op)) args s 0 0 A) (F0 m 113 ls []) := by
    intro y1 y2 y3 y4 y5 n
    induction n with
    | zero => intro y6 y7 th ce sz hf; exact absurd hf (by simp [fX6_put_113])
    | succ n ih =>
      intro y6 y7 th ce sz hf H locs ls X hl
      rw [fX6_put_113] at hf
      refine lv_iload hx hb dX6_put_113 (lv_at hl 7 rfl) ?_
      refine lv_aload_n hx hb dX6_put_115 rfl (lv_at hl 0 rfl) ?_
      refine xg_f hx hb hts hown X h6 0 wlR_0 rfl 2 (by decide) (by decide +kernel) (v := .ref (bd 2)) rfl dX6_put_116 ?_
      refine lv_iload_n hx hb dX6_put_119 rfl (lv_at hl 2 rfl) ?_
      refine xa_iald hx hb X 2 wlR_2 dX6_put_120 hf (fun v12 hf => ?_)
      refine xr_icmp_ge (tgt := 228) hx hb dX6_put_121 rfl hf (fun hf => ?_) (fun hf => ?_)
      · refine lv_aload_n hx hb dX6_put_228 rfl (lv_at hl 0 rfl) ?_
        refine lv_iload_n hx hb dX6_put_229 rfl (lv_at hl 1 rfl) ?_
        refine lv_sipush (v := (360 : Int32)) hx hb dX6_put_230 rfl ?_
        refine lv_iload hx hb dX6_put_233 (lv_at hl 5 rfl) ?_
        refine xb hf (fun v13 hv hf => ?_)
        refine xc_V1 (rest := []) ⟨hx, hb, hml, hown, hts⟩ (mX6_become hv) (cwV 3 hts gX6_put_X6_become rfl rfl rfl hqX6_become ⟨Nat.le_of_ble_eq_true rfl, Nat.le_of_ble_eq_true rfl⟩) X (va_recv X.1 X.2.1 (ci := 4) (q0 := 0) rfl wlR_0) rfl hl.1 rfl (Nat.le_of_ble_eq_true rfl) dX6_put_235 ⟨Nat.zero_le _, Nat.zero_le _⟩ (fun H locs X => ?_)
        cases hf
        exact xe_i hx hb hr hlocks X dX6_put_238
      · refine lv_aload_n hx hb dX6_put_124 rfl (lv_at hl 0 rfl) ?_
        refine lv_iload_n hx hb dX6_put_125 rfl (lv_at hl 2 rfl) ?_
        refine xb hf (fun v14 hv hf => ?_)
        refine xc_S1 (rest := [.ref (bd 0)]) ⟨hx, hb, hml, hown, hts⟩ (mX6_baseOf hv) (va_cwS 1 hts gX6_put_X6_baseOf rfl rfl rfl hqX6_baseOf ⟨Nat.le_of_ble_eq_true rfl, Nat.le_of_ble_eq_true rfl⟩) X rfl hl.1 rfl (Nat.le_of_ble_eq_true rfl) dX6_put_126 ⟨Nat.zero_le _, Nat.zero_le _⟩ (fun H locs X => ?_)
        refine lv_aload_n hx hb dX6_put_129 rfl (lv_at hl 0 rfl) ?_
        refine xg_f hx hb hts hown X h6 0 wlR_0 rfl 2 (by decide) (by decide +kernel) (v := .ref (bd 2)) rfl dX6_put_130 ?_
        refine lv_iload_n hx hb dX6_put_133 rfl (lv_at hl 2 rfl) ?_
        refine xa_iald hx hb X 2 wlR_2 dX6_put_134 hf (fun v15 hf => ?_)
        refine lv_iload_n hx hb dX6_put_135 rfl (lv_at hl 3 rfl) ?_
        refine xb hf (fun v16 hv hf => ?_)
        refine xc_S1 (rest := [.int v15, .int v14, .ref (bd 0)]) ⟨hx, hb, hml, hown, hts⟩ (mX6_baseOf hv) (va_cwS 1 hts gX6_put_X6_baseOf rfl rfl rfl hqX6_baseOf ⟨Nat.le_of_ble_eq_true rfl, Nat.le_of_ble_eq_true rfl⟩) X rfl hl.1 rfl (Nat.le_of_ble_eq_true rfl) dX6_put_136 ⟨Nat.zero_le _, Nat.zero_le _⟩ (fun H locs X => ?_)
        refine lv_aload_n hx hb dX6_put_139 rfl (lv_at hl 0 rfl) ?_
        refine xg_f hx hb hts hown X h6 0 wlR_0 rfl 2 (by decide) (by decide +kernel) (v := .ref (bd 2)) rfl dX6_put_140 ?_
        refine lv_iload_n hx hb dX6_put_143 rfl (lv_at hl 3 rfl) ?_
        refine xa_iald hx hb X 2 wlR_2 dX6_put_144 hf (fun v17 hf => ?_)
        refine lv_iload hx hb dX6_put_145 (lv_at hl 7 rfl) ?_
        refine xb hf (fun v18 hv hf => ?_)
        refine xc_V1 (rest := []) ⟨hx, hb, hml, hown, hts⟩ (mX6_standsAt hv) (cwV 5 hts gX6_put_X6_standsAt rfl rfl rfl hqX6_standsAt ⟨Nat.le_of_ble_eq_true rfl, Nat.le_of_ble_eq_true rfl⟩) X (va_recv X.1 X.2.1 (ci := 4) (q0 := 0) rfl wlR_0) rfl hl.1 rfl (Nat.le_of_ble_eq_true rfl) dX6_put_147 ⟨Nat.zero_le _, Nat.zero_le _⟩ (fun H locs X => ?_)
        refine lv_istore (lv' := [(8, .int v18), (0, .ref (bd 0)), (1, .int y1), (2, .int y2), (3, .int y3), (4, .int y4), (5, .int y5), (6, .int y6), (7, .int y7)]) hx hb dX6_put_150 hl (by decide) rfl (fun ls hl => ?_)
        refine lv_iload hx hb dX6_put_152 (lv_at hl 0 rfl) ?_
        refine xr_if_eq (tgt := 167) hx hb dX6_put_154 rfl hf (fun hf => ?_) (fun hf => ?_)
        · refine lv_iconst (v := (1 : Int32)) hx hb dX6_put_167 rfl ?_
          exact w168 y1 y2 y3 y4 y5 y6 y7 v18 _ ih (1 : Int32) th ce sz hf _ _ _ X (lv_sub hl [1, 2, 3, 4, 5, 6, 7, 8, 0] rfl)
        · refine lv_aload_n hx hb dX6_put_157 rfl (lv_at hl 1 rfl) ?_
          refine xg_f hx hb hts hown X h6 0 wlR_0 rfl 2 (by decide) (by decide +kernel) (v := .ref (bd 2)) rfl dX6_put_158 ?_
          refine lv_iload hx hb dX6_put_161 (lv_at hl 5 rfl) ?_
          refine xa_iald hx hb X 2 wlR_2 dX6_put_163 hf (fun v23 hf => ?_)
          refine lv_goto (tgt := 168) hx hb dX6_put_164 rfl ?_
          exact w168 y1 y2 y3 y4 y5 y6 y7 v18 _ ih v23 th ce sz hf _ _ _ X (lv_sub hl [1, 2, 3, 4, 5, 6, 7, 8, 0] rfl)
  have w96 : ∀ (y1 : Int32) (y2 : Int32) (y3 : Int32) (y4 : Int32) (y5 : Int32) (s0 : Int32) (th : Int32) (ce : Nat → Int32) (sz : Nat → Int32), fX6_put_96 fu y1 y2 y3 y4 y5 s0 th ce sz = some (rv, tho, ceo, szo) → ∀ (H : Heap) (locs : List Loc) (ls : Array Slot), XW dd cy A s (wlR bd cy th ce sz wy op) H locs → lv_has ls 10 [(0, .ref (bd 0)), (1, .int y1), (2, .int y2), (3, .int y3), (4, .int y4), (5, .int y5)] → W p l e (headSpec wsX6_put { frames := 3, cells := 0, slots := 0, locals := 69 }).room s m args below meth c H locs 0 0 (MQ below (QX dd cy A (some (.int rv)) (wlR bd cy tho ceo szo wy op)) args s 0 0 A) (F0 m 96 ls [.int s0, .ref (bd 0)]) := by
    intro y1 y2 y3 y4 y5 s0 th ce sz hf H locs ls X hl
    rw [fX6_put_96] at hf
    refine lv_iconst (v := (3 : Int32)) hx hb dX6_put_96 rfl ?_
    refine xb hf (fun v11 hv hf => ?_)
    refine xc_V1 (rest := []) ⟨hx, hb, hml, hown, hts⟩ (mX6_isThrown hv) (cwV 2 hts gX6_put_X6_isThrown rfl rfl rfl hqX6_isThrown ⟨Nat.le_of_ble_eq_true rfl, Nat.le_of_ble_eq_true rfl⟩) X (va_recv X.1 X.2.1 (ci := 4) (q0 := 0) rfl wlR_0) rfl hl.1 rfl (Nat.le_of_ble_eq_true rfl) dX6_put_97 ⟨Nat.zero_le _, Nat.zero_le _⟩ (fun H locs X => ?_)
    refine xr_if_eq (tgt := 105) hx hb dX6_put_100 rfl hf (fun hf => ?_) (fun hf => ?_)
    · refine lv_sipush (v := (360 : Int32)) hx hb dX6_put_105 rfl ?_
      refine lv_istore (lv' := [(6, .int (360 : Int32)), (0, .ref (bd 0)), (1, .int y1), (2, .int y2), (3, .int y3), (4, .int y4), (5, .int y5)]) hx hb dX6_put_108 hl (by decide) rfl (fun ls hl => ?_)
      refine lv_iconst (v := (0 : Int32)) hx hb dX6_put_110 rfl ?_
      refine lv_istore (lv' := [(7, .int (0 : Int32)), (6, .int (360 : Int32)), (0, .ref (bd 0)), (1, .int y1), (2, .int y2), (3, .int y3), (4, .int y4), (5, .int y5)]) hx hb dX6_put_111 hl (by decide) rfl (fun ls hl => ?_)
      exact w113 y1 y2 y3 y4 y5 fu (360 : Int32) (0 : Int32) v11.2 ce sz hf _ _ _ X (lv_sub hl [2, 3, 4, 5, 6, 7, 1, 0] rfl)
    · refine lv_iconst (v := (0 : Int32)) hx hb dX6_put_103 rfl ?_
      cases hf
      exact xe_i hx hb hr hlocks X dX6_put_104
  have w34 : ∀ (y1 : Int32) (y2 : Int32) (y3 : Int32) (y4 : Int32) (s0 : Int32) (th : Int32) (ce : Nat → Int32) (sz : Nat → Int32), fX6_put_34 fu y1 y2 y3 y4 s0 th ce sz = some (rv, tho, ceo, szo) → ∀ (H : Heap) (locs : List Loc) (ls : Array Slot), XW dd cy A s (wlR bd cy th ce sz wy op) H locs → lv_has ls 10 [(0, .ref (bd 0)), (1, .int y1), (2, .int y2), (3, .int y3), (4, .int y4)] → W p l e (headSpec wsX6_put { frames := 3, cells := 0, slots := 0, locals := 69 }).room s m args below meth c H locs 0 0 (MQ below (QX dd cy A (some (.int rv)) (wlR bd cy tho ceo szo wy op)) args s 0 0 A) (F0 m 34 ls [.int s0, .ref (bd 0)]) := by
    intro y1 y2 y3 y4 s0 th ce sz hf H locs ls X hl
    rw [fX6_put_34] at hf
    refine lv_iconst (v := (2 : Int32)) hx hb dX6_put_34 rfl ?_
    refine xb hf (fun v4 hv hf => ?_)
    refine xc_V1 (rest := []) ⟨hx, hb, hml, hown, hts⟩ (mX6_isThrown hv) (cwV 2 hts gX6_put_X6_isThrown rfl rfl rfl hqX6_isThrown ⟨Nat.le_of_ble_eq_true rfl, Nat.le_of_ble_eq_true rfl⟩) X (va_recv X.1 X.2.1 (ci := 4) (q0 := 0) rfl wlR_0) rfl hl.1 rfl (Nat.le_of_ble_eq_true rfl) dX6_put_35 ⟨Nat.zero_le _, Nat.zero_le _⟩ (fun H locs X => ?_)
    refine xr_if_eq (tgt := 43) hx hb dX6_put_38 rfl hf (fun hf => ?_) (fun hf => ?_)
    · refine lv_aload_n hx hb dX6_put_43 rfl (lv_at hl 0 rfl) ?_
      refine xg_f hx hb hts hown X h6 0 wlR_0 rfl 2 (by decide) (by decide +kernel) (v := .ref (bd 2)) rfl dX6_put_44 ?_
      refine lv_iload_n hx hb dX6_put_47 rfl (lv_at hl 2 rfl) ?_
      refine xa_iald hx hb X 2 wlR_2 dX6_put_48 hf (fun v5 hf => ?_)
      refine lv_aload_n hx hb dX6_put_49 rfl (lv_at hl 0 rfl) ?_
      refine lv_iload_n hx hb dX6_put_50 rfl (lv_at hl 2 rfl) ?_
      refine lv_iload_n hx hb dX6_put_51 rfl (lv_at hl 3 rfl) ?_
      refine xb hf (fun v6 hv hf => ?_)
      refine xc_S1 (rest := [.int y2, .ref (bd 0), .int v5]) ⟨hx, hb, hml, hown, hts⟩ (mX6_baseOf hv) (va_cwS 1 hts gX6_put_X6_baseOf rfl rfl rfl hqX6_baseOf ⟨Nat.le_of_ble_eq_true rfl, Nat.le_of_ble_eq_true rfl⟩) X rfl hl.1 rfl (Nat.le_of_ble_eq_true rfl) dX6_put_52 ⟨Nat.zero_le _, Nat.zero_le _⟩ (fun H locs X => ?_)
      refine lv_aload_n hx hb dX6_put_55 rfl (lv_at hl 0 rfl) ?_
      refine xg_f hx hb hts hown X h6 0 wlR_0 rfl 2 (by decide) (by decide +kernel) (v := .ref (bd 2)) rfl dX6_put_56 ?_
      refine lv_iload_n hx hb dX6_put_59 rfl (lv_at hl 3 rfl) ?_
      refine xa_iald hx hb X 2 wlR_2 dX6_put_60 hf (fun v7 hf => ?_)
      refine lv_iconst (v := (1 : Int32)) hx hb dX6_put_61 rfl ?_
      refine xb hf (fun v8 hv hf => ?_)
      refine xc_V1 (rest := [.int v5]) ⟨hx, hb, hml, hown, hts⟩ (mX6_counted hv) (cwV 4 hts gX6_put_X6_counted rfl rfl rfl hqX6_counted ⟨Nat.le_of_ble_eq_true rfl, Nat.le_of_ble_eq_true rfl⟩) X (va_recv X.1 X.2.1 (ci := 4) (q0 := 0) rfl wlR_0) rfl hl.1 rfl (Nat.le_of_ble_eq_true rfl) dX6_put_62 ⟨Nat.zero_le _, Nat.zero_le _⟩ (fun H locs X => ?_)
      refine lv_aload_n hx hb dX6_put_65 rfl (lv_at hl 0 rfl) ?_
      refine xg_f hx hb hts hown X h6 0 wlR_0 rfl 2 (by decide) (by decide +kernel) (v := .ref (bd 2)) rfl dX6_put_66 ?_
      refine lv_iload hx hb dX6_put_69 (lv_at hl 4 rfl) ?_
      refine xa_iald hx hb X 2 wlR_2 dX6_put_71 hf (fun v9 hf => ?_)
      refine lv_aload_n hx hb dX6_put_72 rfl (lv_at hl 0 rfl) ?_
      refine xg_f hx hb hts hown X h6 0 wlR_0 rfl 2 (by decide) (by decide +kernel) (v := .ref (bd 2)) rfl dX6_put_73 ?_
      refine lv_iload_n hx hb dX6_put_76 rfl (lv_at hl 3 rfl) ?_
      refine xa_iald hx hb X 2 wlR_2 dX6_put_77 hf (fun v10 hf => ?_)
      refine lv_isub hx hb dX6_put_78 ?_
      refine lv_imul hx hb dX6_put_79 ?_
      refine lv_iadd hx hb dX6_put_80 ?_
      refine lv_istore (lv' := [(5, .int (v5 + (v8 * (v9 - v10)))), (0, .ref (bd 0)), (1, .int y1), (2, .int y2), (3, .int y3), (4, .int y4)]) hx hb dX6_put_81 hl (by decide) rfl (fun ls hl => ?_)
      refine lv_aload_n hx hb dX6_put_83 rfl (lv_at hl 1 rfl) ?_
      refine lv_iload hx hb dX6_put_84 (lv_at hl 0 rfl) ?_
      refine lv_bipush (v := (60 : Int32)) hx hb dX6_put_86 rfl ?_
      refine xr_icmp_le (tgt := 95) hx hb dX6_put_88 rfl hf (fun hf => ?_) (fun hf => ?_)
      · refine lv_iconst (v := (0 : Int32)) hx hb dX6_put_95 rfl ?_
        exact w96 y1 y2 y3 y4 (v5 + (v8 * (v9 - v10))) (0 : Int32) v4.2 ce sz hf _ _ _ X (lv_sub hl [1, 2, 3, 4, 5, 0] rfl)
      · refine lv_iconst (v := (1 : Int32)) hx hb dX6_put_91 rfl ?_
        refine lv_goto (tgt := 96) hx hb dX6_put_92 rfl ?_
        exact w96 y1 y2 y3 y4 (v5 + (v8 * (v9 - v10))) (1 : Int32) v4.2 ce sz hf _ _ _ X (lv_sub hl [1, 2, 3, 4, 5, 0] rfl)
    · refine lv_iconst (v := (0 : Int32)) hx hb dX6_put_41 rfl ?_
      cases hf
      exact xe_i hx hb hr hlocks X dX6_put_42
  rw [fX6_put] at hf
  refine lv_aload_n hx hb dX6_put_0 rfl (lv_at hl 0 rfl) ?_
  refine lv_iload_n hx hb dX6_put_1 rfl (lv_at hl 1 rfl) ?_
  refine lv_iload_n hx hb dX6_put_2 rfl (lv_at hl 2 rfl) ?_
  refine lv_iload_n hx hb dX6_put_3 rfl (lv_at hl 3 rfl) ?_
  refine xb hf (fun v1 hv hf => ?_)
  refine xc_V1 (rest := []) ⟨hx, hb, hml, hown, hts⟩ (mX6_isNoOfAll hv) (cwV 3 hts gX6_put_X6_isNoOfAll rfl rfl rfl hqX6_isNoOfAll ⟨Nat.le_of_ble_eq_true rfl, Nat.le_of_ble_eq_true rfl⟩) X (va_recv X.1 X.2.1 (ci := 4) (q0 := 0) rfl wlR_0) rfl hl.1 rfl (Nat.le_of_ble_eq_true rfl) dX6_put_4 ⟨Nat.zero_le _, Nat.zero_le _⟩ (fun H locs X => ?_)
  refine xr_if_ne (tgt := 41) hx hb dX6_put_7 rfl hf (fun hf => ?_) (fun hf => ?_)
  · refine lv_iconst (v := (0 : Int32)) hx hb dX6_put_41 rfl ?_
    cases hf
    exact xe_i hx hb hr hlocks X dX6_put_42
  · refine lv_aload_n hx hb dX6_put_10 rfl (lv_at hl 0 rfl) ?_
    refine lv_iload hx hb dX6_put_11 (lv_at hl 4 rfl) ?_
    refine xb hf (fun v2 hv hf => ?_)
    refine xc_V1 (rest := []) ⟨hx, hb, hml, hown, hts⟩ (mX6_isNo hv) (cwV 1 hts gX6_put_X6_isNo rfl rfl rfl hqX6_isNo ⟨Nat.le_of_ble_eq_true rfl, Nat.le_of_ble_eq_true rfl⟩) X (va_recv X.1 X.2.1 (ci := 4) (q0 := 0) rfl wlR_0) rfl hl.1 rfl (Nat.le_of_ble_eq_true rfl) dX6_put_13 ⟨Nat.zero_le _, Nat.zero_le _⟩ (fun H locs X => ?_)
    refine xr_if_ne (tgt := 41) hx hb dX6_put_16 rfl hf (fun hf => ?_) (fun hf => ?_)
    · refine lv_iconst (v := (0 : Int32)) hx hb dX6_put_41 rfl ?_
      cases hf
      exact xe_i hx hb hr hlocks X dX6_put_42
    · refine lv_aload_n hx hb dX6_put_19 rfl (lv_at hl 0 rfl) ?_
      refine lv_aload_n hx hb dX6_put_20 rfl (lv_at hl 0 rfl) ?_
      refine xg_f hx hb hts hown X h6 0 wlR_0 rfl 2 (by decide) (by decide +kernel) (v := .ref (bd 2)) rfl dX6_put_21 ?_
      refine lv_iload_n hx hb dX6_put_24 rfl (lv_at hl 3 rfl) ?_
      refine xa_iald hx hb X 2 wlR_2 dX6_put_25 hf (fun v3 hf => ?_)
      refine xr_if_ne (tgt := 33) hx hb dX6_put_26 rfl hf (fun hf => ?_) (fun hf => ?_)
      · refine lv_iconst (v := (0 : Int32)) hx hb dX6_put_33 rfl ?_
        exact w34 x1 x2 x3 x4 (0 : Int32) v2.2 ce sz hf _ _ _ X (lv_sub hl [0, 1, 2, 3, 4] rfl)
      · refine lv_iconst (v := (1 : Int32)) hx hb dX6_put_29 rfl ?_
        refine lv_goto (tgt := 34) hx hb dX6_put_30 rfl ?_
        exact w34 x1 x2 x3 x4 (1 : Int32) v2.2 ce sz hf _ _ _ X (lv_sub hl [0, 1, 2, 3, 4] rfl)
set_option maxRecDepth 100000 in
set_option maxHeartbeats 4000000 in
theorem mX6_first {l : Launch} {dd : va_G} {cy : Nat → ClassId} {bd : Nat → Nat} {A : Nat → Prop} {fu : Nat} {th : Int32} {ce : Nat → Int32} {sz : Nat → Int32} {wy : Nat → Int64} {op : Nat → Int32} {x1 : Int32} {x2 : Int32} {x3 : Int32} {rv : Int32} {tho : Int32} (hf : fX6_first fu th ce sz x1 x2 x3 = some (rv, tho)) : Met l yX6_first wsX6_first { frames := 3, cells := 0, slots := 0, locals := 68 } (va_Pc [.ref (bd 0), .int x1, .int x2, .int x3] (IW dd cy A (wlR bd cy th ce sz wy op))) (QX dd cy A (some (.int rv)) (wlR bd cy tho ce sz wy op)) 0 0 A := by
  refine Met.ofW (cc := cX6_first) (maxL := 5) (ret := some .int) (by decide) rfl ?_
  intro p e s m args below meth c s₁ B hml hv
  obtain ⟨hav, hI⟩ := hv
  have hx := B.exec
  have hb := B.bytes
  have hr := B.returns
  have hts := atoms_spec (ws := wsX6_first) B.pre
  have hown : s.vm.findClass RX6 = some m.cls := findClass_of_methodNamed B.named
  have hlocks := B.notSynchronized
  have X := XW.of hI
  have h6 : ∀ w ∈ wsX60, w ∈ wsX6_first := by decide +kernel
  refine xe_in hav (Nat.le_of_ble_eq_true rfl) rfl (fun ls hl => ?_)
  have w87 : ∀ (y1 : Int32) (y4 : Int32) (th : Int32), fX6_first_87 fu ce sz y1 y4 th = some (rv, tho) → ∀ (H : Heap) (locs : List Loc) (ls : Array Slot), XW dd cy A s (wlR bd cy th ce sz wy op) H locs → lv_has ls 5 [(0, .ref (bd 0)), (1, .int y1), (4, .int y4)] → W p l e (headSpec wsX6_first { frames := 3, cells := 0, slots := 0, locals := 68 }).room s m args below meth c H locs 0 0 (MQ below (QX dd cy A (some (.int rv)) (wlR bd cy tho ce sz wy op)) args s 0 0 A) (F0 m 87 ls []) := by
    intro y1 y4 th hf H locs ls X hl
    rw [fX6_first_87] at hf
    refine lv_iload hx hb dX6_first_87 (lv_at hl 2 rfl) ?_
    refine lv_aload_n hx hb dX6_first_89 rfl (lv_at hl 0 rfl) ?_
    refine xg_f hx hb hts hown X h6 0 wlR_0 rfl 2 (by decide) (by decide +kernel) (v := .ref (bd 2)) rfl dX6_first_90 ?_
    refine lv_iload_n hx hb dX6_first_93 rfl (lv_at hl 1 rfl) ?_
    refine xa_iald hx hb X 2 wlR_2 dX6_first_94 hf (fun v4 hf => ?_)
    refine xr_icmp_le (tgt := 102) hx hb dX6_first_95 rfl hf (fun hf => ?_) (fun hf => ?_)
    · refine lv_iload hx hb dX6_first_102 (lv_at hl 2 rfl) ?_
      cases hf
      exact xe_i hx hb hr hlocks X dX6_first_104
    · refine lv_iconst (v := (-1 : Int32)) hx hb dX6_first_98 rfl ?_
      refine lv_goto (tgt := 104) hx hb dX6_first_99 rfl ?_
      cases hf
      exact xe_i hx hb hr hlocks X dX6_first_104
  have w41 : ∀ (y1 : Int32) (y2 : Int32) (n : Nat) (y4 : Int32) (th : Int32), fX6_first_41 fu ce sz y1 y2 n y4 th = some (rv, tho) → ∀ (H : Heap) (locs : List Loc) (ls : Array Slot), XW dd cy A s (wlR bd cy th ce sz wy op) H locs → lv_has ls 5 [(0, .ref (bd 0)), (1, .int y1), (2, .int y2), (4, .int y4)] → W p l e (headSpec wsX6_first { frames := 3, cells := 0, slots := 0, locals := 68 }).room s m args below meth c H locs 0 0 (MQ below (QX dd cy A (some (.int rv)) (wlR bd cy tho ce sz wy op)) args s 0 0 A) (F0 m 41 ls []) := by
    intro y1 y2 n
    induction n with
    | zero => intro y4 th hf; exact absurd hf (by simp [fX6_first_41])
    | succ n ih =>
      intro y4 th hf H locs ls X hl
      rw [fX6_first_41] at hf
      refine lv_iload hx hb dX6_first_41 (lv_at hl 3 rfl) ?_
      refine lv_aload_n hx hb dX6_first_43 rfl (lv_at hl 0 rfl) ?_
      refine xg_f hx hb hts hown X h6 0 wlR_0 rfl 2 (by decide) (by decide +kernel) (v := .ref (bd 2)) rfl dX6_first_44 ?_
      refine lv_iload_n hx hb dX6_first_47 rfl (lv_at hl 1 rfl) ?_
      refine xa_iald hx hb X 2 wlR_2 dX6_first_48 hf (fun v3 hf => ?_)
      refine xr_icmp_gt (tgt := 87) hx hb dX6_first_49 rfl hf (fun hf => ?_) (fun hf => ?_)
      · exact w87 y1 y4 th hf _ _ _ X (lv_sub hl [0, 1, 3] rfl)
      · refine lv_aload_n hx hb dX6_first_52 rfl (lv_at hl 0 rfl) ?_
        refine lv_iload_n hx hb dX6_first_53 rfl (lv_at hl 1 rfl) ?_
        refine xb hf (fun v5 hv hf => ?_)
        refine xc_S1 (rest := [.ref (bd 0)]) ⟨hx, hb, hml, hown, hts⟩ (mX6_baseOf hv) (va_cwS 1 hts gX6_first_X6_baseOf rfl rfl rfl hqX6_baseOf ⟨Nat.le_of_ble_eq_true rfl, Nat.le_of_ble_eq_true rfl⟩) X rfl hl.1 rfl (Nat.le_of_ble_eq_true rfl) dX6_first_54 ⟨Nat.zero_le _, Nat.zero_le _⟩ (fun H locs X => ?_)
        refine lv_aload_n hx hb dX6_first_57 rfl (lv_at hl 0 rfl) ?_
        refine xg_f hx hb hts hown X h6 0 wlR_0 rfl 2 (by decide) (by decide +kernel) (v := .ref (bd 2)) rfl dX6_first_58 ?_
        refine lv_iload_n hx hb dX6_first_61 rfl (lv_at hl 1 rfl) ?_
        refine xa_iald hx hb X 2 wlR_2 dX6_first_62 hf (fun v6 hf => ?_)
        refine lv_iload_n hx hb dX6_first_63 rfl (lv_at hl 2 rfl) ?_
        refine xb hf (fun v7 hv hf => ?_)
        refine xc_S1 (rest := [.int v6, .int v5, .ref (bd 0)]) ⟨hx, hb, hml, hown, hts⟩ (mX6_baseOf hv) (va_cwS 1 hts gX6_first_X6_baseOf rfl rfl rfl hqX6_baseOf ⟨Nat.le_of_ble_eq_true rfl, Nat.le_of_ble_eq_true rfl⟩) X rfl hl.1 rfl (Nat.le_of_ble_eq_true rfl) dX6_first_64 ⟨Nat.zero_le _, Nat.zero_le _⟩ (fun H locs X => ?_)
        refine lv_aload_n hx hb dX6_first_67 rfl (lv_at hl 0 rfl) ?_
        refine xg_f hx hb hts hown X h6 0 wlR_0 rfl 2 (by decide) (by decide +kernel) (v := .ref (bd 2)) rfl dX6_first_68 ?_
        refine lv_iload_n hx hb dX6_first_71 rfl (lv_at hl 2 rfl) ?_
        refine xa_iald hx hb X 2 wlR_2 dX6_first_72 hf (fun v8 hf => ?_)
        refine lv_iload hx hb dX6_first_73 (lv_at hl 3 rfl) ?_
        refine xb hf (fun v9 hv hf => ?_)
        refine xc_V1 (rest := []) ⟨hx, hb, hml, hown, hts⟩ (mX6_standsAt hv) (cwV 5 hts gX6_first_X6_standsAt rfl rfl rfl hqX6_standsAt ⟨Nat.le_of_ble_eq_true rfl, Nat.le_of_ble_eq_true rfl⟩) X (va_recv X.1 X.2.1 (ci := 4) (q0 := 0) rfl wlR_0) rfl hl.1 rfl (Nat.le_of_ble_eq_true rfl) dX6_first_75 ⟨Nat.zero_le _, Nat.zero_le _⟩ (fun H locs X => ?_)
        refine xr_if_ne (tgt := 87) hx hb dX6_first_78 rfl hf (fun hf => ?_) (fun hf => ?_)
        · exact w87 y1 y4 th hf _ _ _ X (lv_sub hl [0, 1, 3] rfl)
        · refine lv_iinc (v := (y4 + 1)) (lv' := [(4, .int (y4 + 1)), (0, .ref (bd 0)), (1, .int y1), (2, .int y2)]) hx hb dX6_first_81 hl (k := 3) rfl ii_1 (by decide) rfl (fun ls hl => ?_)
          refine lv_goto (tgt := 41) hx hb dX6_first_84 rfl ?_
          exact ih (y4 + 1) th hf _ _ _ X (lv_sub hl [1, 2, 3, 0] rfl)
  rw [fX6_first] at hf
  refine lv_aload_n hx hb dX6_first_0 rfl (lv_at hl 0 rfl) ?_
  refine lv_iload_n hx hb dX6_first_1 rfl (lv_at hl 1 rfl) ?_
  refine lv_iload_n hx hb dX6_first_2 rfl (lv_at hl 2 rfl) ?_
  refine xb hf (fun v1 hv hf => ?_)
  refine xc_V1 (rest := []) ⟨hx, hb, hml, hown, hts⟩ (mX6_isNoOf hv) (cwV 2 hts gX6_first_X6_isNoOf rfl rfl rfl hqX6_isNoOf ⟨Nat.le_of_ble_eq_true rfl, Nat.le_of_ble_eq_true rfl⟩) X (va_recv X.1 X.2.1 (ci := 4) (q0 := 0) rfl wlR_0) rfl hl.1 rfl (Nat.le_of_ble_eq_true rfl) dX6_first_3 ⟨Nat.zero_le _, Nat.zero_le _⟩ (fun H locs X => ?_)
  refine xr_if_eq (tgt := 11) hx hb dX6_first_6 rfl hf (fun hf => ?_) (fun hf => ?_)
  · refine lv_iload_n hx hb dX6_first_11 rfl (lv_at hl 3 rfl) ?_
    refine xr_if_ge (tgt := 19) hx hb dX6_first_12 rfl hf (fun hf => ?_) (fun hf => ?_)
    · refine lv_iload_n hx hb dX6_first_19 rfl (lv_at hl 3 rfl) ?_
      refine lv_aload_n hx hb dX6_first_20 rfl (lv_at hl 0 rfl) ?_
      refine xg_f hx hb hts hown X h6 0 wlR_0 rfl 2 (by decide) (by decide +kernel) (v := .ref (bd 2)) rfl dX6_first_21 ?_
      refine lv_iload_n hx hb dX6_first_24 rfl (lv_at hl 1 rfl) ?_
      refine xa_iald hx hb X 2 wlR_2 dX6_first_25 hf (fun v2 hf => ?_)
      refine xr_icmp_le (tgt := 38) hx hb dX6_first_26 rfl hf (fun hf => ?_) (fun hf => ?_)
      · refine lv_iload_n hx hb dX6_first_38 rfl (lv_at hl 3 rfl) ?_
        refine lv_istore (lv' := [(4, .int x3), (0, .ref (bd 0)), (1, .int x1), (2, .int x2), (3, .int x3)]) hx hb dX6_first_39 hl (by decide) rfl (fun ls hl => ?_)
        exact w41 x1 x2 fu x3 v1.2 hf _ _ _ X (lv_sub hl [1, 2, 3, 0] rfl)
      · refine lv_aload_n hx hb dX6_first_29 rfl (lv_at hl 0 rfl) ?_
        refine xg_f hx hb hts hown X h6 0 wlR_0 rfl 2 (by decide) (by decide +kernel) (v := .ref (bd 2)) rfl dX6_first_30 ?_
        refine lv_iload_n hx hb dX6_first_33 rfl (lv_at hl 1 rfl) ?_
        refine xa_iald hx hb X 2 wlR_2 dX6_first_34 hf (fun v10 hf => ?_)
        refine lv_goto (tgt := 39) hx hb dX6_first_35 rfl ?_
        refine lv_istore (lv' := [(4, .int v10), (0, .ref (bd 0)), (1, .int x1), (2, .int x2), (3, .int x3)]) hx hb dX6_first_39 hl (by decide) rfl (fun ls hl => ?_)
        exact w41 x1 x2 fu v10 v1.2 hf _ _ _ X (lv_sub hl [1, 2, 3, 0] rfl)
    · refine lv_iconst (v := (0 : Int32)) hx hb dX6_first_15 rfl ?_
      refine lv_goto (tgt := 39) hx hb dX6_first_16 rfl ?_
      refine lv_istore (lv' := [(4, .int (0 : Int32)), (0, .ref (bd 0)), (1, .int x1), (2, .int x2), (3, .int x3)]) hx hb dX6_first_39 hl (by decide) rfl (fun ls hl => ?_)
      exact w41 x1 x2 fu (0 : Int32) v1.2 hf _ _ _ X (lv_sub hl [1, 2, 3, 0] rfl)
  · refine lv_iconst (v := (0 : Int32)) hx hb dX6_first_9 rfl ?_
    cases hf
    exact xe_i hx hb hr hlocks X dX6_first_10
set_option maxRecDepth 100000 in
set_option maxHeartbeats 4000000 in
theorem mX6_last {l : Launch} {dd : va_G} {cy : Nat → ClassId} {bd : Nat → Nat} {A : Nat → Prop} {fu : Nat} {th : Int32} {ce : Nat → Int32} {sz : Nat → Int32} {wy : Nat → Int64} {op : Nat → Int32} {x1 : Int32} {x2 : Int32} {x3 : Int32} {rv : Int32} {tho : Int32} (hf : fX6_last fu th ce sz x1 x2 x3 = some (rv, tho)) : Met l yX6_last wsX6_last { frames := 3, cells := 0, slots := 0, locals := 68 } (va_Pc [.ref (bd 0), .int x1, .int x2, .int x3] (IW dd cy A (wlR bd cy th ce sz wy op))) (QX dd cy A (some (.int rv)) (wlR bd cy tho ce sz wy op)) 0 0 A := by
  refine Met.ofW (cc := cX6_last) (maxL := 5) (ret := some .int) (by decide) rfl ?_
  intro p e s m args below meth c s₁ B hml hv
  obtain ⟨hav, hI⟩ := hv
  have hx := B.exec
  have hb := B.bytes
  have hr := B.returns
  have hts := atoms_spec (ws := wsX6_last) B.pre
  have hown : s.vm.findClass RX6 = some m.cls := findClass_of_methodNamed B.named
  have hlocks := B.notSynchronized
  have X := XW.of hI
  have h6 : ∀ w ∈ wsX60, w ∈ wsX6_last := by decide +kernel
  refine xe_in hav (Nat.le_of_ble_eq_true rfl) rfl (fun ls hl => ?_)
  have w33 : ∀ (y1 : Int32) (y2 : Int32) (n : Nat) (y4 : Int32) (th : Int32), fX6_last_33 fu ce sz y1 y2 n y4 th = some (rv, tho) → ∀ (H : Heap) (locs : List Loc) (ls : Array Slot), XW dd cy A s (wlR bd cy th ce sz wy op) H locs → lv_has ls 5 [(0, .ref (bd 0)), (1, .int y1), (2, .int y2), (4, .int y4)] → W p l e (headSpec wsX6_last { frames := 3, cells := 0, slots := 0, locals := 68 }).room s m args below meth c H locs 0 0 (MQ below (QX dd cy A (some (.int rv)) (wlR bd cy tho ce sz wy op)) args s 0 0 A) (F0 m 33 ls []) := by
    intro y1 y2 n
    induction n with
    | zero => intro y4 th hf; exact absurd hf (by simp [fX6_last_33])
    | succ n ih =>
      intro y4 th hf H locs ls X hl
      rw [fX6_last_33] at hf
      refine lv_iload hx hb dX6_last_33 (lv_at hl 3 rfl) ?_
      refine xr_if_lt (tgt := 73) hx hb dX6_last_35 rfl hf (fun hf => ?_) (fun hf => ?_)
      · refine lv_iload hx hb dX6_last_73 (lv_at hl 3 rfl) ?_
        refine xr_if_ge (tgt := 82) hx hb dX6_last_75 rfl hf (fun hf => ?_) (fun hf => ?_)
        · refine lv_iload hx hb dX6_last_82 (lv_at hl 3 rfl) ?_
          cases hf
          exact xe_i hx hb hr hlocks X dX6_last_84
        · refine lv_iconst (v := (-1 : Int32)) hx hb dX6_last_78 rfl ?_
          refine lv_goto (tgt := 84) hx hb dX6_last_79 rfl ?_
          cases hf
          exact xe_i hx hb hr hlocks X dX6_last_84
      · refine lv_aload_n hx hb dX6_last_38 rfl (lv_at hl 0 rfl) ?_
        refine lv_iload_n hx hb dX6_last_39 rfl (lv_at hl 1 rfl) ?_
        refine xb hf (fun v4 hv hf => ?_)
        refine xc_S1 (rest := [.ref (bd 0)]) ⟨hx, hb, hml, hown, hts⟩ (mX6_baseOf hv) (va_cwS 1 hts gX6_last_X6_baseOf rfl rfl rfl hqX6_baseOf ⟨Nat.le_of_ble_eq_true rfl, Nat.le_of_ble_eq_true rfl⟩) X rfl hl.1 rfl (Nat.le_of_ble_eq_true rfl) dX6_last_40 ⟨Nat.zero_le _, Nat.zero_le _⟩ (fun H locs X => ?_)
        refine lv_aload_n hx hb dX6_last_43 rfl (lv_at hl 0 rfl) ?_
        refine xg_f hx hb hts hown X h6 0 wlR_0 rfl 2 (by decide) (by decide +kernel) (v := .ref (bd 2)) rfl dX6_last_44 ?_
        refine lv_iload_n hx hb dX6_last_47 rfl (lv_at hl 1 rfl) ?_
        refine xa_iald hx hb X 2 wlR_2 dX6_last_48 hf (fun v5 hf => ?_)
        refine lv_iload_n hx hb dX6_last_49 rfl (lv_at hl 2 rfl) ?_
        refine xb hf (fun v6 hv hf => ?_)
        refine xc_S1 (rest := [.int v5, .int v4, .ref (bd 0)]) ⟨hx, hb, hml, hown, hts⟩ (mX6_baseOf hv) (va_cwS 1 hts gX6_last_X6_baseOf rfl rfl rfl hqX6_baseOf ⟨Nat.le_of_ble_eq_true rfl, Nat.le_of_ble_eq_true rfl⟩) X rfl hl.1 rfl (Nat.le_of_ble_eq_true rfl) dX6_last_50 ⟨Nat.zero_le _, Nat.zero_le _⟩ (fun H locs X => ?_)
        refine lv_aload_n hx hb dX6_last_53 rfl (lv_at hl 0 rfl) ?_
        refine xg_f hx hb hts hown X h6 0 wlR_0 rfl 2 (by decide) (by decide +kernel) (v := .ref (bd 2)) rfl dX6_last_54 ?_
        refine lv_iload_n hx hb dX6_last_57 rfl (lv_at hl 2 rfl) ?_
        refine xa_iald hx hb X 2 wlR_2 dX6_last_58 hf (fun v7 hf => ?_)
        refine lv_iload hx hb dX6_last_59 (lv_at hl 3 rfl) ?_
        refine xb hf (fun v8 hv hf => ?_)
        refine xc_V1 (rest := []) ⟨hx, hb, hml, hown, hts⟩ (mX6_standsAt hv) (cwV 5 hts gX6_last_X6_standsAt rfl rfl rfl hqX6_standsAt ⟨Nat.le_of_ble_eq_true rfl, Nat.le_of_ble_eq_true rfl⟩) X (va_recv X.1 X.2.1 (ci := 4) (q0 := 0) rfl wlR_0) rfl hl.1 rfl (Nat.le_of_ble_eq_true rfl) dX6_last_61 ⟨Nat.zero_le _, Nat.zero_le _⟩ (fun H locs X => ?_)
        refine xr_if_ne (tgt := 73) hx hb dX6_last_64 rfl hf (fun hf => ?_) (fun hf => ?_)
        · refine lv_iload hx hb dX6_last_73 (lv_at hl 3 rfl) ?_
          refine xr_if_ge (tgt := 82) hx hb dX6_last_75 rfl hf (fun hf => ?_) (fun hf => ?_)
          · refine lv_iload hx hb dX6_last_82 (lv_at hl 3 rfl) ?_
            cases hf
            exact xe_i hx hb hr hlocks X dX6_last_84
          · refine lv_iconst (v := (-1 : Int32)) hx hb dX6_last_78 rfl ?_
            refine lv_goto (tgt := 84) hx hb dX6_last_79 rfl ?_
            cases hf
            exact xe_i hx hb hr hlocks X dX6_last_84
        · refine lv_iinc (v := (y4 + (-1))) (lv' := [(4, .int (y4 + (-1))), (0, .ref (bd 0)), (1, .int y1), (2, .int y2)]) hx hb dX6_last_67 hl (k := 3) rfl ii_m1 (by decide) rfl (fun ls hl => ?_)
          refine lv_goto (tgt := 33) hx hb dX6_last_70 rfl ?_
          exact ih (y4 + (-1)) th hf _ _ _ X (lv_sub hl [1, 2, 3, 0] rfl)
  rw [fX6_last] at hf
  refine lv_aload_n hx hb dX6_last_0 rfl (lv_at hl 0 rfl) ?_
  refine lv_iload_n hx hb dX6_last_1 rfl (lv_at hl 1 rfl) ?_
  refine lv_iload_n hx hb dX6_last_2 rfl (lv_at hl 2 rfl) ?_
  refine xb hf (fun v1 hv hf => ?_)
  refine xc_V1 (rest := []) ⟨hx, hb, hml, hown, hts⟩ (mX6_isNoOf hv) (cwV 2 hts gX6_last_X6_isNoOf rfl rfl rfl hqX6_isNoOf ⟨Nat.le_of_ble_eq_true rfl, Nat.le_of_ble_eq_true rfl⟩) X (va_recv X.1 X.2.1 (ci := 4) (q0 := 0) rfl wlR_0) rfl hl.1 rfl (Nat.le_of_ble_eq_true rfl) dX6_last_3 ⟨Nat.zero_le _, Nat.zero_le _⟩ (fun H locs X => ?_)
  refine xr_if_eq (tgt := 11) hx hb dX6_last_6 rfl hf (fun hf => ?_) (fun hf => ?_)
  · refine lv_iload_n hx hb dX6_last_11 rfl (lv_at hl 3 rfl) ?_
    refine lv_aload_n hx hb dX6_last_12 rfl (lv_at hl 0 rfl) ?_
    refine xg_f hx hb hts hown X h6 0 wlR_0 rfl 2 (by decide) (by decide +kernel) (v := .ref (bd 2)) rfl dX6_last_13 ?_
    refine lv_iload_n hx hb dX6_last_16 rfl (lv_at hl 1 rfl) ?_
    refine xa_iald hx hb X 2 wlR_2 dX6_last_17 hf (fun v2 hf => ?_)
    refine xr_icmp_ge (tgt := 25) hx hb dX6_last_18 rfl hf (fun hf => ?_) (fun hf => ?_)
    · refine lv_aload_n hx hb dX6_last_25 rfl (lv_at hl 0 rfl) ?_
      refine xg_f hx hb hts hown X h6 0 wlR_0 rfl 2 (by decide) (by decide +kernel) (v := .ref (bd 2)) rfl dX6_last_26 ?_
      refine lv_iload_n hx hb dX6_last_29 rfl (lv_at hl 1 rfl) ?_
      refine xa_iald hx hb X 2 wlR_2 dX6_last_30 hf (fun v3 hf => ?_)
      refine lv_istore (lv' := [(4, .int v3), (0, .ref (bd 0)), (1, .int x1), (2, .int x2), (3, .int x3)]) hx hb dX6_last_31 hl (by decide) rfl (fun ls hl => ?_)
      exact w33 x1 x2 fu v3 v1.2 hf _ _ _ X (lv_sub hl [1, 2, 3, 0] rfl)
    · refine lv_iload_n hx hb dX6_last_21 rfl (lv_at hl 3 rfl) ?_
      refine lv_goto (tgt := 31) hx hb dX6_last_22 rfl ?_
      refine lv_istore (lv' := [(4, .int x3), (0, .ref (bd 0)), (1, .int x1), (2, .int x2), (3, .int x3)]) hx hb dX6_last_31 hl (by decide) rfl (fun ls hl => ?_)
      exact w33 x1 x2 fu x3 v1.2 hf _ _ _ X (lv_sub hl [1, 2, 3, 0] rfl)
  · refine lv_iconst (v := (0 : Int32)) hx hb dX6_last_9 rfl ?_
    cases hf
    exact xe_i hx hb hr hlocks X dX6_last_10
set_option maxRecDepth 100000 in
set_option maxHeartbeats 4000000 in
theorem mX6_many {l : Launch} {dd : va_G} {cy : Nat → ClassId} {bd : Nat → Nat} {A : Nat → Prop} {fu : Nat} {th : Int32} {ce : Nat → Int32} {sz : Nat → Int32} {wy : Nat → Int64} {op : Nat → Int32} {x1 : Int32} {x2 : Int32} {x3 : Int32} {rv : Int32} {tho : Int32} (hf : fX6_many fu th ce sz x1 x2 x3 = some (rv, tho)) : Met l yX6_many wsX6_many { frames := 3, cells := 0, slots := 0, locals := 68 } (va_Pc [.ref (bd 0), .int x1, .int x2, .int x3] (IW dd cy A (wlR bd cy th ce sz wy op))) (QX dd cy A (some (.int rv)) (wlR bd cy tho ce sz wy op)) 0 0 A := by
  refine Met.ofW (cc := cX6_many) (maxL := 4) (ret := some .int) (by decide) rfl ?_
  intro p e s m args below meth c s₁ B hml hv
  obtain ⟨hav, hI⟩ := hv
  have hx := B.exec
  have hb := B.bytes
  have hr := B.returns
  have hts := atoms_spec (ws := wsX6_many) B.pre
  have hown : s.vm.findClass RX6 = some m.cls := findClass_of_methodNamed B.named
  have hlocks := B.notSynchronized
  have X := XW.of hI
  have h6 : ∀ w ∈ wsX60, w ∈ wsX6_many := by decide +kernel
  refine xe_in hav (Nat.le_of_ble_eq_true rfl) rfl (fun ls hl => ?_)
  have w24 : ∀ (y1 : Int32) (y2 : Int32) (y3 : Int32) (s0 : Int32) (th : Int32), fX6_many_24 fu ce sz y1 y2 y3 s0 th = some (rv, tho) → ∀ (H : Heap) (locs : List Loc) (ls : Array Slot), XW dd cy A s (wlR bd cy th ce sz wy op) H locs → lv_has ls 4 [(0, .ref (bd 0)), (1, .int y1), (2, .int y2), (3, .int y3)] → W p l e (headSpec wsX6_many { frames := 3, cells := 0, slots := 0, locals := 68 }).room s m args below meth c H locs 0 0 (MQ below (QX dd cy A (some (.int rv)) (wlR bd cy tho ce sz wy op)) args s 0 0 A) (F0 m 24 ls [.int s0, .ref (bd 0)]) := by
    intro y1 y2 y3 s0 th hf H locs ls X hl
    rw [fX6_many_24] at hf
    refine lv_iconst (v := (2 : Int32)) hx hb dX6_many_24 rfl ?_
    refine xb hf (fun v3 hv hf => ?_)
    refine xc_V1 (rest := []) ⟨hx, hb, hml, hown, hts⟩ (mX6_isThrown hv) (cwV 2 hts gX6_many_X6_isThrown rfl rfl rfl hqX6_isThrown ⟨Nat.le_of_ble_eq_true rfl, Nat.le_of_ble_eq_true rfl⟩) X (va_recv X.1 X.2.1 (ci := 4) (q0 := 0) rfl wlR_0) rfl hl.1 rfl (Nat.le_of_ble_eq_true rfl) dX6_many_25 ⟨Nat.zero_le _, Nat.zero_le _⟩ (fun H locs X => ?_)
    refine xr_if_eq (tgt := 33) hx hb dX6_many_28 rfl hf (fun hf => ?_) (fun hf => ?_)
    · refine lv_aload_n hx hb dX6_many_33 rfl (lv_at hl 0 rfl) ?_
      refine lv_iload_n hx hb dX6_many_34 rfl (lv_at hl 1 rfl) ?_
      refine lv_iload_n hx hb dX6_many_35 rfl (lv_at hl 2 rfl) ?_
      refine xb hf (fun v4 hv hf => ?_)
      refine xc_S1 (rest := [.int y1, .ref (bd 0)]) ⟨hx, hb, hml, hown, hts⟩ (mX6_baseOf hv) (va_cwS 1 hts gX6_many_X6_baseOf rfl rfl rfl hqX6_baseOf ⟨Nat.le_of_ble_eq_true rfl, Nat.le_of_ble_eq_true rfl⟩) X rfl hl.1 rfl (Nat.le_of_ble_eq_true rfl) dX6_many_36 ⟨Nat.zero_le _, Nat.zero_le _⟩ (fun H locs X => ?_)
      refine lv_aload_n hx hb dX6_many_39 rfl (lv_at hl 0 rfl) ?_
      refine xg_f hx hb hts hown X h6 0 wlR_0 rfl 2 (by decide) (by decide +kernel) (v := .ref (bd 2)) rfl dX6_many_40 ?_
      refine lv_iload_n hx hb dX6_many_43 rfl (lv_at hl 2 rfl) ?_
      refine xa_iald hx hb X 2 wlR_2 dX6_many_44 hf (fun v5 hf => ?_)
      refine lv_iload_n hx hb dX6_many_45 rfl (lv_at hl 3 rfl) ?_
      refine xb hf (fun v6 hv hf => ?_)
      refine xc_V1 (rest := []) ⟨hx, hb, hml, hown, hts⟩ (mX6_counted hv) (cwV 4 hts gX6_many_X6_counted rfl rfl rfl hqX6_counted ⟨Nat.le_of_ble_eq_true rfl, Nat.le_of_ble_eq_true rfl⟩) X (va_recv X.1 X.2.1 (ci := 4) (q0 := 0) rfl wlR_0) rfl hl.1 rfl (Nat.le_of_ble_eq_true rfl) dX6_many_46 ⟨Nat.zero_le _, Nat.zero_le _⟩ (fun H locs X => ?_)
      cases hf
      exact xe_i hx hb hr hlocks X dX6_many_49
    · refine lv_iconst (v := (0 : Int32)) hx hb dX6_many_31 rfl ?_
      cases hf
      exact xe_i hx hb hr hlocks X dX6_many_32
  rw [fX6_many] at hf
  refine lv_aload_n hx hb dX6_many_0 rfl (lv_at hl 0 rfl) ?_
  refine lv_iload_n hx hb dX6_many_1 rfl (lv_at hl 1 rfl) ?_
  refine lv_iload_n hx hb dX6_many_2 rfl (lv_at hl 2 rfl) ?_
  refine xb hf (fun v1 hv hf => ?_)
  refine xc_V1 (rest := []) ⟨hx, hb, hml, hown, hts⟩ (mX6_isNoOf hv) (cwV 2 hts gX6_many_X6_isNoOf rfl rfl rfl hqX6_isNoOf ⟨Nat.le_of_ble_eq_true rfl, Nat.le_of_ble_eq_true rfl⟩) X (va_recv X.1 X.2.1 (ci := 4) (q0 := 0) rfl wlR_0) rfl hl.1 rfl (Nat.le_of_ble_eq_true rfl) dX6_many_3 ⟨Nat.zero_le _, Nat.zero_le _⟩ (fun H locs X => ?_)
  refine xr_if_ne (tgt := 31) hx hb dX6_many_6 rfl hf (fun hf => ?_) (fun hf => ?_)
  · refine lv_iconst (v := (0 : Int32)) hx hb dX6_many_31 rfl ?_
    cases hf
    exact xe_i hx hb hr hlocks X dX6_many_32
  · refine lv_aload_n hx hb dX6_many_9 rfl (lv_at hl 0 rfl) ?_
    refine lv_aload_n hx hb dX6_many_10 rfl (lv_at hl 0 rfl) ?_
    refine xg_f hx hb hts hown X h6 0 wlR_0 rfl 2 (by decide) (by decide +kernel) (v := .ref (bd 2)) rfl dX6_many_11 ?_
    refine lv_iload_n hx hb dX6_many_14 rfl (lv_at hl 2 rfl) ?_
    refine xa_iald hx hb X 2 wlR_2 dX6_many_15 hf (fun v2 hf => ?_)
    refine xr_if_ne (tgt := 23) hx hb dX6_many_16 rfl hf (fun hf => ?_) (fun hf => ?_)
    · refine lv_iconst (v := (0 : Int32)) hx hb dX6_many_23 rfl ?_
      exact w24 x1 x2 x3 (0 : Int32) v1.2 hf _ _ _ X (lv_sub hl [0, 1, 2, 3] rfl)
    · refine lv_iconst (v := (1 : Int32)) hx hb dX6_many_19 rfl ?_
      refine lv_goto (tgt := 24) hx hb dX6_many_20 rfl ?_
      exact w24 x1 x2 x3 (1 : Int32) v1.2 hf _ _ _ X (lv_sub hl [0, 1, 2, 3] rfl)
set_option maxRecDepth 100000 in
set_option maxHeartbeats 4000000 in
theorem mX6_isSame {l : Launch} {dd : va_G} {cy : Nat → ClassId} {bd : Nat → Nat} {A : Nat → Prop} {fu : Nat} {th : Int32} {ce : Nat → Int32} {sz : Nat → Int32} {wy : Nat → Int64} {op : Nat → Int32} {x1 : Int32} {x2 : Int32} {rv : Int32} {tho : Int32} (hf : fX6_isSame fu th ce sz x1 x2 = some (rv, tho)) : Met l yX6_isSame wsX6_isSame { frames := 3, cells := 0, slots := 0, locals := 68 } (va_Pc [.ref (bd 0), .int x1, .int x2] (IW dd cy A (wlR bd cy th ce sz wy op))) (QX dd cy A (some (.int rv)) (wlR bd cy tho ce sz wy op)) 0 0 A := by
  refine Met.ofW (cc := cX6_isSame) (maxL := 3) (ret := some .boolean) (by decide) rfl ?_
  intro p e s m args below meth c s₁ B hml hv
  obtain ⟨hav, hI⟩ := hv
  have hx := B.exec
  have hb := B.bytes
  have hr := B.returns
  have hts := atoms_spec (ws := wsX6_isSame) B.pre
  have hown : s.vm.findClass RX6 = some m.cls := findClass_of_methodNamed B.named
  have hlocks := B.notSynchronized
  have X := XW.of hI
  have h6 : ∀ w ∈ wsX60, w ∈ wsX6_isSame := by decide +kernel
  refine xe_in hav (Nat.le_of_ble_eq_true rfl) rfl (fun ls hl => ?_)
  rw [fX6_isSame] at hf
  refine lv_aload_n hx hb dX6_isSame_0 rfl (lv_at hl 0 rfl) ?_
  refine lv_iload_n hx hb dX6_isSame_1 rfl (lv_at hl 1 rfl) ?_
  refine lv_iload_n hx hb dX6_isSame_2 rfl (lv_at hl 2 rfl) ?_
  refine xb hf (fun v1 hv hf => ?_)
  refine xc_V1 (rest := []) ⟨hx, hb, hml, hown, hts⟩ (mX6_isNoOf hv) (cwV 2 hts gX6_isSame_X6_isNoOf rfl rfl rfl hqX6_isNoOf ⟨Nat.le_of_ble_eq_true rfl, Nat.le_of_ble_eq_true rfl⟩) X (va_recv X.1 X.2.1 (ci := 4) (q0 := 0) rfl wlR_0) rfl hl.1 rfl (Nat.le_of_ble_eq_true rfl) dX6_isSame_3 ⟨Nat.zero_le _, Nat.zero_le _⟩ (fun H locs X => ?_)
  refine xr_if_ne (tgt := 40) hx hb dX6_isSame_6 rfl hf (fun hf => ?_) (fun hf => ?_)
  · refine lv_iconst (v := (0 : Int32)) hx hb dX6_isSame_40 rfl ?_
    cases hf
    exact xe_z hx hb hr hlocks X rfl dX6_isSame_41
  · refine lv_aload_n hx hb dX6_isSame_9 rfl (lv_at hl 0 rfl) ?_
    refine lv_iload_n hx hb dX6_isSame_10 rfl (lv_at hl 1 rfl) ?_
    refine xb hf (fun v2 hv hf => ?_)
    refine xc_S1 (rest := [.ref (bd 0)]) ⟨hx, hb, hml, hown, hts⟩ (mX6_baseOf hv) (va_cwS 1 hts gX6_isSame_X6_baseOf rfl rfl rfl hqX6_baseOf ⟨Nat.le_of_ble_eq_true rfl, Nat.le_of_ble_eq_true rfl⟩) X rfl hl.1 rfl (Nat.le_of_ble_eq_true rfl) dX6_isSame_11 ⟨Nat.zero_le _, Nat.zero_le _⟩ (fun H locs X => ?_)
    refine lv_aload_n hx hb dX6_isSame_14 rfl (lv_at hl 0 rfl) ?_
    refine xg_f hx hb hts hown X h6 0 wlR_0 rfl 2 (by decide) (by decide +kernel) (v := .ref (bd 2)) rfl dX6_isSame_15 ?_
    refine lv_iload_n hx hb dX6_isSame_18 rfl (lv_at hl 1 rfl) ?_
    refine xa_iald hx hb X 2 wlR_2 dX6_isSame_19 hf (fun v3 hf => ?_)
    refine lv_iload_n hx hb dX6_isSame_20 rfl (lv_at hl 2 rfl) ?_
    refine xb hf (fun v4 hv hf => ?_)
    refine xc_S1 (rest := [.int v3, .int v2, .ref (bd 0)]) ⟨hx, hb, hml, hown, hts⟩ (mX6_baseOf hv) (va_cwS 1 hts gX6_isSame_X6_baseOf rfl rfl rfl hqX6_baseOf ⟨Nat.le_of_ble_eq_true rfl, Nat.le_of_ble_eq_true rfl⟩) X rfl hl.1 rfl (Nat.le_of_ble_eq_true rfl) dX6_isSame_21 ⟨Nat.zero_le _, Nat.zero_le _⟩ (fun H locs X => ?_)
    refine lv_aload_n hx hb dX6_isSame_24 rfl (lv_at hl 0 rfl) ?_
    refine xg_f hx hb hts hown X h6 0 wlR_0 rfl 2 (by decide) (by decide +kernel) (v := .ref (bd 2)) rfl dX6_isSame_25 ?_
    refine lv_iload_n hx hb dX6_isSame_28 rfl (lv_at hl 2 rfl) ?_
    refine xa_iald hx hb X 2 wlR_2 dX6_isSame_29 hf (fun v5 hf => ?_)
    refine xb hf (fun v6 hv hf => ?_)
    refine xc_V1 (rest := []) ⟨hx, hb, hml, hown, hts⟩ (mX6_areSame hv) (cwV 4 hts gX6_isSame_X6_areSame rfl rfl rfl hqX6_areSame ⟨Nat.le_of_ble_eq_true rfl, Nat.le_of_ble_eq_true rfl⟩) X (va_recv X.1 X.2.1 (ci := 4) (q0 := 0) rfl wlR_0) rfl hl.1 rfl (Nat.le_of_ble_eq_true rfl) dX6_isSame_30 ⟨Nat.zero_le _, Nat.zero_le _⟩ (fun H locs X => ?_)
    refine xr_if_eq (tgt := 40) hx hb dX6_isSame_33 rfl hf (fun hf => ?_) (fun hf => ?_)
    · refine lv_iconst (v := (0 : Int32)) hx hb dX6_isSame_40 rfl ?_
      cases hf
      exact xe_z hx hb hr hlocks X rfl dX6_isSame_41
    · refine lv_iconst (v := (1 : Int32)) hx hb dX6_isSame_36 rfl ?_
      refine lv_goto (tgt := 41) hx hb dX6_isSame_37 rfl ?_
      cases hf
      exact xe_z hx hb hr hlocks X rfl dX6_isSame_41
set_option maxRecDepth 100000 in
set_option maxHeartbeats 4000000 in
theorem mX6_compare {l : Launch} {dd : va_G} {cy : Nat → ClassId} {bd : Nat → Nat} {A : Nat → Prop} {fu : Nat} {th : Int32} {ce : Nat → Int32} {sz : Nat → Int32} {wy : Nat → Int64} {op : Nat → Int32} {x1 : Int32} {x2 : Int32} {rv : Int32} {tho : Int32} (hf : fX6_compare fu th ce sz x1 x2 = some (rv, tho)) : Met l yX6_compare wsX6_compare { frames := 3, cells := 0, slots := 0, locals := 68 } (va_Pc [.ref (bd 0), .int x1, .int x2] (IW dd cy A (wlR bd cy th ce sz wy op))) (QX dd cy A (some (.int rv)) (wlR bd cy tho ce sz wy op)) 0 0 A := by
  refine Met.ofW (cc := cX6_compare) (maxL := 3) (ret := some .int) (by decide) rfl ?_
  intro p e s m args below meth c s₁ B hml hv
  obtain ⟨hav, hI⟩ := hv
  have hx := B.exec
  have hb := B.bytes
  have hr := B.returns
  have hts := atoms_spec (ws := wsX6_compare) B.pre
  have hown : s.vm.findClass RX6 = some m.cls := findClass_of_methodNamed B.named
  have hlocks := B.notSynchronized
  have X := XW.of hI
  have h6 : ∀ w ∈ wsX60, w ∈ wsX6_compare := by decide +kernel
  refine xe_in hav (Nat.le_of_ble_eq_true rfl) rfl (fun ls hl => ?_)
  rw [fX6_compare] at hf
  refine lv_aload_n hx hb dX6_compare_0 rfl (lv_at hl 0 rfl) ?_
  refine lv_iload_n hx hb dX6_compare_1 rfl (lv_at hl 1 rfl) ?_
  refine lv_iload_n hx hb dX6_compare_2 rfl (lv_at hl 2 rfl) ?_
  refine xb hf (fun v1 hv hf => ?_)
  refine xc_V1 (rest := []) ⟨hx, hb, hml, hown, hts⟩ (mX6_isNoOf hv) (cwV 2 hts gX6_compare_X6_isNoOf rfl rfl rfl hqX6_isNoOf ⟨Nat.le_of_ble_eq_true rfl, Nat.le_of_ble_eq_true rfl⟩) X (va_recv X.1 X.2.1 (ci := 4) (q0 := 0) rfl wlR_0) rfl hl.1 rfl (Nat.le_of_ble_eq_true rfl) dX6_compare_3 ⟨Nat.zero_le _, Nat.zero_le _⟩ (fun H locs X => ?_)
  refine xr_if_eq (tgt := 13) hx hb dX6_compare_6 rfl hf (fun hf => ?_) (fun hf => ?_)
  · refine lv_aload_n hx hb dX6_compare_13 rfl (lv_at hl 0 rfl) ?_
    refine lv_iload_n hx hb dX6_compare_14 rfl (lv_at hl 1 rfl) ?_
    refine xb hf (fun v2 hv hf => ?_)
    refine xc_S1 (rest := [.ref (bd 0)]) ⟨hx, hb, hml, hown, hts⟩ (mX6_baseOf hv) (va_cwS 1 hts gX6_compare_X6_baseOf rfl rfl rfl hqX6_baseOf ⟨Nat.le_of_ble_eq_true rfl, Nat.le_of_ble_eq_true rfl⟩) X rfl hl.1 rfl (Nat.le_of_ble_eq_true rfl) dX6_compare_15 ⟨Nat.zero_le _, Nat.zero_le _⟩ (fun H locs X => ?_)
    refine lv_aload_n hx hb dX6_compare_18 rfl (lv_at hl 0 rfl) ?_
    refine xg_f hx hb hts hown X h6 0 wlR_0 rfl 2 (by decide) (by decide +kernel) (v := .ref (bd 2)) rfl dX6_compare_19 ?_
    refine lv_iload_n hx hb dX6_compare_22 rfl (lv_at hl 1 rfl) ?_
    refine xa_iald hx hb X 2 wlR_2 dX6_compare_23 hf (fun v3 hf => ?_)
    refine lv_iload_n hx hb dX6_compare_24 rfl (lv_at hl 2 rfl) ?_
    refine xb hf (fun v4 hv hf => ?_)
    refine xc_S1 (rest := [.int v3, .int v2, .ref (bd 0)]) ⟨hx, hb, hml, hown, hts⟩ (mX6_baseOf hv) (va_cwS 1 hts gX6_compare_X6_baseOf rfl rfl rfl hqX6_baseOf ⟨Nat.le_of_ble_eq_true rfl, Nat.le_of_ble_eq_true rfl⟩) X rfl hl.1 rfl (Nat.le_of_ble_eq_true rfl) dX6_compare_25 ⟨Nat.zero_le _, Nat.zero_le _⟩ (fun H locs X => ?_)
    refine lv_aload_n hx hb dX6_compare_28 rfl (lv_at hl 0 rfl) ?_
    refine xg_f hx hb hts hown X h6 0 wlR_0 rfl 2 (by decide) (by decide +kernel) (v := .ref (bd 2)) rfl dX6_compare_29 ?_
    refine lv_iload_n hx hb dX6_compare_32 rfl (lv_at hl 2 rfl) ?_
    refine xa_iald hx hb X 2 wlR_2 dX6_compare_33 hf (fun v5 hf => ?_)
    refine xb hf (fun v6 hv hf => ?_)
    refine xc_V1 (rest := []) ⟨hx, hb, hml, hown, hts⟩ (mX6_order hv) (cwV 4 hts gX6_compare_X6_order rfl rfl rfl hqX6_order ⟨Nat.le_of_ble_eq_true rfl, Nat.le_of_ble_eq_true rfl⟩) X (va_recv X.1 X.2.1 (ci := 4) (q0 := 0) rfl wlR_0) rfl hl.1 rfl (Nat.le_of_ble_eq_true rfl) dX6_compare_34 ⟨Nat.zero_le _, Nat.zero_le _⟩ (fun H locs X => ?_)
    cases hf
    exact xe_i hx hb hr hlocks X dX6_compare_37
  · refine lv_iconst (v := (0 : Int32)) hx hb dX6_compare_9 rfl ?_
    refine lv_goto (tgt := 37) hx hb dX6_compare_10 rfl ?_
    cases hf
    exact xe_i hx hb hr hlocks X dX6_compare_37
set_option maxRecDepth 100000 in
set_option maxHeartbeats 4000000 in
theorem mX6_common {l : Launch} {dd : va_G} {cy : Nat → ClassId} {bd : Nat → Nat} {A : Nat → Prop} {fu : Nat} {th : Int32} {ce : Nat → Int32} {sz : Nat → Int32} {wy : Nat → Int64} {op : Nat → Int32} {x1 : Int32} {x2 : Int32} {rv : Int32} {tho : Int32} (hf : fX6_common fu th ce sz x1 x2 = some (rv, tho)) : Met l yX6_common wsX6_common { frames := 3, cells := 0, slots := 0, locals := 68 } (va_Pc [.ref (bd 0), .int x1, .int x2] (IW dd cy A (wlR bd cy th ce sz wy op))) (QX dd cy A (some (.int rv)) (wlR bd cy tho ce sz wy op)) 0 0 A := by
  refine Met.ofW (cc := cX6_common) (maxL := 3) (ret := some .int) (by decide) rfl ?_
  intro p e s m args below meth c s₁ B hml hv
  obtain ⟨hav, hI⟩ := hv
  have hx := B.exec
  have hb := B.bytes
  have hr := B.returns
  have hts := atoms_spec (ws := wsX6_common) B.pre
  have hown : s.vm.findClass RX6 = some m.cls := findClass_of_methodNamed B.named
  have hlocks := B.notSynchronized
  have X := XW.of hI
  have h6 : ∀ w ∈ wsX60, w ∈ wsX6_common := by decide +kernel
  refine xe_in hav (Nat.le_of_ble_eq_true rfl) rfl (fun ls hl => ?_)
  rw [fX6_common] at hf
  refine lv_aload_n hx hb dX6_common_0 rfl (lv_at hl 0 rfl) ?_
  refine lv_iload_n hx hb dX6_common_1 rfl (lv_at hl 1 rfl) ?_
  refine lv_iload_n hx hb dX6_common_2 rfl (lv_at hl 2 rfl) ?_
  refine xb hf (fun v1 hv hf => ?_)
  refine xc_V1 (rest := []) ⟨hx, hb, hml, hown, hts⟩ (mX6_isNoOf hv) (cwV 2 hts gX6_common_X6_isNoOf rfl rfl rfl hqX6_isNoOf ⟨Nat.le_of_ble_eq_true rfl, Nat.le_of_ble_eq_true rfl⟩) X (va_recv X.1 X.2.1 (ci := 4) (q0 := 0) rfl wlR_0) rfl hl.1 rfl (Nat.le_of_ble_eq_true rfl) dX6_common_3 ⟨Nat.zero_le _, Nat.zero_le _⟩ (fun H locs X => ?_)
  refine xr_if_eq (tgt := 13) hx hb dX6_common_6 rfl hf (fun hf => ?_) (fun hf => ?_)
  · refine lv_aload_n hx hb dX6_common_13 rfl (lv_at hl 0 rfl) ?_
    refine lv_iload_n hx hb dX6_common_14 rfl (lv_at hl 1 rfl) ?_
    refine xb hf (fun v2 hv hf => ?_)
    refine xc_S1 (rest := [.ref (bd 0)]) ⟨hx, hb, hml, hown, hts⟩ (mX6_baseOf hv) (va_cwS 1 hts gX6_common_X6_baseOf rfl rfl rfl hqX6_baseOf ⟨Nat.le_of_ble_eq_true rfl, Nat.le_of_ble_eq_true rfl⟩) X rfl hl.1 rfl (Nat.le_of_ble_eq_true rfl) dX6_common_15 ⟨Nat.zero_le _, Nat.zero_le _⟩ (fun H locs X => ?_)
    refine lv_aload_n hx hb dX6_common_18 rfl (lv_at hl 0 rfl) ?_
    refine xg_f hx hb hts hown X h6 0 wlR_0 rfl 2 (by decide) (by decide +kernel) (v := .ref (bd 2)) rfl dX6_common_19 ?_
    refine lv_iload_n hx hb dX6_common_22 rfl (lv_at hl 1 rfl) ?_
    refine xa_iald hx hb X 2 wlR_2 dX6_common_23 hf (fun v3 hf => ?_)
    refine lv_iload_n hx hb dX6_common_24 rfl (lv_at hl 2 rfl) ?_
    refine xb hf (fun v4 hv hf => ?_)
    refine xc_S1 (rest := [.int v3, .int v2, .ref (bd 0)]) ⟨hx, hb, hml, hown, hts⟩ (mX6_baseOf hv) (va_cwS 1 hts gX6_common_X6_baseOf rfl rfl rfl hqX6_baseOf ⟨Nat.le_of_ble_eq_true rfl, Nat.le_of_ble_eq_true rfl⟩) X rfl hl.1 rfl (Nat.le_of_ble_eq_true rfl) dX6_common_25 ⟨Nat.zero_le _, Nat.zero_le _⟩ (fun H locs X => ?_)
    refine lv_aload_n hx hb dX6_common_28 rfl (lv_at hl 0 rfl) ?_
    refine xg_f hx hb hts hown X h6 0 wlR_0 rfl 2 (by decide) (by decide +kernel) (v := .ref (bd 2)) rfl dX6_common_29 ?_
    refine lv_iload_n hx hb dX6_common_32 rfl (lv_at hl 2 rfl) ?_
    refine xa_iald hx hb X 2 wlR_2 dX6_common_33 hf (fun v5 hf => ?_)
    refine xb hf (fun v6 hv hf => ?_)
    refine xc_V1 (rest := []) ⟨hx, hb, hml, hown, hts⟩ (mX6_alike hv) (cwV 4 hts gX6_common_X6_alike rfl rfl rfl hqX6_alike ⟨Nat.le_of_ble_eq_true rfl, Nat.le_of_ble_eq_true rfl⟩) X (va_recv X.1 X.2.1 (ci := 4) (q0 := 0) rfl wlR_0) rfl hl.1 rfl (Nat.le_of_ble_eq_true rfl) dX6_common_34 ⟨Nat.zero_le _, Nat.zero_le _⟩ (fun H locs X => ?_)
    cases hf
    exact xe_i hx hb hr hlocks X dX6_common_37
  · refine lv_iconst (v := (0 : Int32)) hx hb dX6_common_9 rfl ?_
    refine lv_goto (tgt := 37) hx hb dX6_common_10 rfl ?_
    cases hf
    exact xe_i hx hb hr hlocks X dX6_common_37
set_option maxRecDepth 100000 in
set_option maxHeartbeats 4000000 in
theorem mX6_commonEnd {l : Launch} {dd : va_G} {cy : Nat → ClassId} {bd : Nat → Nat} {A : Nat → Prop} {fu : Nat} {th : Int32} {ce : Nat → Int32} {sz : Nat → Int32} {wy : Nat → Int64} {op : Nat → Int32} {x1 : Int32} {x2 : Int32} {rv : Int32} {tho : Int32} {ceo : Nat → Int32} (hf : fX6_commonEnd fu th ce sz x1 x2 = some (rv, tho, ceo)) : Met l yX6_commonEnd wsX6_commonEnd { frames := 3, cells := 0, slots := 0, locals := 68 } (va_Pc [.ref (bd 0), .int x1, .int x2] (IW dd cy A (wlR bd cy th ce sz wy op))) (QX dd cy A (some (.int rv)) (wlR bd cy tho ceo sz wy op)) 0 0 A := by
  refine Met.ofW (cc := cX6_commonEnd) (maxL := 3) (ret := some .int) (by decide) rfl ?_
  intro p e s m args below meth c s₁ B hml hv
  obtain ⟨hav, hI⟩ := hv
  have hx := B.exec
  have hb := B.bytes
  have hr := B.returns
  have hts := atoms_spec (ws := wsX6_commonEnd) B.pre
  have hown : s.vm.findClass RX6 = some m.cls := findClass_of_methodNamed B.named
  have hlocks := B.notSynchronized
  have X := XW.of hI
  have h6 : ∀ w ∈ wsX60, w ∈ wsX6_commonEnd := by decide +kernel
  refine xe_in hav (Nat.le_of_ble_eq_true rfl) rfl (fun ls hl => ?_)
  rw [fX6_commonEnd] at hf
  refine lv_aload_n hx hb dX6_commonEnd_0 rfl (lv_at hl 0 rfl) ?_
  refine lv_iload_n hx hb dX6_commonEnd_1 rfl (lv_at hl 1 rfl) ?_
  refine lv_iload_n hx hb dX6_commonEnd_2 rfl (lv_at hl 2 rfl) ?_
  refine xb hf (fun v1 hv hf => ?_)
  refine xc_V1 (rest := []) ⟨hx, hb, hml, hown, hts⟩ (mX6_isNoOf hv) (cwV 2 hts gX6_commonEnd_X6_isNoOf rfl rfl rfl hqX6_isNoOf ⟨Nat.le_of_ble_eq_true rfl, Nat.le_of_ble_eq_true rfl⟩) X (va_recv X.1 X.2.1 (ci := 4) (q0 := 0) rfl wlR_0) rfl hl.1 rfl (Nat.le_of_ble_eq_true rfl) dX6_commonEnd_3 ⟨Nat.zero_le _, Nat.zero_le _⟩ (fun H locs X => ?_)
  refine xr_if_eq (tgt := 11) hx hb dX6_commonEnd_6 rfl hf (fun hf => ?_) (fun hf => ?_)
  · refine lv_aload_n hx hb dX6_commonEnd_11 rfl (lv_at hl 0 rfl) ?_
    refine lv_iload_n hx hb dX6_commonEnd_12 rfl (lv_at hl 1 rfl) ?_
    refine lv_sipush (v := (360 : Int32)) hx hb dX6_commonEnd_13 rfl ?_
    refine xb hf (fun v2 hv hf => ?_)
    refine xc_V0 (rest := []) ⟨hx, hb, hml, hown, hts⟩ (mX6_laysBack hv) (cwV 2 hts gX6_commonEnd_X6_laysBack rfl rfl rfl hqX6_laysBack ⟨Nat.le_of_ble_eq_true rfl, Nat.le_of_ble_eq_true rfl⟩) X (va_recv X.1 X.2.1 (ci := 4) (q0 := 0) rfl wlR_0) rfl hl.1 rfl (Nat.le_of_ble_eq_true rfl) dX6_commonEnd_16 ⟨Nat.zero_le _, Nat.zero_le _⟩ (fun H locs X => ?_)
    refine lv_aload_n hx hb dX6_commonEnd_19 rfl (lv_at hl 0 rfl) ?_
    refine lv_iload_n hx hb dX6_commonEnd_20 rfl (lv_at hl 2 rfl) ?_
    refine lv_sipush (v := (490 : Int32)) hx hb dX6_commonEnd_21 rfl ?_
    refine xb hf (fun v3 hv hf => ?_)
    refine xc_V0 (rest := []) ⟨hx, hb, hml, hown, hts⟩ (mX6_laysBack hv) (cwV 2 hts gX6_commonEnd_X6_laysBack rfl rfl rfl hqX6_laysBack ⟨Nat.le_of_ble_eq_true rfl, Nat.le_of_ble_eq_true rfl⟩) X (va_recv X.1 X.2.1 (ci := 4) (q0 := 0) rfl wlR_0) rfl hl.1 rfl (Nat.le_of_ble_eq_true rfl) dX6_commonEnd_24 ⟨Nat.zero_le _, Nat.zero_le _⟩ (fun H locs X => ?_)
    refine lv_aload_n hx hb dX6_commonEnd_27 rfl (lv_at hl 0 rfl) ?_
    refine lv_sipush (v := (360 : Int32)) hx hb dX6_commonEnd_28 rfl ?_
    refine lv_aload_n hx hb dX6_commonEnd_31 rfl (lv_at hl 0 rfl) ?_
    refine xg_f hx hb hts hown X h6 0 wlR_0 rfl 2 (by decide) (by decide +kernel) (v := .ref (bd 2)) rfl dX6_commonEnd_32 ?_
    refine lv_iload_n hx hb dX6_commonEnd_35 rfl (lv_at hl 1 rfl) ?_
    refine xa_iald hx hb X 2 wlR_2 dX6_commonEnd_36 hf (fun v4 hf => ?_)
    refine lv_sipush (v := (490 : Int32)) hx hb dX6_commonEnd_37 rfl ?_
    refine lv_aload_n hx hb dX6_commonEnd_40 rfl (lv_at hl 0 rfl) ?_
    refine xg_f hx hb hts hown X h6 0 wlR_0 rfl 2 (by decide) (by decide +kernel) (v := .ref (bd 2)) rfl dX6_commonEnd_41 ?_
    refine lv_iload_n hx hb dX6_commonEnd_44 rfl (lv_at hl 2 rfl) ?_
    refine xa_iald hx hb X 2 wlR_2 dX6_commonEnd_45 hf (fun v5 hf => ?_)
    refine xb hf (fun v6 hv hf => ?_)
    refine xc_V1 (rest := []) ⟨hx, hb, hml, hown, hts⟩ (mX6_alike hv) (cwV 4 hts gX6_commonEnd_X6_alike rfl rfl rfl hqX6_alike ⟨Nat.le_of_ble_eq_true rfl, Nat.le_of_ble_eq_true rfl⟩) X (va_recv X.1 X.2.1 (ci := 4) (q0 := 0) rfl wlR_0) rfl hl.1 rfl (Nat.le_of_ble_eq_true rfl) dX6_commonEnd_46 ⟨Nat.zero_le _, Nat.zero_le _⟩ (fun H locs X => ?_)
    cases hf
    exact xe_i hx hb hr hlocks X dX6_commonEnd_49
  · refine lv_iconst (v := (0 : Int32)) hx hb dX6_commonEnd_9 rfl ?_
    cases hf
    exact xe_i hx hb hr hlocks X dX6_commonEnd_10
set_option maxRecDepth 100000 in
set_option maxHeartbeats 4000000 in
theorem mX6_behind {l : Launch} {dd : va_G} {cy : Nat → ClassId} {bd : Nat → Nat} {A : Nat → Prop} {fu : Nat} {th : Int32} {ce : Nat → Int32} {sz : Nat → Int32} {wy : Nat → Int64} {op : Nat → Int32} {x1 : Int32} {x2 : Int32} {rv : Int32} (hf : fX6_behind fu ce sz x1 x2 = some rv) : Met l yX6_behind wsX6_behind { frames := 1, cells := 0, slots := 0, locals := 20 } (va_Pc [.ref (bd 0), .int x1, .int x2] (IW dd cy A (wlR bd cy th ce sz wy op))) (QX dd cy A (some (.int rv)) (wlR bd cy th ce sz wy op)) 0 0 A := by
  refine Met.ofW (cc := cX6_behind) (maxL := 5) (ret := some .int) (by decide) rfl ?_
  intro p e s m args below meth c s₁ B hml hv
  obtain ⟨hav, hI⟩ := hv
  have hx := B.exec
  have hb := B.bytes
  have hr := B.returns
  have hts := atoms_spec (ws := wsX6_behind) B.pre
  have hown : s.vm.findClass RX6 = some m.cls := findClass_of_methodNamed B.named
  have hlocks := B.notSynchronized
  have X := XW.of hI
  have h6 : ∀ w ∈ wsX60, w ∈ wsX6_behind := by decide +kernel
  refine xe_in hav (Nat.le_of_ble_eq_true rfl) rfl (fun ls hl => ?_)
  have w5 : ∀ (y2 : Int32) (n : Nat) (y3 : Int32) (y4 : Int32), fX6_behind_5 fu ce sz y2 n y3 y4 = some rv → ∀ (H : Heap) (locs : List Loc) (ls : Array Slot), XW dd cy A s (wlR bd cy th ce sz wy op) H locs → lv_has ls 5 [(0, .ref (bd 0)), (2, .int y2), (3, .int y3), (4, .int y4)] → W p l e (headSpec wsX6_behind { frames := 1, cells := 0, slots := 0, locals := 20 }).room s m args below meth c H locs 0 0 (MQ below (QX dd cy A (some (.int rv)) (wlR bd cy th ce sz wy op)) args s 0 0 A) (F0 m 5 ls []) := by
    intro y2 n
    induction n with
    | zero => intro y3 y4 hf; exact absurd hf (by simp [fX6_behind_5])
    | succ n ih =>
      intro y3 y4 hf H locs ls X hl
      rw [fX6_behind_5] at hf
      refine lv_iload hx hb dX6_behind_5 (lv_at hl 3 rfl) ?_
      refine lv_aload_n hx hb dX6_behind_7 rfl (lv_at hl 0 rfl) ?_
      refine xg_f hx hb hts hown X h6 0 wlR_0 rfl 2 (by decide) (by decide +kernel) (v := .ref (bd 2)) rfl dX6_behind_8 ?_
      refine lv_iload_n hx hb dX6_behind_11 rfl (lv_at hl 1 rfl) ?_
      refine xa_iald hx hb X 2 wlR_2 dX6_behind_12 hf (fun v1 hf => ?_)
      refine xr_icmp_ge (tgt := 40) hx hb dX6_behind_13 rfl hf (fun hf => ?_) (fun hf => ?_)
      · refine lv_iload_n hx hb dX6_behind_40 rfl (lv_at hl 2 rfl) ?_
        cases hf
        exact xe_i hx hb hr hlocks X dX6_behind_41
      · refine lv_bipush (v := (31 : Int32)) hx hb dX6_behind_16 rfl ?_
        refine lv_iload_n hx hb dX6_behind_18 rfl (lv_at hl 2 rfl) ?_
        refine lv_imul hx hb dX6_behind_19 ?_
        refine lv_aload_n hx hb dX6_behind_20 rfl (lv_at hl 0 rfl) ?_
        refine xg_f hx hb hts hown X h6 0 wlR_0 rfl 1 (by decide) (by decide +kernel) (v := .ref (bd 1)) rfl dX6_behind_21 ?_
        refine lv_iload_n hx hb dX6_behind_24 rfl (lv_at hl 1 rfl) ?_
        refine xb hf (fun v2 hv hf => ?_)
        refine xc_S1 (rest := [.ref (bd 1), .int ((31 : Int32) * y3)]) ⟨hx, hb, hml, hown, hts⟩ (mX6_baseOf hv) (va_cwS 1 hts gX6_behind_X6_baseOf rfl rfl rfl hqX6_baseOf ⟨Nat.le_of_ble_eq_true rfl, Nat.le_of_ble_eq_true rfl⟩) X rfl hl.1 rfl (Nat.le_of_ble_eq_true rfl) dX6_behind_25 ⟨Nat.zero_le _, Nat.zero_le _⟩ (fun H locs X => ?_)
        refine lv_iload hx hb dX6_behind_28 (lv_at hl 3 rfl) ?_
        refine lv_iadd hx hb dX6_behind_30 ?_
        refine xa_iald hx hb X 1 wlR_1 dX6_behind_31 hf (fun v3 hf => ?_)
        refine lv_iadd hx hb dX6_behind_32 ?_
        refine lv_istore_n (lv' := [(3, .int (((31 : Int32) * y3) + v3)), (0, .ref (bd 0)), (2, .int y2), (4, .int y4)]) hx hb dX6_behind_33 rfl hl (by decide) rfl (fun ls hl => ?_)
        refine lv_iinc (v := (y4 + 1)) (lv' := [(4, .int (y4 + 1)), (3, .int (((31 : Int32) * y3) + v3)), (0, .ref (bd 0)), (2, .int y2)]) hx hb dX6_behind_34 hl (k := 3) rfl ii_1 (by decide) rfl (fun ls hl => ?_)
        refine lv_goto (tgt := 5) hx hb dX6_behind_37 rfl ?_
        exact ih (((31 : Int32) * y3) + v3) (y4 + 1) hf _ _ _ X (lv_sub hl [2, 3, 1, 0] rfl)
  rw [fX6_behind] at hf
  refine lv_iload_n hx hb dX6_behind_0 rfl (lv_at hl 1 rfl) ?_
  refine lv_istore_n (lv' := [(3, .int x1), (0, .ref (bd 0)), (1, .int x1), (2, .int x2)]) hx hb dX6_behind_1 rfl hl (by decide) rfl (fun ls hl => ?_)
  refine lv_iconst (v := (0 : Int32)) hx hb dX6_behind_2 rfl ?_
  refine lv_istore (lv' := [(4, .int (0 : Int32)), (3, .int x1), (0, .ref (bd 0)), (1, .int x1), (2, .int x2)]) hx hb dX6_behind_3 hl (by decide) rfl (fun ls hl => ?_)
  exact w5 x2 fu x1 (0 : Int32) hf _ _ _ X (lv_sub hl [2, 4, 1, 0] rfl)
set_option maxRecDepth 100000 in
set_option maxHeartbeats 4000000 in
theorem mX6_hash {l : Launch} {dd : va_G} {cy : Nat → ClassId} {bd : Nat → Nat} {A : Nat → Prop} {fu : Nat} {th : Int32} {ce : Nat → Int32} {sz : Nat → Int32} {wy : Nat → Int64} {op : Nat → Int32} {x1 : Int32} {rv : Int32} {tho : Int32} (hf : fX6_hash fu th ce sz x1 = some (rv, tho)) : Met l yX6_hash wsX6_hash { frames := 2, cells := 0, slots := 0, locals := 46 } (va_Pc [.ref (bd 0), .int x1] (IW dd cy A (wlR bd cy th ce sz wy op))) (QX dd cy A (some (.int rv)) (wlR bd cy tho ce sz wy op)) 0 0 A := by
  refine Met.ofW (cc := cX6_hash) (maxL := 2) (ret := some .int) (by decide) rfl ?_
  intro p e s m args below meth c s₁ B hml hv
  obtain ⟨hav, hI⟩ := hv
  have hx := B.exec
  have hb := B.bytes
  have hr := B.returns
  have hts := atoms_spec (ws := wsX6_hash) B.pre
  have hown : s.vm.findClass RX6 = some m.cls := findClass_of_methodNamed B.named
  have hlocks := B.notSynchronized
  have X := XW.of hI
  refine xe_in hav (Nat.le_of_ble_eq_true rfl) rfl (fun ls hl => ?_)
  rw [fX6_hash] at hf
  refine lv_aload_n hx hb dX6_hash_0 rfl (lv_at hl 0 rfl) ?_
  refine lv_iload_n hx hb dX6_hash_1 rfl (lv_at hl 1 rfl) ?_
  refine xb hf (fun v1 hv hf => ?_)
  refine xc_V1 (rest := []) ⟨hx, hb, hml, hown, hts⟩ (mX6_isNo hv) (cwV 1 hts gX6_hash_X6_isNo rfl rfl rfl hqX6_isNo ⟨Nat.le_of_ble_eq_true rfl, Nat.le_of_ble_eq_true rfl⟩) X (va_recv X.1 X.2.1 (ci := 4) (q0 := 0) rfl wlR_0) rfl hl.1 rfl (Nat.le_of_ble_eq_true rfl) dX6_hash_2 ⟨Nat.zero_le _, Nat.zero_le _⟩ (fun H locs X => ?_)
  refine xr_if_eq (tgt := 12) hx hb dX6_hash_5 rfl hf (fun hf => ?_) (fun hf => ?_)
  · refine lv_aload_n hx hb dX6_hash_12 rfl (lv_at hl 0 rfl) ?_
    refine lv_iconst (v := (0 : Int32)) hx hb dX6_hash_13 rfl ?_
    refine lv_iload_n hx hb dX6_hash_14 rfl (lv_at hl 1 rfl) ?_
    refine xb hf (fun v2 hv hf => ?_)
    refine xc_V1 (rest := []) ⟨hx, hb, hml, hown, hts⟩ (mX6_behind hv) (cwV 2 hts gX6_hash_X6_behind rfl rfl rfl hqX6_behind ⟨Nat.le_of_ble_eq_true rfl, Nat.le_of_ble_eq_true rfl⟩) X (va_recv X.1 X.2.1 (ci := 4) (q0 := 0) rfl wlR_0) rfl hl.1 rfl (Nat.le_of_ble_eq_true rfl) dX6_hash_15 ⟨Nat.zero_le _, Nat.zero_le _⟩ (fun H locs X => ?_)
    cases hf
    exact xe_i hx hb hr hlocks X dX6_hash_18
  · refine lv_iconst (v := (0 : Int32)) hx hb dX6_hash_8 rfl ?_
    refine lv_goto (tgt := 18) hx hb dX6_hash_9 rfl ?_
    cases hf
    exact xe_i hx hb hr hlocks X dX6_hash_18
set_option maxRecDepth 100000 in
set_option maxHeartbeats 4000000 in
theorem mX6_hashJoined {l : Launch} {dd : va_G} {cy : Nat → ClassId} {bd : Nat → Nat} {A : Nat → Prop} {fu : Nat} {th : Int32} {ce : Nat → Int32} {sz : Nat → Int32} {wy : Nat → Int64} {op : Nat → Int32} {x1 : Int32} {x2 : Int32} {rv : Int32} {tho : Int32} (hf : fX6_hashJoined fu th ce sz x1 x2 = some (rv, tho)) : Met l yX6_hashJoined wsX6_hashJoined { frames := 3, cells := 0, slots := 0, locals := 68 } (va_Pc [.ref (bd 0), .int x1, .int x2] (IW dd cy A (wlR bd cy th ce sz wy op))) (QX dd cy A (some (.int rv)) (wlR bd cy tho ce sz wy op)) 0 0 A := by
  refine Met.ofW (cc := cX6_hashJoined) (maxL := 3) (ret := some .int) (by decide) rfl ?_
  intro p e s m args below meth c s₁ B hml hv
  obtain ⟨hav, hI⟩ := hv
  have hx := B.exec
  have hb := B.bytes
  have hr := B.returns
  have hts := atoms_spec (ws := wsX6_hashJoined) B.pre
  have hown : s.vm.findClass RX6 = some m.cls := findClass_of_methodNamed B.named
  have hlocks := B.notSynchronized
  have X := XW.of hI
  refine xe_in hav (Nat.le_of_ble_eq_true rfl) rfl (fun ls hl => ?_)
  rw [fX6_hashJoined] at hf
  refine lv_aload_n hx hb dX6_hashJoined_0 rfl (lv_at hl 0 rfl) ?_
  refine lv_iload_n hx hb dX6_hashJoined_1 rfl (lv_at hl 1 rfl) ?_
  refine lv_iload_n hx hb dX6_hashJoined_2 rfl (lv_at hl 2 rfl) ?_
  refine xb hf (fun v1 hv hf => ?_)
  refine xc_V1 (rest := []) ⟨hx, hb, hml, hown, hts⟩ (mX6_isNoOf hv) (cwV 2 hts gX6_hashJoined_X6_isNoOf rfl rfl rfl hqX6_isNoOf ⟨Nat.le_of_ble_eq_true rfl, Nat.le_of_ble_eq_true rfl⟩) X (va_recv X.1 X.2.1 (ci := 4) (q0 := 0) rfl wlR_0) rfl hl.1 rfl (Nat.le_of_ble_eq_true rfl) dX6_hashJoined_3 ⟨Nat.zero_le _, Nat.zero_le _⟩ (fun H locs X => ?_)
  refine xr_if_eq (tgt := 13) hx hb dX6_hashJoined_6 rfl hf (fun hf => ?_) (fun hf => ?_)
  · refine lv_aload_n hx hb dX6_hashJoined_13 rfl (lv_at hl 0 rfl) ?_
    refine lv_aload_n hx hb dX6_hashJoined_14 rfl (lv_at hl 0 rfl) ?_
    refine lv_iconst (v := (0 : Int32)) hx hb dX6_hashJoined_15 rfl ?_
    refine lv_iload_n hx hb dX6_hashJoined_16 rfl (lv_at hl 1 rfl) ?_
    refine xb hf (fun v2 hv hf => ?_)
    refine xc_V1 (rest := [.ref (bd 0)]) ⟨hx, hb, hml, hown, hts⟩ (mX6_behind hv) (cwV 2 hts gX6_hashJoined_X6_behind rfl rfl rfl hqX6_behind ⟨Nat.le_of_ble_eq_true rfl, Nat.le_of_ble_eq_true rfl⟩) X (va_recv X.1 X.2.1 (ci := 4) (q0 := 0) rfl wlR_0) rfl hl.1 rfl (Nat.le_of_ble_eq_true rfl) dX6_hashJoined_17 ⟨Nat.zero_le _, Nat.zero_le _⟩ (fun H locs X => ?_)
    refine lv_iload_n hx hb dX6_hashJoined_20 rfl (lv_at hl 2 rfl) ?_
    refine xb hf (fun v3 hv hf => ?_)
    refine xc_V1 (rest := []) ⟨hx, hb, hml, hown, hts⟩ (mX6_behind hv) (cwV 2 hts gX6_hashJoined_X6_behind rfl rfl rfl hqX6_behind ⟨Nat.le_of_ble_eq_true rfl, Nat.le_of_ble_eq_true rfl⟩) X (va_recv X.1 X.2.1 (ci := 4) (q0 := 0) rfl wlR_0) rfl hl.1 rfl (Nat.le_of_ble_eq_true rfl) dX6_hashJoined_21 ⟨Nat.zero_le _, Nat.zero_le _⟩ (fun H locs X => ?_)
    cases hf
    exact xe_i hx hb hr hlocks X dX6_hashJoined_24
  · refine lv_iconst (v := (0 : Int32)) hx hb dX6_hashJoined_9 rfl ?_
    refine lv_goto (tgt := 24) hx hb dX6_hashJoined_10 rfl ?_
    cases hf
    exact xe_i hx hb hr hlocks X dX6_hashJoined_24
set_option maxRecDepth 100000 in
set_option maxHeartbeats 4000000 in
theorem mX6_hashRepeated {l : Launch} {dd : va_G} {cy : Nat → ClassId} {bd : Nat → Nat} {A : Nat → Prop} {fu : Nat} {th : Int32} {ce : Nat → Int32} {sz : Nat → Int32} {wy : Nat → Int64} {op : Nat → Int32} {x1 : Int32} {x2 : Int32} {rv : Int32} {tho : Int32} (hf : fX6_hashRepeated fu th ce sz x1 x2 = some (rv, tho)) : Met l yX6_hashRepeated wsX6_hashRepeated { frames := 2, cells := 0, slots := 0, locals := 46 } (va_Pc [.ref (bd 0), .int x1, .int x2] (IW dd cy A (wlR bd cy th ce sz wy op))) (QX dd cy A (some (.int rv)) (wlR bd cy tho ce sz wy op)) 0 0 A := by
  refine Met.ofW (cc := cX6_hashRepeated) (maxL := 5) (ret := some .int) (by decide) rfl ?_
  intro p e s m args below meth c s₁ B hml hv
  obtain ⟨hav, hI⟩ := hv
  have hx := B.exec
  have hb := B.bytes
  have hr := B.returns
  have hts := atoms_spec (ws := wsX6_hashRepeated) B.pre
  have hown : s.vm.findClass RX6 = some m.cls := findClass_of_methodNamed B.named
  have hlocks := B.notSynchronized
  have X := XW.of hI
  refine xe_in hav (Nat.le_of_ble_eq_true rfl) rfl (fun ls hl => ?_)
  have w40 : ∀ (y1 : Int32) (y2 : Int32) (n : Nat) (y3 : Int32) (y4 : Int32) (th : Int32), fX6_hashRepeated_40 fu ce sz y1 y2 n y3 y4 th = some (rv, tho) → ∀ (H : Heap) (locs : List Loc) (ls : Array Slot), XW dd cy A s (wlR bd cy th ce sz wy op) H locs → lv_has ls 5 [(0, .ref (bd 0)), (1, .int y1), (2, .int y2), (3, .int y3), (4, .int y4)] → W p l e (headSpec wsX6_hashRepeated { frames := 2, cells := 0, slots := 0, locals := 46 }).room s m args below meth c H locs 0 0 (MQ below (QX dd cy A (some (.int rv)) (wlR bd cy tho ce sz wy op)) args s 0 0 A) (F0 m 40 ls []) := by
    intro y1 y2 n
    induction n with
    | zero => intro y3 y4 th hf; exact absurd hf (by simp [fX6_hashRepeated_40])
    | succ n ih =>
      intro y3 y4 th hf H locs ls X hl
      rw [fX6_hashRepeated_40] at hf
      refine lv_iload hx hb dX6_hashRepeated_40 (lv_at hl 4 rfl) ?_
      refine lv_iload_n hx hb dX6_hashRepeated_42 rfl (lv_at hl 2 rfl) ?_
      refine xr_icmp_ge (tgt := 59) hx hb dX6_hashRepeated_43 rfl hf (fun hf => ?_) (fun hf => ?_)
      · refine lv_iload_n hx hb dX6_hashRepeated_59 rfl (lv_at hl 3 rfl) ?_
        cases hf
        exact xe_i hx hb hr hlocks X dX6_hashRepeated_60
      · refine lv_aload_n hx hb dX6_hashRepeated_46 rfl (lv_at hl 0 rfl) ?_
        refine lv_iload_n hx hb dX6_hashRepeated_47 rfl (lv_at hl 3 rfl) ?_
        refine lv_iload_n hx hb dX6_hashRepeated_48 rfl (lv_at hl 1 rfl) ?_
        refine xb hf (fun v4 hv hf => ?_)
        refine xc_V1 (rest := []) ⟨hx, hb, hml, hown, hts⟩ (mX6_behind hv) (cwV 2 hts gX6_hashRepeated_X6_behind rfl rfl rfl hqX6_behind ⟨Nat.le_of_ble_eq_true rfl, Nat.le_of_ble_eq_true rfl⟩) X (va_recv X.1 X.2.1 (ci := 4) (q0 := 0) rfl wlR_0) rfl hl.1 rfl (Nat.le_of_ble_eq_true rfl) dX6_hashRepeated_49 ⟨Nat.zero_le _, Nat.zero_le _⟩ (fun H locs X => ?_)
        refine lv_istore_n (lv' := [(3, .int v4), (0, .ref (bd 0)), (1, .int y1), (2, .int y2), (4, .int y4)]) hx hb dX6_hashRepeated_52 rfl hl (by decide) rfl (fun ls hl => ?_)
        refine lv_iinc (v := (y4 + 1)) (lv' := [(4, .int (y4 + 1)), (3, .int v4), (0, .ref (bd 0)), (1, .int y1), (2, .int y2)]) hx hb dX6_hashRepeated_53 hl (k := 4) rfl ii_1 (by decide) rfl (fun ls hl => ?_)
        refine lv_goto (tgt := 40) hx hb dX6_hashRepeated_56 rfl ?_
        exact ih v4 (y4 + 1) th hf _ _ _ X (lv_sub hl [2, 3, 4, 1, 0] rfl)
  have w26 : ∀ (y1 : Int32) (y2 : Int32) (s0 : Int32) (th : Int32), fX6_hashRepeated_26 fu ce sz y1 y2 s0 th = some (rv, tho) → ∀ (H : Heap) (locs : List Loc) (ls : Array Slot), XW dd cy A s (wlR bd cy th ce sz wy op) H locs → lv_has ls 5 [(0, .ref (bd 0)), (1, .int y1), (2, .int y2)] → W p l e (headSpec wsX6_hashRepeated { frames := 2, cells := 0, slots := 0, locals := 46 }).room s m args below meth c H locs 0 0 (MQ below (QX dd cy A (some (.int rv)) (wlR bd cy tho ce sz wy op)) args s 0 0 A) (F0 m 26 ls [.int s0, .ref (bd 0)]) := by
    intro y1 y2 s0 th hf H locs ls X hl
    rw [fX6_hashRepeated_26] at hf
    refine lv_iconst (v := (2 : Int32)) hx hb dX6_hashRepeated_26 rfl ?_
    refine xb hf (fun v3 hv hf => ?_)
    refine xc_V1 (rest := []) ⟨hx, hb, hml, hown, hts⟩ (mX6_isThrown hv) (cwV 2 hts gX6_hashRepeated_X6_isThrown rfl rfl rfl hqX6_isThrown ⟨Nat.le_of_ble_eq_true rfl, Nat.le_of_ble_eq_true rfl⟩) X (va_recv X.1 X.2.1 (ci := 4) (q0 := 0) rfl wlR_0) rfl hl.1 rfl (Nat.le_of_ble_eq_true rfl) dX6_hashRepeated_27 ⟨Nat.zero_le _, Nat.zero_le _⟩ (fun H locs X => ?_)
    refine xr_if_eq (tgt := 35) hx hb dX6_hashRepeated_30 rfl hf (fun hf => ?_) (fun hf => ?_)
    · refine lv_iconst (v := (0 : Int32)) hx hb dX6_hashRepeated_35 rfl ?_
      refine lv_istore_n (lv' := [(3, .int (0 : Int32)), (0, .ref (bd 0)), (1, .int y1), (2, .int y2)]) hx hb dX6_hashRepeated_36 rfl hl (by decide) rfl (fun ls hl => ?_)
      refine lv_iconst (v := (0 : Int32)) hx hb dX6_hashRepeated_37 rfl ?_
      refine lv_istore (lv' := [(4, .int (0 : Int32)), (3, .int (0 : Int32)), (0, .ref (bd 0)), (1, .int y1), (2, .int y2)]) hx hb dX6_hashRepeated_38 hl (by decide) rfl (fun ls hl => ?_)
      exact w40 y1 y2 fu (0 : Int32) (0 : Int32) v3.2 hf _ _ _ X (lv_sub hl [2, 3, 4, 1, 0] rfl)
    · refine lv_iconst (v := (0 : Int32)) hx hb dX6_hashRepeated_33 rfl ?_
      cases hf
      exact xe_i hx hb hr hlocks X dX6_hashRepeated_34
  rw [fX6_hashRepeated] at hf
  refine lv_aload_n hx hb dX6_hashRepeated_0 rfl (lv_at hl 0 rfl) ?_
  refine lv_iload_n hx hb dX6_hashRepeated_1 rfl (lv_at hl 1 rfl) ?_
  refine xb hf (fun v1 hv hf => ?_)
  refine xc_V1 (rest := []) ⟨hx, hb, hml, hown, hts⟩ (mX6_isNo hv) (cwV 1 hts gX6_hashRepeated_X6_isNo rfl rfl rfl hqX6_isNo ⟨Nat.le_of_ble_eq_true rfl, Nat.le_of_ble_eq_true rfl⟩) X (va_recv X.1 X.2.1 (ci := 4) (q0 := 0) rfl wlR_0) rfl hl.1 rfl (Nat.le_of_ble_eq_true rfl) dX6_hashRepeated_2 ⟨Nat.zero_le _, Nat.zero_le _⟩ (fun H locs X => ?_)
  refine xr_if_ne (tgt := 33) hx hb dX6_hashRepeated_5 rfl hf (fun hf => ?_) (fun hf => ?_)
  · refine lv_iconst (v := (0 : Int32)) hx hb dX6_hashRepeated_33 rfl ?_
    cases hf
    exact xe_i hx hb hr hlocks X dX6_hashRepeated_34
  · refine lv_aload_n hx hb dX6_hashRepeated_8 rfl (lv_at hl 0 rfl) ?_
    refine lv_iload_n hx hb dX6_hashRepeated_9 rfl (lv_at hl 2 rfl) ?_
    refine lv_i2l (v := (x2.toInt64)) hx hb dX6_hashRepeated_10 rfl ?_
    refine lv_lconst (v := (0 : Int64)) hx hb dX6_hashRepeated_11 rfl ?_
    refine lv_ldc2 (v := (1000 : Int64)) hx hb hown (hts (.constantLong RX6 112 (1000)) (by decide +kernel)) dX6_hashRepeated_12 ?_
    refine xb hf (fun v2 hv hf => ?_)
    refine xc_S1 (rest := [.ref (bd 0)]) ⟨hx, hb, hml, hown, hts⟩ (mX6_isIn hv) (va_cwS 3 hts gX6_hashRepeated_X6_isIn rfl rfl rfl hqX6_isIn ⟨Nat.le_of_ble_eq_true rfl, Nat.le_of_ble_eq_true rfl⟩) X rfl hl.1 rfl (Nat.le_of_ble_eq_true rfl) dX6_hashRepeated_15 ⟨Nat.zero_le _, Nat.zero_le _⟩ (fun H locs X => ?_)
    refine xr_if_ne (tgt := 25) hx hb dX6_hashRepeated_18 rfl hf (fun hf => ?_) (fun hf => ?_)
    · refine lv_iconst (v := (0 : Int32)) hx hb dX6_hashRepeated_25 rfl ?_
      exact w26 x1 x2 (0 : Int32) v1.2 hf _ _ _ X (lv_sub hl [0, 1, 2] rfl)
    · refine lv_iconst (v := (1 : Int32)) hx hb dX6_hashRepeated_21 rfl ?_
      refine lv_goto (tgt := 26) hx hb dX6_hashRepeated_22 rfl ?_
      exact w26 x1 x2 (1 : Int32) v1.2 hf _ _ _ X (lv_sub hl [0, 1, 2] rfl)
set_option maxRecDepth 100000 in
set_option maxHeartbeats 4000000 in
theorem mX6_isPeriod {l : Launch} {dd : va_G} {cy : Nat → ClassId} {bd : Nat → Nat} {A : Nat → Prop} {fu : Nat} {th : Int32} {ce : Nat → Int32} {sz : Nat → Int32} {wy : Nat → Int64} {op : Nat → Int32} {x1 : Int32} {x2 : Int32} {rv : Int32} (hf : fX6_isPeriod fu ce sz x1 x2 = some rv) : Met l yX6_isPeriod wsX6_isPeriod { frames := 1, cells := 0, slots := 0, locals := 25 } (va_Pc [.ref (bd 0), .int x1, .int x2] (IW dd cy A (wlR bd cy th ce sz wy op))) (QX dd cy A (some (.int rv)) (wlR bd cy th ce sz wy op)) 0 0 A := by
  refine Met.ofW (cc := cX6_isPeriod) (maxL := 5) (ret := some .boolean) (by decide) rfl ?_
  intro p e s m args below meth c s₁ B hml hv
  obtain ⟨hav, hI⟩ := hv
  have hx := B.exec
  have hb := B.bytes
  have hr := B.returns
  have hts := atoms_spec (ws := wsX6_isPeriod) B.pre
  have hown : s.vm.findClass RX6 = some m.cls := findClass_of_methodNamed B.named
  have hlocks := B.notSynchronized
  have X := XW.of hI
  have h6 : ∀ w ∈ wsX60, w ∈ wsX6_isPeriod := by decide +kernel
  refine xe_in hav (Nat.le_of_ble_eq_true rfl) rfl (fun ls hl => ?_)
  have w17 : ∀ (y1 : Int32) (y2 : Int32) (n : Nat) (y3 : Int32) (y4 : Int32), fX6_isPeriod_17 fu ce sz y1 y2 n y3 y4 = some rv → ∀ (H : Heap) (locs : List Loc) (ls : Array Slot), XW dd cy A s (wlR bd cy th ce sz wy op) H locs → lv_has ls 5 [(0, .ref (bd 0)), (1, .int y1), (2, .int y2), (3, .int y3), (4, .int y4)] → W p l e (headSpec wsX6_isPeriod { frames := 1, cells := 0, slots := 0, locals := 25 }).room s m args below meth c H locs 0 0 (MQ below (QX dd cy A (some (.int rv)) (wlR bd cy th ce sz wy op)) args s 0 0 A) (F0 m 17 ls []) := by
    intro y1 y2 n
    induction n with
    | zero => intro y3 y4 hf; exact absurd hf (by simp [fX6_isPeriod_17])
    | succ n ih =>
      intro y3 y4 hf H locs ls X hl
      rw [fX6_isPeriod_17] at hf
      refine lv_iload_n hx hb dX6_isPeriod_17 rfl (lv_at hl 3 rfl) ?_
      refine xr_if_eq (tgt := 75) hx hb dX6_isPeriod_18 rfl hf (fun hf => ?_) (fun hf => ?_)
      · refine lv_iload_n hx hb dX6_isPeriod_75 rfl (lv_at hl 3 rfl) ?_
        refine xb hf (fun z9 hz hf => ?_)
        obtain ⟨hn, rfl⟩ := ckZ_some hz
        cases hf
        exact xe_z hx hb hr hlocks X hn dX6_isPeriod_76
      · refine lv_iload hx hb dX6_isPeriod_21 (lv_at hl 4 rfl) ?_
        refine lv_iload_n hx hb dX6_isPeriod_23 rfl (lv_at hl 2 rfl) ?_
        refine lv_iadd hx hb dX6_isPeriod_24 ?_
        refine lv_aload_n hx hb dX6_isPeriod_25 rfl (lv_at hl 0 rfl) ?_
        refine xg_f hx hb hts hown X h6 0 wlR_0 rfl 2 (by decide) (by decide +kernel) (v := .ref (bd 2)) rfl dX6_isPeriod_26 ?_
        refine lv_iload_n hx hb dX6_isPeriod_29 rfl (lv_at hl 1 rfl) ?_
        refine xa_iald hx hb X 2 wlR_2 dX6_isPeriod_30 hf (fun v3 hf => ?_)
        refine xr_icmp_ge (tgt := 75) hx hb dX6_isPeriod_31 rfl hf (fun hf => ?_) (fun hf => ?_)
        · refine lv_iload_n hx hb dX6_isPeriod_75 rfl (lv_at hl 3 rfl) ?_
          refine xb hf (fun z9 hz hf => ?_)
          obtain ⟨hn, rfl⟩ := ckZ_some hz
          cases hf
          exact xe_z hx hb hr hlocks X hn dX6_isPeriod_76
        · refine lv_aload_n hx hb dX6_isPeriod_34 rfl (lv_at hl 0 rfl) ?_
          refine xg_f hx hb hts hown X h6 0 wlR_0 rfl 1 (by decide) (by decide +kernel) (v := .ref (bd 1)) rfl dX6_isPeriod_35 ?_
          refine lv_iload_n hx hb dX6_isPeriod_38 rfl (lv_at hl 1 rfl) ?_
          refine xb hf (fun v4 hv hf => ?_)
          refine xc_S1 (rest := [.ref (bd 1)]) ⟨hx, hb, hml, hown, hts⟩ (mX6_baseOf hv) (va_cwS 1 hts gX6_isPeriod_X6_baseOf rfl rfl rfl hqX6_baseOf ⟨Nat.le_of_ble_eq_true rfl, Nat.le_of_ble_eq_true rfl⟩) X rfl hl.1 rfl (Nat.le_of_ble_eq_true rfl) dX6_isPeriod_39 ⟨Nat.zero_le _, Nat.zero_le _⟩ (fun H locs X => ?_)
          refine lv_iload hx hb dX6_isPeriod_42 (lv_at hl 4 rfl) ?_
          refine lv_iadd hx hb dX6_isPeriod_44 ?_
          refine xa_iald hx hb X 1 wlR_1 dX6_isPeriod_45 hf (fun v5 hf => ?_)
          refine lv_aload_n hx hb dX6_isPeriod_46 rfl (lv_at hl 0 rfl) ?_
          refine xg_f hx hb hts hown X h6 0 wlR_0 rfl 1 (by decide) (by decide +kernel) (v := .ref (bd 1)) rfl dX6_isPeriod_47 ?_
          refine lv_iload_n hx hb dX6_isPeriod_50 rfl (lv_at hl 1 rfl) ?_
          refine xb hf (fun v6 hv hf => ?_)
          refine xc_S1 (rest := [.ref (bd 1), .int v5]) ⟨hx, hb, hml, hown, hts⟩ (mX6_baseOf hv) (va_cwS 1 hts gX6_isPeriod_X6_baseOf rfl rfl rfl hqX6_baseOf ⟨Nat.le_of_ble_eq_true rfl, Nat.le_of_ble_eq_true rfl⟩) X rfl hl.1 rfl (Nat.le_of_ble_eq_true rfl) dX6_isPeriod_51 ⟨Nat.zero_le _, Nat.zero_le _⟩ (fun H locs X => ?_)
          refine lv_iload hx hb dX6_isPeriod_54 (lv_at hl 4 rfl) ?_
          refine lv_iadd hx hb dX6_isPeriod_56 ?_
          refine lv_iload_n hx hb dX6_isPeriod_57 rfl (lv_at hl 2 rfl) ?_
          refine lv_iadd hx hb dX6_isPeriod_58 ?_
          refine xa_iald hx hb X 1 wlR_1 dX6_isPeriod_59 hf (fun v7 hf => ?_)
          refine xr_icmp_ne (tgt := 67) hx hb dX6_isPeriod_60 rfl hf (fun hf => ?_) (fun hf => ?_)
          · refine lv_iconst (v := (0 : Int32)) hx hb dX6_isPeriod_67 rfl ?_
            refine lv_istore_n (lv' := [(3, .int (0 : Int32)), (0, .ref (bd 0)), (1, .int y1), (2, .int y2), (4, .int y4)]) hx hb dX6_isPeriod_68 rfl hl (by decide) rfl (fun ls hl => ?_)
            refine lv_iinc (v := (y4 + 1)) (lv' := [(4, .int (y4 + 1)), (3, .int (0 : Int32)), (0, .ref (bd 0)), (1, .int y1), (2, .int y2)]) hx hb dX6_isPeriod_69 hl (k := 4) rfl ii_1 (by decide) rfl (fun ls hl => ?_)
            refine lv_goto (tgt := 17) hx hb dX6_isPeriod_72 rfl ?_
            exact ih (0 : Int32) (y4 + 1) hf _ _ _ X (lv_sub hl [2, 3, 4, 1, 0] rfl)
          · refine lv_iconst (v := (1 : Int32)) hx hb dX6_isPeriod_63 rfl ?_
            refine lv_goto (tgt := 68) hx hb dX6_isPeriod_64 rfl ?_
            refine lv_istore_n (lv' := [(3, .int (1 : Int32)), (0, .ref (bd 0)), (1, .int y1), (2, .int y2), (4, .int y4)]) hx hb dX6_isPeriod_68 rfl hl (by decide) rfl (fun ls hl => ?_)
            refine lv_iinc (v := (y4 + 1)) (lv' := [(4, .int (y4 + 1)), (3, .int (1 : Int32)), (0, .ref (bd 0)), (1, .int y1), (2, .int y2)]) hx hb dX6_isPeriod_69 hl (k := 4) rfl ii_1 (by decide) rfl (fun ls hl => ?_)
            refine lv_goto (tgt := 17) hx hb dX6_isPeriod_72 rfl ?_
            exact ih (1 : Int32) (y4 + 1) hf _ _ _ X (lv_sub hl [2, 3, 4, 1, 0] rfl)
  rw [fX6_isPeriod] at hf
  refine lv_iload_n hx hb dX6_isPeriod_0 rfl (lv_at hl 2 rfl) ?_
  refine lv_i2l (v := (x2.toInt64)) hx hb dX6_isPeriod_1 rfl ?_
  refine lv_lconst (v := (1 : Int64)) hx hb dX6_isPeriod_2 rfl ?_
  refine lv_aload_n hx hb dX6_isPeriod_3 rfl (lv_at hl 0 rfl) ?_
  refine xg_f hx hb hts hown X h6 0 wlR_0 rfl 2 (by decide) (by decide +kernel) (v := .ref (bd 2)) rfl dX6_isPeriod_4 ?_
  refine lv_iload_n hx hb dX6_isPeriod_7 rfl (lv_at hl 1 rfl) ?_
  refine xa_iald hx hb X 2 wlR_2 dX6_isPeriod_8 hf (fun v1 hf => ?_)
  refine lv_i2l (v := (v1.toInt64)) hx hb dX6_isPeriod_9 rfl ?_
  refine xb hf (fun v2 hv hf => ?_)
  refine xc_S1 (rest := []) ⟨hx, hb, hml, hown, hts⟩ (mX6_isIn hv) (va_cwS 3 hts gX6_isPeriod_X6_isIn rfl rfl rfl hqX6_isIn ⟨Nat.le_of_ble_eq_true rfl, Nat.le_of_ble_eq_true rfl⟩) X rfl hl.1 rfl (Nat.le_of_ble_eq_true rfl) dX6_isPeriod_10 ⟨Nat.zero_le _, Nat.zero_le _⟩ (fun H locs X => ?_)
  refine lv_istore_n (lv' := [(3, .int v2), (0, .ref (bd 0)), (1, .int x1), (2, .int x2)]) hx hb dX6_isPeriod_13 rfl hl (by decide) rfl (fun ls hl => ?_)
  refine lv_iconst (v := (0 : Int32)) hx hb dX6_isPeriod_14 rfl ?_
  refine lv_istore (lv' := [(4, .int (0 : Int32)), (3, .int v2), (0, .ref (bd 0)), (1, .int x1), (2, .int x2)]) hx hb dX6_isPeriod_15 hl (by decide) rfl (fun ls hl => ?_)
  exact w17 x1 x2 fu v2 (0 : Int32) hf _ _ _ X (lv_sub hl [2, 3, 4, 1, 0] rfl)
set_option maxRecDepth 100000 in
set_option maxHeartbeats 4000000 in
theorem mX6_periodsOf {l : Launch} {dd : va_G} {cy : Nat → ClassId} {bd : Nat → Nat} {A : Nat → Prop} {fu : Nat} {th : Int32} {ce : Nat → Int32} {sz : Nat → Int32} {wy : Nat → Int64} {op : Nat → Int32} {x1 : Int32} {rv : Int32} (hf : fX6_periodsOf fu ce sz x1 = some rv) : Met l yX6_periodsOf wsX6_periodsOf { frames := 2, cells := 0, slots := 0, locals := 49 } (va_Pc [.ref (bd 0), .int x1] (IW dd cy A (wlR bd cy th ce sz wy op))) (QX dd cy A (some (.int rv)) (wlR bd cy th ce sz wy op)) 0 0 A := by
  refine Met.ofW (cc := cX6_periodsOf) (maxL := 4) (ret := some .int) (by decide) rfl ?_
  intro p e s m args below meth c s₁ B hml hv
  obtain ⟨hav, hI⟩ := hv
  have hx := B.exec
  have hb := B.bytes
  have hr := B.returns
  have hts := atoms_spec (ws := wsX6_periodsOf) B.pre
  have hown : s.vm.findClass RX6 = some m.cls := findClass_of_methodNamed B.named
  have hlocks := B.notSynchronized
  have X := XW.of hI
  have h6 : ∀ w ∈ wsX60, w ∈ wsX6_periodsOf := by decide +kernel
  refine xe_in hav (Nat.le_of_ble_eq_true rfl) rfl (fun ls hl => ?_)
  have w4 : ∀ (y1 : Int32) (n : Nat) (y2 : Int32) (y3 : Int32), fX6_periodsOf_4 fu ce sz y1 n y2 y3 = some rv → ∀ (H : Heap) (locs : List Loc) (ls : Array Slot), XW dd cy A s (wlR bd cy th ce sz wy op) H locs → lv_has ls 4 [(0, .ref (bd 0)), (1, .int y1), (2, .int y2), (3, .int y3)] → W p l e (headSpec wsX6_periodsOf { frames := 2, cells := 0, slots := 0, locals := 49 }).room s m args below meth c H locs 0 0 (MQ below (QX dd cy A (some (.int rv)) (wlR bd cy th ce sz wy op)) args s 0 0 A) (F0 m 4 ls []) := by
    intro y1 n
    induction n with
    | zero => intro y2 y3 hf; exact absurd hf (by simp [fX6_periodsOf_4])
    | succ n ih =>
      intro y2 y3 hf H locs ls X hl
      rw [fX6_periodsOf_4] at hf
      refine lv_iload_n hx hb dX6_periodsOf_4 rfl (lv_at hl 3 rfl) ?_
      refine lv_aload_n hx hb dX6_periodsOf_5 rfl (lv_at hl 0 rfl) ?_
      refine xg_f hx hb hts hown X h6 0 wlR_0 rfl 2 (by decide) (by decide +kernel) (v := .ref (bd 2)) rfl dX6_periodsOf_6 ?_
      refine lv_iload_n hx hb dX6_periodsOf_9 rfl (lv_at hl 1 rfl) ?_
      refine xa_iald hx hb X 2 wlR_2 dX6_periodsOf_10 hf (fun v1 hf => ?_)
      refine xr_icmp_gt (tgt := 37) hx hb dX6_periodsOf_11 rfl hf (fun hf => ?_) (fun hf => ?_)
      · refine lv_iload_n hx hb dX6_periodsOf_37 rfl (lv_at hl 2 rfl) ?_
        cases hf
        exact xe_i hx hb hr hlocks X dX6_periodsOf_38
      · refine lv_iload_n hx hb dX6_periodsOf_14 rfl (lv_at hl 2 rfl) ?_
        refine lv_aload_n hx hb dX6_periodsOf_15 rfl (lv_at hl 0 rfl) ?_
        refine lv_iload_n hx hb dX6_periodsOf_16 rfl (lv_at hl 1 rfl) ?_
        refine lv_iload_n hx hb dX6_periodsOf_17 rfl (lv_at hl 3 rfl) ?_
        refine xb hf (fun v2 hv hf => ?_)
        refine xc_V1 (rest := [.int y2]) ⟨hx, hb, hml, hown, hts⟩ (mX6_isPeriod hv) (cwV 2 hts gX6_periodsOf_X6_isPeriod rfl rfl rfl hqX6_isPeriod ⟨Nat.le_of_ble_eq_true rfl, Nat.le_of_ble_eq_true rfl⟩) X (va_recv X.1 X.2.1 (ci := 4) (q0 := 0) rfl wlR_0) rfl hl.1 rfl (Nat.le_of_ble_eq_true rfl) dX6_periodsOf_18 ⟨Nat.zero_le _, Nat.zero_le _⟩ (fun H locs X => ?_)
        refine xr_if_eq (tgt := 28) hx hb dX6_periodsOf_21 rfl hf (fun hf => ?_) (fun hf => ?_)
        · refine lv_iconst (v := (0 : Int32)) hx hb dX6_periodsOf_28 rfl ?_
          refine lv_iadd hx hb dX6_periodsOf_29 ?_
          refine lv_istore_n (lv' := [(2, .int (y2 + (0 : Int32))), (0, .ref (bd 0)), (1, .int y1), (3, .int y3)]) hx hb dX6_periodsOf_30 rfl hl (by decide) rfl (fun ls hl => ?_)
          refine lv_iinc (v := (y3 + 1)) (lv' := [(3, .int (y3 + 1)), (2, .int (y2 + (0 : Int32))), (0, .ref (bd 0)), (1, .int y1)]) hx hb dX6_periodsOf_31 hl (k := 3) rfl ii_1 (by decide) rfl (fun ls hl => ?_)
          refine lv_goto (tgt := 4) hx hb dX6_periodsOf_34 rfl ?_
          exact ih (y2 + (0 : Int32)) (y3 + 1) hf _ _ _ X (lv_sub hl [2, 3, 1, 0] rfl)
        · refine lv_iconst (v := (1 : Int32)) hx hb dX6_periodsOf_24 rfl ?_
          refine lv_goto (tgt := 29) hx hb dX6_periodsOf_25 rfl ?_
          refine lv_iadd hx hb dX6_periodsOf_29 ?_
          refine lv_istore_n (lv' := [(2, .int (y2 + (1 : Int32))), (0, .ref (bd 0)), (1, .int y1), (3, .int y3)]) hx hb dX6_periodsOf_30 rfl hl (by decide) rfl (fun ls hl => ?_)
          refine lv_iinc (v := (y3 + 1)) (lv' := [(3, .int (y3 + 1)), (2, .int (y2 + (1 : Int32))), (0, .ref (bd 0)), (1, .int y1)]) hx hb dX6_periodsOf_31 hl (k := 3) rfl ii_1 (by decide) rfl (fun ls hl => ?_)
          refine lv_goto (tgt := 4) hx hb dX6_periodsOf_34 rfl ?_
          exact ih (y2 + (1 : Int32)) (y3 + 1) hf _ _ _ X (lv_sub hl [2, 3, 1, 0] rfl)
  rw [fX6_periodsOf] at hf
  refine lv_iconst (v := (0 : Int32)) hx hb dX6_periodsOf_0 rfl ?_
  refine lv_istore_n (lv' := [(2, .int (0 : Int32)), (0, .ref (bd 0)), (1, .int x1)]) hx hb dX6_periodsOf_1 rfl hl (by decide) rfl (fun ls hl => ?_)
  refine lv_iconst (v := (1 : Int32)) hx hb dX6_periodsOf_2 rfl ?_
  refine lv_istore_n (lv' := [(3, .int (1 : Int32)), (2, .int (0 : Int32)), (0, .ref (bd 0)), (1, .int x1)]) hx hb dX6_periodsOf_3 rfl hl (by decide) rfl (fun ls hl => ?_)
  exact w4 x1 fu (0 : Int32) (1 : Int32) hf _ _ _ X (lv_sub hl [2, 3, 1, 0] rfl)
set_option maxRecDepth 100000 in
set_option maxHeartbeats 4000000 in
theorem mX6_periods {l : Launch} {dd : va_G} {cy : Nat → ClassId} {bd : Nat → Nat} {A : Nat → Prop} {fu : Nat} {th : Int32} {ce : Nat → Int32} {sz : Nat → Int32} {wy : Nat → Int64} {op : Nat → Int32} {x1 : Int32} {rv : Int32} {tho : Int32} (hf : fX6_periods fu th ce sz x1 = some (rv, tho)) : Met l yX6_periods wsX6_periods { frames := 3, cells := 0, slots := 0, locals := 72 } (va_Pc [.ref (bd 0), .int x1] (IW dd cy A (wlR bd cy th ce sz wy op))) (QX dd cy A (some (.int rv)) (wlR bd cy tho ce sz wy op)) 0 0 A := by
  refine Met.ofW (cc := cX6_periods) (maxL := 2) (ret := some .int) (by decide) rfl ?_
  intro p e s m args below meth c s₁ B hml hv
  obtain ⟨hav, hI⟩ := hv
  have hx := B.exec
  have hb := B.bytes
  have hr := B.returns
  have hts := atoms_spec (ws := wsX6_periods) B.pre
  have hown : s.vm.findClass RX6 = some m.cls := findClass_of_methodNamed B.named
  have hlocks := B.notSynchronized
  have X := XW.of hI
  refine xe_in hav (Nat.le_of_ble_eq_true rfl) rfl (fun ls hl => ?_)
  rw [fX6_periods] at hf
  refine lv_aload_n hx hb dX6_periods_0 rfl (lv_at hl 0 rfl) ?_
  refine lv_iload_n hx hb dX6_periods_1 rfl (lv_at hl 1 rfl) ?_
  refine xb hf (fun v1 hv hf => ?_)
  refine xc_V1 (rest := []) ⟨hx, hb, hml, hown, hts⟩ (mX6_isNo hv) (cwV 1 hts gX6_periods_X6_isNo rfl rfl rfl hqX6_isNo ⟨Nat.le_of_ble_eq_true rfl, Nat.le_of_ble_eq_true rfl⟩) X (va_recv X.1 X.2.1 (ci := 4) (q0 := 0) rfl wlR_0) rfl hl.1 rfl (Nat.le_of_ble_eq_true rfl) dX6_periods_2 ⟨Nat.zero_le _, Nat.zero_le _⟩ (fun H locs X => ?_)
  refine xr_if_eq (tgt := 12) hx hb dX6_periods_5 rfl hf (fun hf => ?_) (fun hf => ?_)
  · refine lv_aload_n hx hb dX6_periods_12 rfl (lv_at hl 0 rfl) ?_
    refine lv_iload_n hx hb dX6_periods_13 rfl (lv_at hl 1 rfl) ?_
    refine xb hf (fun v2 hv hf => ?_)
    refine xc_V1 (rest := []) ⟨hx, hb, hml, hown, hts⟩ (mX6_periodsOf hv) (cwV 1 hts gX6_periods_X6_periodsOf rfl rfl rfl hqX6_periodsOf ⟨Nat.le_of_ble_eq_true rfl, Nat.le_of_ble_eq_true rfl⟩) X (va_recv X.1 X.2.1 (ci := 4) (q0 := 0) rfl wlR_0) rfl hl.1 rfl (Nat.le_of_ble_eq_true rfl) dX6_periods_14 ⟨Nat.zero_le _, Nat.zero_le _⟩ (fun H locs X => ?_)
    cases hf
    exact xe_i hx hb hr hlocks X dX6_periods_17
  · refine lv_iconst (v := (0 : Int32)) hx hb dX6_periods_8 rfl ?_
    refine lv_goto (tgt := 17) hx hb dX6_periods_9 rfl ?_
    cases hf
    exact xe_i hx hb hr hlocks X dX6_periods_17
set_option maxRecDepth 100000 in
set_option maxHeartbeats 4000000 in
theorem mX6_periodAt {l : Launch} {dd : va_G} {cy : Nat → ClassId} {bd : Nat → Nat} {A : Nat → Prop} {fu : Nat} {th : Int32} {ce : Nat → Int32} {sz : Nat → Int32} {wy : Nat → Int64} {op : Nat → Int32} {x1 : Int32} {x2 : Int32} {rv : Int32} {tho : Int32} (hf : fX6_periodAt fu th ce sz x1 x2 = some (rv, tho)) : Met l yX6_periodAt wsX6_periodAt { frames := 3, cells := 0, slots := 0, locals := 72 } (va_Pc [.ref (bd 0), .int x1, .int x2] (IW dd cy A (wlR bd cy th ce sz wy op))) (QX dd cy A (some (.int rv)) (wlR bd cy tho ce sz wy op)) 0 0 A := by
  refine Met.ofW (cc := cX6_periodAt) (maxL := 5) (ret := some .int) (by decide) rfl ?_
  intro p e s m args below meth c s₁ B hml hv
  obtain ⟨hav, hI⟩ := hv
  have hx := B.exec
  have hb := B.bytes
  have hr := B.returns
  have hts := atoms_spec (ws := wsX6_periodAt) B.pre
  have hown : s.vm.findClass RX6 = some m.cls := findClass_of_methodNamed B.named
  have hlocks := B.notSynchronized
  have X := XW.of hI
  refine xe_in hav (Nat.le_of_ble_eq_true rfl) rfl (fun ls hl => ?_)
  have w59 : ∀ (y1 : Int32) (y3 : Int32) (y4 : Int32) (k45 : Int32 → Int32 → Int32 → Option (Int32 × Int32)) (hk45 : ∀ (zy3 : Int32) (zy4 : Int32) (zth : Int32), k45 zy3 zy4 zth = some (rv, tho) → ∀ (H : Heap) (locs : List Loc) (ls : Array Slot), XW dd cy A s (wlR bd cy zth ce sz wy op) H locs → lv_has ls 5 [(0, .ref (bd 0)), (1, .int y1), (3, .int zy3), (4, .int zy4)] → W p l e (headSpec wsX6_periodAt { frames := 3, cells := 0, slots := 0, locals := 72 }).room s m args below meth c H locs 0 0 (MQ below (QX dd cy A (some (.int rv)) (wlR bd cy tho ce sz wy op)) args s 0 0 A) (F0 m 45 ls [])) (th : Int32), fX6_periodAt_59 fu ce sz y1 y3 y4 k45 th = some (rv, tho) → ∀ (H : Heap) (locs : List Loc) (ls : Array Slot), XW dd cy A s (wlR bd cy th ce sz wy op) H locs → lv_has ls 5 [(0, .ref (bd 0)), (1, .int y1), (3, .int y3), (4, .int y4)] → W p l e (headSpec wsX6_periodAt { frames := 3, cells := 0, slots := 0, locals := 72 }).room s m args below meth c H locs 0 0 (MQ below (QX dd cy A (some (.int rv)) (wlR bd cy tho ce sz wy op)) args s 0 0 A) (F0 m 59 ls []) := by
    intro y1 y3 y4 k45 hk45 th hf H locs ls X hl
    rw [fX6_periodAt_59] at hf
    refine lv_iload_n hx hb dX6_periodAt_59 rfl (lv_at hl 2 rfl) ?_
    refine lv_aload_n hx hb dX6_periodAt_60 rfl (lv_at hl 0 rfl) ?_
    refine lv_iload_n hx hb dX6_periodAt_61 rfl (lv_at hl 1 rfl) ?_
    refine lv_iload hx hb dX6_periodAt_62 (lv_at hl 3 rfl) ?_
    refine xb hf (fun v5 hv hf => ?_)
    refine xc_V1 (rest := [.int y3]) ⟨hx, hb, hml, hown, hts⟩ (mX6_isPeriod hv) (cwV 2 hts gX6_periodAt_X6_isPeriod rfl rfl rfl hqX6_isPeriod ⟨Nat.le_of_ble_eq_true rfl, Nat.le_of_ble_eq_true rfl⟩) X (va_recv X.1 X.2.1 (ci := 4) (q0 := 0) rfl wlR_0) rfl hl.1 rfl (Nat.le_of_ble_eq_true rfl) dX6_periodAt_64 ⟨Nat.zero_le _, Nat.zero_le _⟩ (fun H locs X => ?_)
    refine xr_if_eq (tgt := 74) hx hb dX6_periodAt_67 rfl hf (fun hf => ?_) (fun hf => ?_)
    · refine lv_iconst (v := (0 : Int32)) hx hb dX6_periodAt_74 rfl ?_
      refine lv_isub hx hb dX6_periodAt_75 ?_
      refine lv_istore_n (lv' := [(3, .int (y3 - (0 : Int32))), (0, .ref (bd 0)), (1, .int y1), (4, .int y4)]) hx hb dX6_periodAt_76 rfl hl (by decide) rfl (fun ls hl => ?_)
      refine lv_iinc (v := (y4 + 1)) (lv' := [(4, .int (y4 + 1)), (3, .int (y3 - (0 : Int32))), (0, .ref (bd 0)), (1, .int y1)]) hx hb dX6_periodAt_77 hl (k := 3) rfl ii_1 (by decide) rfl (fun ls hl => ?_)
      refine lv_goto (tgt := 45) hx hb dX6_periodAt_80 rfl ?_
      exact hk45 (y3 - (0 : Int32)) (y4 + 1) th hf _ _ _ X (lv_sub hl [2, 3, 1, 0] rfl)
    · refine lv_iconst (v := (1 : Int32)) hx hb dX6_periodAt_70 rfl ?_
      refine lv_goto (tgt := 75) hx hb dX6_periodAt_71 rfl ?_
      refine lv_isub hx hb dX6_periodAt_75 ?_
      refine lv_istore_n (lv' := [(3, .int (y3 - (1 : Int32))), (0, .ref (bd 0)), (1, .int y1), (4, .int y4)]) hx hb dX6_periodAt_76 rfl hl (by decide) rfl (fun ls hl => ?_)
      refine lv_iinc (v := (y4 + 1)) (lv' := [(4, .int (y4 + 1)), (3, .int (y3 - (1 : Int32))), (0, .ref (bd 0)), (1, .int y1)]) hx hb dX6_periodAt_77 hl (k := 3) rfl ii_1 (by decide) rfl (fun ls hl => ?_)
      refine lv_goto (tgt := 45) hx hb dX6_periodAt_80 rfl ?_
      exact hk45 (y3 - (1 : Int32)) (y4 + 1) th hf _ _ _ X (lv_sub hl [2, 3, 1, 0] rfl)
  have w45 : ∀ (y1 : Int32) (n : Nat) (y3 : Int32) (y4 : Int32) (th : Int32), fX6_periodAt_45 fu ce sz y1 n y3 y4 th = some (rv, tho) → ∀ (H : Heap) (locs : List Loc) (ls : Array Slot), XW dd cy A s (wlR bd cy th ce sz wy op) H locs → lv_has ls 5 [(0, .ref (bd 0)), (1, .int y1), (3, .int y3), (4, .int y4)] → W p l e (headSpec wsX6_periodAt { frames := 3, cells := 0, slots := 0, locals := 72 }).room s m args below meth c H locs 0 0 (MQ below (QX dd cy A (some (.int rv)) (wlR bd cy tho ce sz wy op)) args s 0 0 A) (F0 m 45 ls []) := by
    intro y1 n
    induction n with
    | zero => intro y3 y4 th hf; exact absurd hf (by simp [fX6_periodAt_45])
    | succ n ih =>
      intro y3 y4 th hf H locs ls X hl
      rw [fX6_periodAt_45] at hf
      refine lv_iload_n hx hb dX6_periodAt_45 rfl (lv_at hl 2 rfl) ?_
      refine xr_if_gt (tgt := 59) hx hb dX6_periodAt_46 rfl hf (fun hf => ?_) (fun hf => ?_)
      · exact w59 y1 y3 y4 _ ih th hf _ _ _ X (lv_sub hl [0, 1, 2, 3] rfl)
      · refine lv_aload_n hx hb dX6_periodAt_49 rfl (lv_at hl 0 rfl) ?_
        refine lv_iload_n hx hb dX6_periodAt_50 rfl (lv_at hl 1 rfl) ?_
        refine lv_iload hx hb dX6_periodAt_51 (lv_at hl 3 rfl) ?_
        refine xb hf (fun v6 hv hf => ?_)
        refine xc_V1 (rest := []) ⟨hx, hb, hml, hown, hts⟩ (mX6_isPeriod hv) (cwV 2 hts gX6_periodAt_X6_isPeriod rfl rfl rfl hqX6_isPeriod ⟨Nat.le_of_ble_eq_true rfl, Nat.le_of_ble_eq_true rfl⟩) X (va_recv X.1 X.2.1 (ci := 4) (q0 := 0) rfl wlR_0) rfl hl.1 rfl (Nat.le_of_ble_eq_true rfl) dX6_periodAt_53 ⟨Nat.zero_le _, Nat.zero_le _⟩ (fun H locs X => ?_)
        refine xr_if_ne (tgt := 83) hx hb dX6_periodAt_56 rfl hf (fun hf => ?_) (fun hf => ?_)
        · refine lv_iload hx hb dX6_periodAt_83 (lv_at hl 3 rfl) ?_
          cases hf
          exact xe_i hx hb hr hlocks X dX6_periodAt_85
        · exact w59 y1 y3 y4 _ ih th hf _ _ _ X (lv_sub hl [0, 1, 2, 3] rfl)
  have w31 : ∀ (y1 : Int32) (y2 : Int32) (s0 : Int32) (th : Int32), fX6_periodAt_31 fu ce sz y1 y2 s0 th = some (rv, tho) → ∀ (H : Heap) (locs : List Loc) (ls : Array Slot), XW dd cy A s (wlR bd cy th ce sz wy op) H locs → lv_has ls 5 [(0, .ref (bd 0)), (1, .int y1), (2, .int y2)] → W p l e (headSpec wsX6_periodAt { frames := 3, cells := 0, slots := 0, locals := 72 }).room s m args below meth c H locs 0 0 (MQ below (QX dd cy A (some (.int rv)) (wlR bd cy tho ce sz wy op)) args s 0 0 A) (F0 m 31 ls [.int s0, .ref (bd 0)]) := by
    intro y1 y2 s0 th hf H locs ls X hl
    rw [fX6_periodAt_31] at hf
    refine lv_iconst (v := (2 : Int32)) hx hb dX6_periodAt_31 rfl ?_
    refine xb hf (fun v4 hv hf => ?_)
    refine xc_V1 (rest := []) ⟨hx, hb, hml, hown, hts⟩ (mX6_isThrown hv) (cwV 2 hts gX6_periodAt_X6_isThrown rfl rfl rfl hqX6_isThrown ⟨Nat.le_of_ble_eq_true rfl, Nat.le_of_ble_eq_true rfl⟩) X (va_recv X.1 X.2.1 (ci := 4) (q0 := 0) rfl wlR_0) rfl hl.1 rfl (Nat.le_of_ble_eq_true rfl) dX6_periodAt_32 ⟨Nat.zero_le _, Nat.zero_le _⟩ (fun H locs X => ?_)
    refine xr_if_eq (tgt := 40) hx hb dX6_periodAt_35 rfl hf (fun hf => ?_) (fun hf => ?_)
    · refine lv_iload_n hx hb dX6_periodAt_40 rfl (lv_at hl 2 rfl) ?_
      refine lv_istore_n (lv' := [(3, .int y2), (0, .ref (bd 0)), (1, .int y1), (2, .int y2)]) hx hb dX6_periodAt_41 rfl hl (by decide) rfl (fun ls hl => ?_)
      refine lv_iconst (v := (1 : Int32)) hx hb dX6_periodAt_42 rfl ?_
      refine lv_istore (lv' := [(4, .int (1 : Int32)), (3, .int y2), (0, .ref (bd 0)), (1, .int y1), (2, .int y2)]) hx hb dX6_periodAt_43 hl (by decide) rfl (fun ls hl => ?_)
      exact w45 y1 fu y2 (1 : Int32) v4.2 hf _ _ _ X (lv_sub hl [2, 3, 1, 0] rfl)
    · refine lv_iconst (v := (0 : Int32)) hx hb dX6_periodAt_38 rfl ?_
      cases hf
      exact xe_i hx hb hr hlocks X dX6_periodAt_39
  rw [fX6_periodAt] at hf
  refine lv_aload_n hx hb dX6_periodAt_0 rfl (lv_at hl 0 rfl) ?_
  refine lv_iload_n hx hb dX6_periodAt_1 rfl (lv_at hl 1 rfl) ?_
  refine xb hf (fun v1 hv hf => ?_)
  refine xc_V1 (rest := []) ⟨hx, hb, hml, hown, hts⟩ (mX6_isNo hv) (cwV 1 hts gX6_periodAt_X6_isNo rfl rfl rfl hqX6_isNo ⟨Nat.le_of_ble_eq_true rfl, Nat.le_of_ble_eq_true rfl⟩) X (va_recv X.1 X.2.1 (ci := 4) (q0 := 0) rfl wlR_0) rfl hl.1 rfl (Nat.le_of_ble_eq_true rfl) dX6_periodAt_2 ⟨Nat.zero_le _, Nat.zero_le _⟩ (fun H locs X => ?_)
  refine xr_if_ne (tgt := 38) hx hb dX6_periodAt_5 rfl hf (fun hf => ?_) (fun hf => ?_)
  · refine lv_iconst (v := (0 : Int32)) hx hb dX6_periodAt_38 rfl ?_
    cases hf
    exact xe_i hx hb hr hlocks X dX6_periodAt_39
  · refine lv_aload_n hx hb dX6_periodAt_8 rfl (lv_at hl 0 rfl) ?_
    refine lv_iload_n hx hb dX6_periodAt_9 rfl (lv_at hl 2 rfl) ?_
    refine lv_i2l (v := (x2.toInt64)) hx hb dX6_periodAt_10 rfl ?_
    refine lv_lconst (v := (0 : Int64)) hx hb dX6_periodAt_11 rfl ?_
    refine lv_aload_n hx hb dX6_periodAt_12 rfl (lv_at hl 0 rfl) ?_
    refine lv_iload_n hx hb dX6_periodAt_13 rfl (lv_at hl 1 rfl) ?_
    refine xb hf (fun v2 hv hf => ?_)
    refine xc_V1 (rest := [.long (0 : Int64), .long (x2.toInt64), .ref (bd 0)]) ⟨hx, hb, hml, hown, hts⟩ (mX6_periodsOf hv) (cwV 1 hts gX6_periodAt_X6_periodsOf rfl rfl rfl hqX6_periodsOf ⟨Nat.le_of_ble_eq_true rfl, Nat.le_of_ble_eq_true rfl⟩) X (va_recv X.1 X.2.1 (ci := 4) (q0 := 0) rfl wlR_0) rfl hl.1 rfl (Nat.le_of_ble_eq_true rfl) dX6_periodAt_14 ⟨Nat.zero_le _, Nat.zero_le _⟩ (fun H locs X => ?_)
    refine lv_iconst (v := (1 : Int32)) hx hb dX6_periodAt_17 rfl ?_
    refine lv_isub hx hb dX6_periodAt_18 ?_
    refine lv_i2l (v := ((v2 - (1 : Int32)).toInt64)) hx hb dX6_periodAt_19 rfl ?_
    refine xb hf (fun v3 hv hf => ?_)
    refine xc_S1 (rest := [.ref (bd 0)]) ⟨hx, hb, hml, hown, hts⟩ (mX6_isIn hv) (va_cwS 3 hts gX6_periodAt_X6_isIn rfl rfl rfl hqX6_isIn ⟨Nat.le_of_ble_eq_true rfl, Nat.le_of_ble_eq_true rfl⟩) X rfl hl.1 rfl (Nat.le_of_ble_eq_true rfl) dX6_periodAt_20 ⟨Nat.zero_le _, Nat.zero_le _⟩ (fun H locs X => ?_)
    refine xr_if_ne (tgt := 30) hx hb dX6_periodAt_23 rfl hf (fun hf => ?_) (fun hf => ?_)
    · refine lv_iconst (v := (0 : Int32)) hx hb dX6_periodAt_30 rfl ?_
      exact w31 x1 x2 (0 : Int32) v1.2 hf _ _ _ X (lv_sub hl [0, 1, 2] rfl)
    · refine lv_iconst (v := (1 : Int32)) hx hb dX6_periodAt_26 rfl ?_
      refine lv_goto (tgt := 31) hx hb dX6_periodAt_27 rfl ?_
      exact w31 x1 x2 (1 : Int32) v1.2 hf _ _ _ X (lv_sub hl [0, 1, 2] rfl)
set_option maxRecDepth 100000 in
set_option maxHeartbeats 4000000 in
theorem mX6_border {l : Launch} {dd : va_G} {cy : Nat → ClassId} {bd : Nat → Nat} {A : Nat → Prop} {fu : Nat} {th : Int32} {ce : Nat → Int32} {sz : Nat → Int32} {wy : Nat → Int64} {op : Nat → Int32} {x1 : Int32} {x2 : Int32} {rv : Int32} {tho : Int32} {ceo : Nat → Int32} {szo : Nat → Int32} (hf : fX6_border fu th ce sz x1 x2 = some (rv, tho, ceo, szo)) : Met l yX6_border wsX6_border { frames := 3, cells := 0, slots := 0, locals := 68 } (va_Pc [.ref (bd 0), .int x1, .int x2] (IW dd cy A (wlR bd cy th ce sz wy op))) (QX dd cy A (some (.int rv)) (wlR bd cy tho ceo szo wy op)) 0 0 A := by
  refine Met.ofW (cc := cX6_border) (maxL := 4) (ret := some .int) (by decide) rfl ?_
  intro p e s m args below meth c s₁ B hml hv
  obtain ⟨hav, hI⟩ := hv
  have hx := B.exec
  have hb := B.bytes
  have hr := B.returns
  have hts := atoms_spec (ws := wsX6_border) B.pre
  have hown : s.vm.findClass RX6 = some m.cls := findClass_of_methodNamed B.named
  have hlocks := B.notSynchronized
  have X := XW.of hI
  have h6 : ∀ w ∈ wsX60, w ∈ wsX6_border := by decide +kernel
  refine xe_in hav (Nat.le_of_ble_eq_true rfl) rfl (fun ls hl => ?_)
  have w42 : ∀ (y1 : Int32) (y2 : Int32) (n : Nat) (y3 : Int32) (th : Int32) (ce : Nat → Int32) (sz : Nat → Int32), fX6_border_42 fu y1 y2 n y3 th ce sz = some (rv, tho, ceo, szo) → ∀ (H : Heap) (locs : List Loc) (ls : Array Slot), XW dd cy A s (wlR bd cy th ce sz wy op) H locs → lv_has ls 4 [(0, .ref (bd 0)), (1, .int y1), (2, .int y2), (3, .int y3)] → W p l e (headSpec wsX6_border { frames := 3, cells := 0, slots := 0, locals := 68 }).room s m args below meth c H locs 0 0 (MQ below (QX dd cy A (some (.int rv)) (wlR bd cy tho ceo szo wy op)) args s 0 0 A) (F0 m 42 ls []) := by
    intro y1 y2 n
    induction n with
    | zero => intro y3 th ce sz hf; exact absurd hf (by simp [fX6_border_42])
    | succ n ih =>
      intro y3 th ce sz hf H locs ls X hl
      rw [fX6_border_42] at hf
      refine lv_aload_n hx hb dX6_border_42 rfl (lv_at hl 0 rfl) ?_
      refine lv_iload_n hx hb dX6_border_43 rfl (lv_at hl 2 rfl) ?_
      refine xb hf (fun v5 hv hf => ?_)
      refine xc_S1 (rest := [.ref (bd 0)]) ⟨hx, hb, hml, hown, hts⟩ (mX6_baseOf hv) (va_cwS 1 hts gX6_border_X6_baseOf rfl rfl rfl hqX6_baseOf ⟨Nat.le_of_ble_eq_true rfl, Nat.le_of_ble_eq_true rfl⟩) X rfl hl.1 rfl (Nat.le_of_ble_eq_true rfl) dX6_border_44 ⟨Nat.zero_le _, Nat.zero_le _⟩ (fun H locs X => ?_)
      refine lv_aload_n hx hb dX6_border_47 rfl (lv_at hl 0 rfl) ?_
      refine xg_f hx hb hts hown X h6 0 wlR_0 rfl 2 (by decide) (by decide +kernel) (v := .ref (bd 2)) rfl dX6_border_48 ?_
      refine lv_iload_n hx hb dX6_border_51 rfl (lv_at hl 2 rfl) ?_
      refine xa_iald hx hb X 2 wlR_2 dX6_border_52 hf (fun v6 hf => ?_)
      refine lv_iload_n hx hb dX6_border_53 rfl (lv_at hl 2 rfl) ?_
      refine xb hf (fun v7 hv hf => ?_)
      refine xc_S1 (rest := [.int v6, .int v5, .ref (bd 0)]) ⟨hx, hb, hml, hown, hts⟩ (mX6_baseOf hv) (va_cwS 1 hts gX6_border_X6_baseOf rfl rfl rfl hqX6_baseOf ⟨Nat.le_of_ble_eq_true rfl, Nat.le_of_ble_eq_true rfl⟩) X rfl hl.1 rfl (Nat.le_of_ble_eq_true rfl) dX6_border_54 ⟨Nat.zero_le _, Nat.zero_le _⟩ (fun H locs X => ?_)
      refine lv_iload_n hx hb dX6_border_57 rfl (lv_at hl 3 rfl) ?_
      refine lv_aload_n hx hb dX6_border_58 rfl (lv_at hl 0 rfl) ?_
      refine xg_f hx hb hts hown X h6 0 wlR_0 rfl 2 (by decide) (by decide +kernel) (v := .ref (bd 2)) rfl dX6_border_59 ?_
      refine lv_iload_n hx hb dX6_border_62 rfl (lv_at hl 2 rfl) ?_
      refine xa_iald hx hb X 2 wlR_2 dX6_border_63 hf (fun v8 hf => ?_)
      refine lv_iload_n hx hb dX6_border_64 rfl (lv_at hl 3 rfl) ?_
      refine lv_isub hx hb dX6_border_65 ?_
      refine xb hf (fun v9 hv hf => ?_)
      refine xc_V1 (rest := []) ⟨hx, hb, hml, hown, hts⟩ (mX6_standsAt hv) (cwV 5 hts gX6_border_X6_standsAt rfl rfl rfl hqX6_standsAt ⟨Nat.le_of_ble_eq_true rfl, Nat.le_of_ble_eq_true rfl⟩) X (va_recv X.1 X.2.1 (ci := 4) (q0 := 0) rfl wlR_0) rfl hl.1 rfl (Nat.le_of_ble_eq_true rfl) dX6_border_66 ⟨Nat.zero_le _, Nat.zero_le _⟩ (fun H locs X => ?_)
      refine xr_if_ne (tgt := 78) hx hb dX6_border_69 rfl hf (fun hf => ?_) (fun hf => ?_)
      · refine lv_aload_n hx hb dX6_border_78 rfl (lv_at hl 0 rfl) ?_
        refine lv_iload_n hx hb dX6_border_79 rfl (lv_at hl 1 rfl) ?_
        refine lv_iload_n hx hb dX6_border_80 rfl (lv_at hl 2 rfl) ?_
        refine xb hf (fun v10 hv hf => ?_)
        refine xc_S1 (rest := [.int y1, .ref (bd 0)]) ⟨hx, hb, hml, hown, hts⟩ (mX6_baseOf hv) (va_cwS 1 hts gX6_border_X6_baseOf rfl rfl rfl hqX6_baseOf ⟨Nat.le_of_ble_eq_true rfl, Nat.le_of_ble_eq_true rfl⟩) X rfl hl.1 rfl (Nat.le_of_ble_eq_true rfl) dX6_border_81 ⟨Nat.zero_le _, Nat.zero_le _⟩ (fun H locs X => ?_)
        refine lv_iload_n hx hb dX6_border_84 rfl (lv_at hl 3 rfl) ?_
        refine xb hf (fun v11 hv hf => ?_)
        refine xc_V1 (rest := []) ⟨hx, hb, hml, hown, hts⟩ (mX6_become hv) (cwV 3 hts gX6_border_X6_become rfl rfl rfl hqX6_become ⟨Nat.le_of_ble_eq_true rfl, Nat.le_of_ble_eq_true rfl⟩) X (va_recv X.1 X.2.1 (ci := 4) (q0 := 0) rfl wlR_0) rfl hl.1 rfl (Nat.le_of_ble_eq_true rfl) dX6_border_85 ⟨Nat.zero_le _, Nat.zero_le _⟩ (fun H locs X => ?_)
        cases hf
        exact xe_i hx hb hr hlocks X dX6_border_88
      · refine lv_iinc (v := (y3 + (-1))) (lv' := [(3, .int (y3 + (-1))), (0, .ref (bd 0)), (1, .int y1), (2, .int y2)]) hx hb dX6_border_72 hl (k := 3) rfl ii_m1 (by decide) rfl (fun ls hl => ?_)
        refine lv_goto (tgt := 42) hx hb dX6_border_75 rfl ?_
        exact ih (y3 + (-1)) th ce sz hf _ _ _ X (lv_sub hl [1, 2, 3, 0] rfl)
  have w24 : ∀ (y1 : Int32) (y2 : Int32) (s0 : Int32) (th : Int32) (ce : Nat → Int32) (sz : Nat → Int32), fX6_border_24 fu y1 y2 s0 th ce sz = some (rv, tho, ceo, szo) → ∀ (H : Heap) (locs : List Loc) (ls : Array Slot), XW dd cy A s (wlR bd cy th ce sz wy op) H locs → lv_has ls 4 [(0, .ref (bd 0)), (1, .int y1), (2, .int y2)] → W p l e (headSpec wsX6_border { frames := 3, cells := 0, slots := 0, locals := 68 }).room s m args below meth c H locs 0 0 (MQ below (QX dd cy A (some (.int rv)) (wlR bd cy tho ceo szo wy op)) args s 0 0 A) (F0 m 24 ls [.int s0, .ref (bd 0)]) := by
    intro y1 y2 s0 th ce sz hf H locs ls X hl
    rw [fX6_border_24] at hf
    refine lv_iconst (v := (2 : Int32)) hx hb dX6_border_24 rfl ?_
    refine xb hf (fun v3 hv hf => ?_)
    refine xc_V1 (rest := []) ⟨hx, hb, hml, hown, hts⟩ (mX6_isThrown hv) (cwV 2 hts gX6_border_X6_isThrown rfl rfl rfl hqX6_isThrown ⟨Nat.le_of_ble_eq_true rfl, Nat.le_of_ble_eq_true rfl⟩) X (va_recv X.1 X.2.1 (ci := 4) (q0 := 0) rfl wlR_0) rfl hl.1 rfl (Nat.le_of_ble_eq_true rfl) dX6_border_25 ⟨Nat.zero_le _, Nat.zero_le _⟩ (fun H locs X => ?_)
    refine xr_if_eq (tgt := 33) hx hb dX6_border_28 rfl hf (fun hf => ?_) (fun hf => ?_)
    · refine lv_aload_n hx hb dX6_border_33 rfl (lv_at hl 0 rfl) ?_
      refine xg_f hx hb hts hown X h6 0 wlR_0 rfl 2 (by decide) (by decide +kernel) (v := .ref (bd 2)) rfl dX6_border_34 ?_
      refine lv_iload_n hx hb dX6_border_37 rfl (lv_at hl 2 rfl) ?_
      refine xa_iald hx hb X 2 wlR_2 dX6_border_38 hf (fun v4 hf => ?_)
      refine lv_iconst (v := (1 : Int32)) hx hb dX6_border_39 rfl ?_
      refine lv_isub hx hb dX6_border_40 ?_
      refine lv_istore_n (lv' := [(3, .int (v4 - (1 : Int32))), (0, .ref (bd 0)), (1, .int y1), (2, .int y2)]) hx hb dX6_border_41 rfl hl (by decide) rfl (fun ls hl => ?_)
      exact w42 y1 y2 fu (v4 - (1 : Int32)) v3.2 ce sz hf _ _ _ X (lv_sub hl [1, 2, 3, 0] rfl)
    · refine lv_iconst (v := (0 : Int32)) hx hb dX6_border_31 rfl ?_
      cases hf
      exact xe_i hx hb hr hlocks X dX6_border_32
  rw [fX6_border] at hf
  refine lv_aload_n hx hb dX6_border_0 rfl (lv_at hl 0 rfl) ?_
  refine lv_iload_n hx hb dX6_border_1 rfl (lv_at hl 1 rfl) ?_
  refine lv_iload_n hx hb dX6_border_2 rfl (lv_at hl 2 rfl) ?_
  refine xb hf (fun v1 hv hf => ?_)
  refine xc_V1 (rest := []) ⟨hx, hb, hml, hown, hts⟩ (mX6_isNoOf hv) (cwV 2 hts gX6_border_X6_isNoOf rfl rfl rfl hqX6_isNoOf ⟨Nat.le_of_ble_eq_true rfl, Nat.le_of_ble_eq_true rfl⟩) X (va_recv X.1 X.2.1 (ci := 4) (q0 := 0) rfl wlR_0) rfl hl.1 rfl (Nat.le_of_ble_eq_true rfl) dX6_border_3 ⟨Nat.zero_le _, Nat.zero_le _⟩ (fun H locs X => ?_)
  refine xr_if_ne (tgt := 31) hx hb dX6_border_6 rfl hf (fun hf => ?_) (fun hf => ?_)
  · refine lv_iconst (v := (0 : Int32)) hx hb dX6_border_31 rfl ?_
    cases hf
    exact xe_i hx hb hr hlocks X dX6_border_32
  · refine lv_aload_n hx hb dX6_border_9 rfl (lv_at hl 0 rfl) ?_
    refine lv_aload_n hx hb dX6_border_10 rfl (lv_at hl 0 rfl) ?_
    refine xg_f hx hb hts hown X h6 0 wlR_0 rfl 2 (by decide) (by decide +kernel) (v := .ref (bd 2)) rfl dX6_border_11 ?_
    refine lv_iload_n hx hb dX6_border_14 rfl (lv_at hl 2 rfl) ?_
    refine xa_iald hx hb X 2 wlR_2 dX6_border_15 hf (fun v2 hf => ?_)
    refine xr_if_ne (tgt := 23) hx hb dX6_border_16 rfl hf (fun hf => ?_) (fun hf => ?_)
    · refine lv_iconst (v := (0 : Int32)) hx hb dX6_border_23 rfl ?_
      exact w24 x1 x2 (0 : Int32) v1.2 ce sz hf _ _ _ X (lv_sub hl [0, 1, 2] rfl)
    · refine lv_iconst (v := (1 : Int32)) hx hb dX6_border_19 rfl ?_
      refine lv_goto (tgt := 24) hx hb dX6_border_20 rfl ?_
      exact w24 x1 x2 (1 : Int32) v1.2 ce sz hf _ _ _ X (lv_sub hl [0, 1, 2] rfl)
set_option maxRecDepth 100000 in
set_option maxHeartbeats 4000000 in
theorem mX6_rootOf {l : Launch} {dd : va_G} {cy : Nat → ClassId} {bd : Nat → Nat} {A : Nat → Prop} {fu : Nat} {th : Int32} {ce : Nat → Int32} {sz : Nat → Int32} {wy : Nat → Int64} {op : Nat → Int32} {x1 : Int32} {rv : Int32} (hf : fX6_rootOf fu ce sz x1 = some rv) : Met l yX6_rootOf wsX6_rootOf { frames := 2, cells := 0, slots := 0, locals := 49 } (va_Pc [.ref (bd 0), .int x1] (IW dd cy A (wlR bd cy th ce sz wy op))) (QX dd cy A (some (.int rv)) (wlR bd cy th ce sz wy op)) 0 0 A := by
  refine Met.ofW (cc := cX6_rootOf) (maxL := 3) (ret := some .int) (by decide) rfl ?_
  intro p e s m args below meth c s₁ B hml hv
  obtain ⟨hav, hI⟩ := hv
  have hx := B.exec
  have hb := B.bytes
  have hr := B.returns
  have hts := atoms_spec (ws := wsX6_rootOf) B.pre
  have hown : s.vm.findClass RX6 = some m.cls := findClass_of_methodNamed B.named
  have hlocks := B.notSynchronized
  have X := XW.of hI
  have h6 : ∀ w ∈ wsX60, w ∈ wsX6_rootOf := by decide +kernel
  refine xe_in hav (Nat.le_of_ble_eq_true rfl) rfl (fun ls hl => ?_)
  have w2 : ∀ (y1 : Int32) (n : Nat) (y2 : Int32), fX6_rootOf_2 fu ce sz y1 n y2 = some rv → ∀ (H : Heap) (locs : List Loc) (ls : Array Slot), XW dd cy A s (wlR bd cy th ce sz wy op) H locs → lv_has ls 3 [(0, .ref (bd 0)), (1, .int y1), (2, .int y2)] → W p l e (headSpec wsX6_rootOf { frames := 2, cells := 0, slots := 0, locals := 49 }).room s m args below meth c H locs 0 0 (MQ below (QX dd cy A (some (.int rv)) (wlR bd cy th ce sz wy op)) args s 0 0 A) (F0 m 2 ls []) := by
    intro y1 n
    induction n with
    | zero => intro y2 hf; exact absurd hf (by simp [fX6_rootOf_2])
    | succ n ih =>
      intro y2 hf H locs ls X hl
      rw [fX6_rootOf_2] at hf
      refine lv_aload_n hx hb dX6_rootOf_2 rfl (lv_at hl 0 rfl) ?_
      refine xg_f hx hb hts hown X h6 0 wlR_0 rfl 2 (by decide) (by decide +kernel) (v := .ref (bd 2)) rfl dX6_rootOf_3 ?_
      refine lv_iload_n hx hb dX6_rootOf_6 rfl (lv_at hl 1 rfl) ?_
      refine xa_iald hx hb X 2 wlR_2 dX6_rootOf_7 hf (fun v1 hf => ?_)
      refine lv_iload_n hx hb dX6_rootOf_8 rfl (lv_at hl 2 rfl) ?_
      refine xr_irem hx hb dX6_rootOf_9 hf (fun v2 hf => ?_)
      refine xr_if_ne (tgt := 22) hx hb dX6_rootOf_10 rfl hf (fun hf => ?_) (fun hf => ?_)
      · refine lv_iinc (v := (y2 + 1)) (lv' := [(2, .int (y2 + 1)), (0, .ref (bd 0)), (1, .int y1)]) hx hb dX6_rootOf_22 hl (k := 2) rfl ii_1 (by decide) rfl (fun ls hl => ?_)
        refine lv_goto (tgt := 2) hx hb dX6_rootOf_25 rfl ?_
        exact ih (y2 + 1) hf _ _ _ X (lv_sub hl [1, 2, 0] rfl)
      · refine lv_aload_n hx hb dX6_rootOf_13 rfl (lv_at hl 0 rfl) ?_
        refine lv_iload_n hx hb dX6_rootOf_14 rfl (lv_at hl 1 rfl) ?_
        refine lv_iload_n hx hb dX6_rootOf_15 rfl (lv_at hl 2 rfl) ?_
        refine xb hf (fun v3 hv hf => ?_)
        refine xc_V1 (rest := []) ⟨hx, hb, hml, hown, hts⟩ (mX6_isPeriod hv) (cwV 2 hts gX6_rootOf_X6_isPeriod rfl rfl rfl hqX6_isPeriod ⟨Nat.le_of_ble_eq_true rfl, Nat.le_of_ble_eq_true rfl⟩) X (va_recv X.1 X.2.1 (ci := 4) (q0 := 0) rfl wlR_0) rfl hl.1 rfl (Nat.le_of_ble_eq_true rfl) dX6_rootOf_16 ⟨Nat.zero_le _, Nat.zero_le _⟩ (fun H locs X => ?_)
        refine xr_if_ne (tgt := 28) hx hb dX6_rootOf_19 rfl hf (fun hf => ?_) (fun hf => ?_)
        · refine lv_iload_n hx hb dX6_rootOf_28 rfl (lv_at hl 2 rfl) ?_
          cases hf
          exact xe_i hx hb hr hlocks X dX6_rootOf_29
        · refine lv_iinc (v := (y2 + 1)) (lv' := [(2, .int (y2 + 1)), (0, .ref (bd 0)), (1, .int y1)]) hx hb dX6_rootOf_22 hl (k := 2) rfl ii_1 (by decide) rfl (fun ls hl => ?_)
          refine lv_goto (tgt := 2) hx hb dX6_rootOf_25 rfl ?_
          exact ih (y2 + 1) hf _ _ _ X (lv_sub hl [1, 2, 0] rfl)
  rw [fX6_rootOf] at hf
  refine lv_iconst (v := (1 : Int32)) hx hb dX6_rootOf_0 rfl ?_
  refine lv_istore_n (lv' := [(2, .int (1 : Int32)), (0, .ref (bd 0)), (1, .int x1)]) hx hb dX6_rootOf_1 rfl hl (by decide) rfl (fun ls hl => ?_)
  exact w2 x1 fu (1 : Int32) hf _ _ _ X (lv_sub hl [1, 2, 0] rfl)
set_option maxRecDepth 100000 in
set_option maxHeartbeats 4000000 in
theorem mX6_root {l : Launch} {dd : va_G} {cy : Nat → ClassId} {bd : Nat → Nat} {A : Nat → Prop} {fu : Nat} {th : Int32} {ce : Nat → Int32} {sz : Nat → Int32} {wy : Nat → Int64} {op : Nat → Int32} {x1 : Int32} {x2 : Int32} {rv : Int32} {tho : Int32} {ceo : Nat → Int32} {szo : Nat → Int32} (hf : fX6_root fu th ce sz x1 x2 = some (rv, tho, ceo, szo)) : Met l yX6_root wsX6_root { frames := 3, cells := 0, slots := 0, locals := 71 } (va_Pc [.ref (bd 0), .int x1, .int x2] (IW dd cy A (wlR bd cy th ce sz wy op))) (QX dd cy A (some (.int rv)) (wlR bd cy tho ceo szo wy op)) 0 0 A := by
  refine Met.ofW (cc := cX6_root) (maxL := 6) (ret := some .int) (by decide) rfl ?_
  intro p e s m args below meth c s₁ B hml hv
  obtain ⟨hav, hI⟩ := hv
  have hx := B.exec
  have hb := B.bytes
  have hr := B.returns
  have hts := atoms_spec (ws := wsX6_root) B.pre
  have hown : s.vm.findClass RX6 = some m.cls := findClass_of_methodNamed B.named
  have hlocks := B.notSynchronized
  have X := XW.of hI
  have h6 : ∀ w ∈ wsX60, w ∈ wsX6_root := by decide +kernel
  refine xe_in hav (Nat.le_of_ble_eq_true rfl) rfl (fun ls hl => ?_)
  have w24 : ∀ (y1 : Int32) (y2 : Int32) (s0 : Int32) (th : Int32) (ce : Nat → Int32) (sz : Nat → Int32), fX6_root_24 fu y1 y2 s0 th ce sz = some (rv, tho, ceo, szo) → ∀ (H : Heap) (locs : List Loc) (ls : Array Slot), XW dd cy A s (wlR bd cy th ce sz wy op) H locs → lv_has ls 6 [(0, .ref (bd 0)), (1, .int y1), (2, .int y2)] → W p l e (headSpec wsX6_root { frames := 3, cells := 0, slots := 0, locals := 71 }).room s m args below meth c H locs 0 0 (MQ below (QX dd cy A (some (.int rv)) (wlR bd cy tho ceo szo wy op)) args s 0 0 A) (F0 m 24 ls [.int s0, .ref (bd 0)]) := by
    intro y1 y2 s0 th ce sz hf H locs ls X hl
    rw [fX6_root_24] at hf
    refine lv_iconst (v := (2 : Int32)) hx hb dX6_root_24 rfl ?_
    refine xb hf (fun v3 hv hf => ?_)
    refine xc_V1 (rest := []) ⟨hx, hb, hml, hown, hts⟩ (mX6_isThrown hv) (cwV 2 hts gX6_root_X6_isThrown rfl rfl rfl hqX6_isThrown ⟨Nat.le_of_ble_eq_true rfl, Nat.le_of_ble_eq_true rfl⟩) X (va_recv X.1 X.2.1 (ci := 4) (q0 := 0) rfl wlR_0) rfl hl.1 rfl (Nat.le_of_ble_eq_true rfl) dX6_root_25 ⟨Nat.zero_le _, Nat.zero_le _⟩ (fun H locs X => ?_)
    refine xr_if_eq (tgt := 33) hx hb dX6_root_28 rfl hf (fun hf => ?_) (fun hf => ?_)
    · refine lv_aload_n hx hb dX6_root_33 rfl (lv_at hl 0 rfl) ?_
      refine lv_iload_n hx hb dX6_root_34 rfl (lv_at hl 2 rfl) ?_
      refine xb hf (fun v4 hv hf => ?_)
      refine xc_V1 (rest := []) ⟨hx, hb, hml, hown, hts⟩ (mX6_rootOf hv) (cwV 1 hts gX6_root_X6_rootOf rfl rfl rfl hqX6_rootOf ⟨Nat.le_of_ble_eq_true rfl, Nat.le_of_ble_eq_true rfl⟩) X (va_recv X.1 X.2.1 (ci := 4) (q0 := 0) rfl wlR_0) rfl hl.1 rfl (Nat.le_of_ble_eq_true rfl) dX6_root_35 ⟨Nat.zero_le _, Nat.zero_le _⟩ (fun H locs X => ?_)
      refine lv_istore_n (lv' := [(3, .int v4), (0, .ref (bd 0)), (1, .int y1), (2, .int y2)]) hx hb dX6_root_38 rfl hl (by decide) rfl (fun ls hl => ?_)
      refine lv_aload_n hx hb dX6_root_39 rfl (lv_at hl 1 rfl) ?_
      refine xg_f hx hb hts hown X h6 0 wlR_0 rfl 2 (by decide) (by decide +kernel) (v := .ref (bd 2)) rfl dX6_root_40 ?_
      refine lv_iload_n hx hb dX6_root_43 rfl (lv_at hl 3 rfl) ?_
      refine xa_iald hx hb X 2 wlR_2 dX6_root_44 hf (fun v5 hf => ?_)
      refine lv_iload_n hx hb dX6_root_45 rfl (lv_at hl 0 rfl) ?_
      refine xr_idiv hx hb dX6_root_46 hf (fun v6 hf => ?_)
      refine lv_istore (lv' := [(4, .int v6), (3, .int v4), (0, .ref (bd 0)), (1, .int y1), (2, .int y2)]) hx hb dX6_root_47 hl (by decide) rfl (fun ls hl => ?_)
      refine lv_aload_n hx hb dX6_root_49 rfl (lv_at hl 2 rfl) ?_
      refine lv_iload_n hx hb dX6_root_50 rfl (lv_at hl 3 rfl) ?_
      refine lv_iload_n hx hb dX6_root_51 rfl (lv_at hl 4 rfl) ?_
      refine xb hf (fun v7 hv hf => ?_)
      refine xc_S1 (rest := [.int y1, .ref (bd 0)]) ⟨hx, hb, hml, hown, hts⟩ (mX6_baseOf hv) (va_cwS 1 hts gX6_root_X6_baseOf rfl rfl rfl hqX6_baseOf ⟨Nat.le_of_ble_eq_true rfl, Nat.le_of_ble_eq_true rfl⟩) X rfl hl.1 rfl (Nat.le_of_ble_eq_true rfl) dX6_root_52 ⟨Nat.zero_le _, Nat.zero_le _⟩ (fun H locs X => ?_)
      refine lv_iload_n hx hb dX6_root_55 rfl (lv_at hl 1 rfl) ?_
      refine xb hf (fun v8 hv hf => ?_)
      refine xc_V1 (rest := []) ⟨hx, hb, hml, hown, hts⟩ (mX6_become hv) (cwV 3 hts gX6_root_X6_become rfl rfl rfl hqX6_become ⟨Nat.le_of_ble_eq_true rfl, Nat.le_of_ble_eq_true rfl⟩) X (va_recv X.1 X.2.1 (ci := 4) (q0 := 0) rfl wlR_0) rfl hl.1 rfl (Nat.le_of_ble_eq_true rfl) dX6_root_56 ⟨Nat.zero_le _, Nat.zero_le _⟩ (fun H locs X => ?_)
      refine lv_istore (lv' := [(5, .int v8.1), (4, .int v6), (3, .int v4), (0, .ref (bd 0)), (1, .int y1), (2, .int y2)]) hx hb dX6_root_59 hl (by decide) rfl (fun ls hl => ?_)
      refine lv_iload hx hb dX6_root_61 (lv_at hl 1 rfl) ?_
      refine lv_iload hx hb dX6_root_63 (lv_at hl 0 rfl) ?_
      refine lv_imul hx hb dX6_root_65 ?_
      refine lv_iload_n hx hb dX6_root_66 rfl (lv_at hl 2 rfl) ?_
      refine xr_idiv hx hb dX6_root_67 hf (fun v9 hf => ?_)
      cases hf
      exact xe_i hx hb hr hlocks X dX6_root_68
    · refine lv_iconst (v := (0 : Int32)) hx hb dX6_root_31 rfl ?_
      cases hf
      exact xe_i hx hb hr hlocks X dX6_root_32
  rw [fX6_root] at hf
  refine lv_aload_n hx hb dX6_root_0 rfl (lv_at hl 0 rfl) ?_
  refine lv_iload_n hx hb dX6_root_1 rfl (lv_at hl 1 rfl) ?_
  refine lv_iload_n hx hb dX6_root_2 rfl (lv_at hl 2 rfl) ?_
  refine xb hf (fun v1 hv hf => ?_)
  refine xc_V1 (rest := []) ⟨hx, hb, hml, hown, hts⟩ (mX6_isNoOf hv) (cwV 2 hts gX6_root_X6_isNoOf rfl rfl rfl hqX6_isNoOf ⟨Nat.le_of_ble_eq_true rfl, Nat.le_of_ble_eq_true rfl⟩) X (va_recv X.1 X.2.1 (ci := 4) (q0 := 0) rfl wlR_0) rfl hl.1 rfl (Nat.le_of_ble_eq_true rfl) dX6_root_3 ⟨Nat.zero_le _, Nat.zero_le _⟩ (fun H locs X => ?_)
  refine xr_if_ne (tgt := 31) hx hb dX6_root_6 rfl hf (fun hf => ?_) (fun hf => ?_)
  · refine lv_iconst (v := (0 : Int32)) hx hb dX6_root_31 rfl ?_
    cases hf
    exact xe_i hx hb hr hlocks X dX6_root_32
  · refine lv_aload_n hx hb dX6_root_9 rfl (lv_at hl 0 rfl) ?_
    refine lv_aload_n hx hb dX6_root_10 rfl (lv_at hl 0 rfl) ?_
    refine xg_f hx hb hts hown X h6 0 wlR_0 rfl 2 (by decide) (by decide +kernel) (v := .ref (bd 2)) rfl dX6_root_11 ?_
    refine lv_iload_n hx hb dX6_root_14 rfl (lv_at hl 2 rfl) ?_
    refine xa_iald hx hb X 2 wlR_2 dX6_root_15 hf (fun v2 hf => ?_)
    refine xr_if_ne (tgt := 23) hx hb dX6_root_16 rfl hf (fun hf => ?_) (fun hf => ?_)
    · refine lv_iconst (v := (0 : Int32)) hx hb dX6_root_23 rfl ?_
      exact w24 x1 x2 (0 : Int32) v1.2 ce sz hf _ _ _ X (lv_sub hl [0, 1, 2] rfl)
    · refine lv_iconst (v := (1 : Int32)) hx hb dX6_root_19 rfl ?_
      refine lv_goto (tgt := 24) hx hb dX6_root_20 rfl ?_
      exact w24 x1 x2 (1 : Int32) v1.2 ce sz hf _ _ _ X (lv_sub hl [0, 1, 2] rfl)
set_option maxRecDepth 100000 in
set_option maxHeartbeats 4000000 in
theorem mX6_turnTo {l : Launch} {dd : va_G} {cy : Nat → ClassId} {bd : Nat → Nat} {A : Nat → Prop} {fu : Nat} {th : Int32} {ce : Nat → Int32} {sz : Nat → Int32} {wy : Nat → Int64} {op : Nat → Int32} {x1 : Int32} {x2 : Int32} {rv : Int32} {tho : Int32} {ceo : Nat → Int32} (hf : fX6_turnTo fu th ce sz x1 x2 = some (rv, tho, ceo)) : Met l yX6_turnTo wsX6_turnTo { frames := 3, cells := 0, slots := 0, locals := 68 } (va_Pc [.ref (bd 0), .int x1, .int x2] (IW dd cy A (wlR bd cy th ce sz wy op))) (QX dd cy A (some (.int rv)) (wlR bd cy tho ceo sz wy op)) 0 0 A := by
  refine Met.ofW (cc := cX6_turnTo) (maxL := 4) (ret := some .int) (by decide) rfl ?_
  intro p e s m args below meth c s₁ B hml hv
  obtain ⟨hav, hI⟩ := hv
  have hx := B.exec
  have hb := B.bytes
  have hr := B.returns
  have hts := atoms_spec (ws := wsX6_turnTo) B.pre
  have hown : s.vm.findClass RX6 = some m.cls := findClass_of_methodNamed B.named
  have hlocks := B.notSynchronized
  have X := XW.of hI
  have h6 : ∀ w ∈ wsX60, w ∈ wsX6_turnTo := by decide +kernel
  refine xe_in hav (Nat.le_of_ble_eq_true rfl) rfl (fun ls hl => ?_)
  have w13 : ∀ (y1 : Int32) (y2 : Int32) (n : Nat) (y3 : Int32) (th : Int32) (ce : Nat → Int32), fX6_turnTo_13 fu sz y1 y2 n y3 th ce = some (rv, tho, ceo) → ∀ (H : Heap) (locs : List Loc) (ls : Array Slot), XW dd cy A s (wlR bd cy th ce sz wy op) H locs → lv_has ls 4 [(0, .ref (bd 0)), (1, .int y1), (2, .int y2), (3, .int y3)] → W p l e (headSpec wsX6_turnTo { frames := 3, cells := 0, slots := 0, locals := 68 }).room s m args below meth c H locs 0 0 (MQ below (QX dd cy A (some (.int rv)) (wlR bd cy tho ceo sz wy op)) args s 0 0 A) (F0 m 13 ls []) := by
    intro y1 y2 n
    induction n with
    | zero => intro y3 th ce hf; exact absurd hf (by simp [fX6_turnTo_13])
    | succ n ih =>
      intro y3 th ce hf H locs ls X hl
      rw [fX6_turnTo_13] at hf
      refine lv_iload_n hx hb dX6_turnTo_13 rfl (lv_at hl 3 rfl) ?_
      refine lv_aload_n hx hb dX6_turnTo_14 rfl (lv_at hl 0 rfl) ?_
      refine xg_f hx hb hts hown X h6 0 wlR_0 rfl 2 (by decide) (by decide +kernel) (v := .ref (bd 2)) rfl dX6_turnTo_15 ?_
      refine lv_iload_n hx hb dX6_turnTo_18 rfl (lv_at hl 1 rfl) ?_
      refine xa_iald hx hb X 2 wlR_2 dX6_turnTo_19 hf (fun v2 hf => ?_)
      refine xr_icmp_gt (tgt := 66) hx hb dX6_turnTo_20 rfl hf (fun hf => ?_) (fun hf => ?_)
      · refine lv_iconst (v := (-1 : Int32)) hx hb dX6_turnTo_66 rfl ?_
        cases hf
        exact xe_i hx hb hr hlocks X dX6_turnTo_67
      · refine lv_aload_n hx hb dX6_turnTo_23 rfl (lv_at hl 0 rfl) ?_
        refine lv_iload_n hx hb dX6_turnTo_24 rfl (lv_at hl 1 rfl) ?_
        refine lv_iload_n hx hb dX6_turnTo_25 rfl (lv_at hl 3 rfl) ?_
        refine lv_sipush (v := (360 : Int32)) hx hb dX6_turnTo_26 rfl ?_
        refine xb hf (fun v3 hv hf => ?_)
        refine xc_V0 (rest := []) ⟨hx, hb, hml, hown, hts⟩ (mX6_turns hv) (cwV 3 hts gX6_turnTo_X6_turns rfl rfl rfl hqX6_turns ⟨Nat.le_of_ble_eq_true rfl, Nat.le_of_ble_eq_true rfl⟩) X (va_recv X.1 X.2.1 (ci := 4) (q0 := 0) rfl wlR_0) rfl hl.1 rfl (Nat.le_of_ble_eq_true rfl) dX6_turnTo_29 ⟨Nat.zero_le _, Nat.zero_le _⟩ (fun H locs X => ?_)
        refine lv_aload_n hx hb dX6_turnTo_32 rfl (lv_at hl 0 rfl) ?_
        refine lv_sipush (v := (360 : Int32)) hx hb dX6_turnTo_33 rfl ?_
        refine lv_aload_n hx hb dX6_turnTo_36 rfl (lv_at hl 0 rfl) ?_
        refine xg_f hx hb hts hown X h6 0 wlR_0 rfl 2 (by decide) (by decide +kernel) (v := .ref (bd 2)) rfl dX6_turnTo_37 ?_
        refine lv_iload_n hx hb dX6_turnTo_40 rfl (lv_at hl 1 rfl) ?_
        refine xa_iald hx hb X 2 wlR_2 dX6_turnTo_41 hf (fun v4 hf => ?_)
        refine lv_iload_n hx hb dX6_turnTo_42 rfl (lv_at hl 2 rfl) ?_
        refine xb hf (fun v5 hv hf => ?_)
        refine xc_S1 (rest := [.int v4, .int (360 : Int32), .ref (bd 0)]) ⟨hx, hb, hml, hown, hts⟩ (mX6_baseOf hv) (va_cwS 1 hts gX6_turnTo_X6_baseOf rfl rfl rfl hqX6_baseOf ⟨Nat.le_of_ble_eq_true rfl, Nat.le_of_ble_eq_true rfl⟩) X rfl hl.1 rfl (Nat.le_of_ble_eq_true rfl) dX6_turnTo_43 ⟨Nat.zero_le _, Nat.zero_le _⟩ (fun H locs X => ?_)
        refine lv_aload_n hx hb dX6_turnTo_46 rfl (lv_at hl 0 rfl) ?_
        refine xg_f hx hb hts hown X h6 0 wlR_0 rfl 2 (by decide) (by decide +kernel) (v := .ref (bd 2)) rfl dX6_turnTo_47 ?_
        refine lv_iload_n hx hb dX6_turnTo_50 rfl (lv_at hl 2 rfl) ?_
        refine xa_iald hx hb X 2 wlR_2 dX6_turnTo_51 hf (fun v6 hf => ?_)
        refine xb hf (fun v7 hv hf => ?_)
        refine xc_V1 (rest := []) ⟨hx, hb, hml, hown, hts⟩ (mX6_areSame hv) (cwV 4 hts gX6_turnTo_X6_areSame rfl rfl rfl hqX6_areSame ⟨Nat.le_of_ble_eq_true rfl, Nat.le_of_ble_eq_true rfl⟩) X (va_recv X.1 X.2.1 (ci := 4) (q0 := 0) rfl wlR_0) rfl hl.1 rfl (Nat.le_of_ble_eq_true rfl) dX6_turnTo_52 ⟨Nat.zero_le _, Nat.zero_le _⟩ (fun H locs X => ?_)
        refine xr_if_eq (tgt := 60) hx hb dX6_turnTo_55 rfl hf (fun hf => ?_) (fun hf => ?_)
        · refine lv_iinc (v := (y3 + 1)) (lv' := [(3, .int (y3 + 1)), (0, .ref (bd 0)), (1, .int y1), (2, .int y2)]) hx hb dX6_turnTo_60 hl (k := 3) rfl ii_1 (by decide) rfl (fun ls hl => ?_)
          refine lv_goto (tgt := 13) hx hb dX6_turnTo_63 rfl ?_
          exact ih (y3 + 1) th v3 hf _ _ _ X (lv_sub hl [1, 2, 3, 0] rfl)
        · refine lv_iload_n hx hb dX6_turnTo_58 rfl (lv_at hl 3 rfl) ?_
          cases hf
          exact xe_i hx hb hr hlocks X dX6_turnTo_59
  rw [fX6_turnTo] at hf
  refine lv_aload_n hx hb dX6_turnTo_0 rfl (lv_at hl 0 rfl) ?_
  refine lv_iload_n hx hb dX6_turnTo_1 rfl (lv_at hl 1 rfl) ?_
  refine lv_iload_n hx hb dX6_turnTo_2 rfl (lv_at hl 2 rfl) ?_
  refine xb hf (fun v1 hv hf => ?_)
  refine xc_V1 (rest := []) ⟨hx, hb, hml, hown, hts⟩ (mX6_isNoOf hv) (cwV 2 hts gX6_turnTo_X6_isNoOf rfl rfl rfl hqX6_isNoOf ⟨Nat.le_of_ble_eq_true rfl, Nat.le_of_ble_eq_true rfl⟩) X (va_recv X.1 X.2.1 (ci := 4) (q0 := 0) rfl wlR_0) rfl hl.1 rfl (Nat.le_of_ble_eq_true rfl) dX6_turnTo_3 ⟨Nat.zero_le _, Nat.zero_le _⟩ (fun H locs X => ?_)
  refine xr_if_eq (tgt := 11) hx hb dX6_turnTo_6 rfl hf (fun hf => ?_) (fun hf => ?_)
  · refine lv_iconst (v := (0 : Int32)) hx hb dX6_turnTo_11 rfl ?_
    refine lv_istore_n (lv' := [(3, .int (0 : Int32)), (0, .ref (bd 0)), (1, .int x1), (2, .int x2)]) hx hb dX6_turnTo_12 rfl hl (by decide) rfl (fun ls hl => ?_)
    exact w13 x1 x2 fu (0 : Int32) v1.2 ce hf _ _ _ X (lv_sub hl [1, 2, 3, 0] rfl)
  · refine lv_iconst (v := (0 : Int32)) hx hb dX6_turnTo_9 rfl ?_
    cases hf
    exact xe_i hx hb hr hlocks X dX6_turnTo_10
set_option maxRecDepth 100000 in
set_option maxHeartbeats 4000000 in
theorem mX6_turnings {l : Launch} {dd : va_G} {cy : Nat → ClassId} {bd : Nat → Nat} {A : Nat → Prop} {fu : Nat} {th : Int32} {ce : Nat → Int32} {sz : Nat → Int32} {wy : Nat → Int64} {op : Nat → Int32} {x1 : Int32} {rv : Int32} {tho : Int32} {ceo : Nat → Int32} (hf : fX6_turnings fu th ce sz x1 = some (rv, tho, ceo)) : Met l yX6_turnings wsX6_turnings { frames := 2, cells := 0, slots := 0, locals := 51 } (va_Pc [.ref (bd 0), .int x1] (IW dd cy A (wlR bd cy th ce sz wy op))) (QX dd cy A (some (.int rv)) (wlR bd cy tho ceo sz wy op)) 0 0 A := by
  refine Met.ofW (cc := cX6_turnings) (maxL := 6) (ret := some .int) (by decide) rfl ?_
  intro p e s m args below meth c s₁ B hml hv
  obtain ⟨hav, hI⟩ := hv
  have hx := B.exec
  have hb := B.bytes
  have hr := B.returns
  have hts := atoms_spec (ws := wsX6_turnings) B.pre
  have hown : s.vm.findClass RX6 = some m.cls := findClass_of_methodNamed B.named
  have hlocks := B.notSynchronized
  have X := XW.of hI
  have h6 : ∀ w ∈ wsX60, w ∈ wsX6_turnings := by decide +kernel
  refine xe_in hav (Nat.le_of_ble_eq_true rfl) rfl (fun ls hl => ?_)
  have w98 : ∀ (y1 : Int32) (y2 : Int32) (y3 : Int32) (y4 : Int32) (k14 : Int32 → Int32 → Int32 → (Nat → Int32) → Option (Int32 × Int32 × (Nat → Int32))) (hk14 : ∀ (zy2 : Int32) (zy3 : Int32) (zth : Int32) (zce : Nat → Int32), k14 zy2 zy3 zth zce = some (rv, tho, ceo) → ∀ (H : Heap) (locs : List Loc) (ls : Array Slot), XW dd cy A s (wlR bd cy zth zce sz wy op) H locs → lv_has ls 6 [(0, .ref (bd 0)), (1, .int y1), (2, .int zy2), (3, .int zy3)] → W p l e (headSpec wsX6_turnings { frames := 2, cells := 0, slots := 0, locals := 51 }).room s m args below meth c H locs 0 0 (MQ below (QX dd cy A (some (.int rv)) (wlR bd cy tho ceo sz wy op)) args s 0 0 A) (F0 m 14 ls [])) (th : Int32) (ce : Nat → Int32), fX6_turnings_98 fu sz y1 y2 y3 y4 k14 th ce = some (rv, tho, ceo) → ∀ (H : Heap) (locs : List Loc) (ls : Array Slot), XW dd cy A s (wlR bd cy th ce sz wy op) H locs → lv_has ls 6 [(0, .ref (bd 0)), (1, .int y1), (2, .int y2), (3, .int y3), (4, .int y4)] → W p l e (headSpec wsX6_turnings { frames := 2, cells := 0, slots := 0, locals := 51 }).room s m args below meth c H locs 0 0 (MQ below (QX dd cy A (some (.int rv)) (wlR bd cy tho ceo sz wy op)) args s 0 0 A) (F0 m 98 ls []) := by
    intro y1 y2 y3 y4 k14 hk14 th ce hf H locs ls X hl
    rw [fX6_turnings_98] at hf
    refine lv_iload_n hx hb dX6_turnings_98 rfl (lv_at hl 2 rfl) ?_
    refine lv_iload hx hb dX6_turnings_99 (lv_at hl 4 rfl) ?_
    refine xr_if_eq (tgt := 108) hx hb dX6_turnings_101 rfl hf (fun hf => ?_) (fun hf => ?_)
    · refine lv_iconst (v := (0 : Int32)) hx hb dX6_turnings_108 rfl ?_
      refine lv_iadd hx hb dX6_turnings_109 ?_
      refine lv_istore_n (lv' := [(2, .int (y2 + (0 : Int32))), (0, .ref (bd 0)), (1, .int y1), (3, .int y3), (4, .int y4)]) hx hb dX6_turnings_110 rfl hl (by decide) rfl (fun ls hl => ?_)
      refine lv_iinc (v := (y3 + 1)) (lv' := [(3, .int (y3 + 1)), (2, .int (y2 + (0 : Int32))), (0, .ref (bd 0)), (1, .int y1), (4, .int y4)]) hx hb dX6_turnings_111 hl (k := 3) rfl ii_1 (by decide) rfl (fun ls hl => ?_)
      refine lv_goto (tgt := 14) hx hb dX6_turnings_114 rfl ?_
      exact hk14 (y2 + (0 : Int32)) (y3 + 1) th ce hf _ _ _ X (lv_sub hl [2, 3, 1, 0] rfl)
    · refine lv_iconst (v := (1 : Int32)) hx hb dX6_turnings_104 rfl ?_
      refine lv_goto (tgt := 109) hx hb dX6_turnings_105 rfl ?_
      refine lv_iadd hx hb dX6_turnings_109 ?_
      refine lv_istore_n (lv' := [(2, .int (y2 + (1 : Int32))), (0, .ref (bd 0)), (1, .int y1), (3, .int y3), (4, .int y4)]) hx hb dX6_turnings_110 rfl hl (by decide) rfl (fun ls hl => ?_)
      refine lv_iinc (v := (y3 + 1)) (lv' := [(3, .int (y3 + 1)), (2, .int (y2 + (1 : Int32))), (0, .ref (bd 0)), (1, .int y1), (4, .int y4)]) hx hb dX6_turnings_111 hl (k := 3) rfl ii_1 (by decide) rfl (fun ls hl => ?_)
      refine lv_goto (tgt := 14) hx hb dX6_turnings_114 rfl ?_
      exact hk14 (y2 + (1 : Int32)) (y3 + 1) th ce hf _ _ _ X (lv_sub hl [2, 3, 1, 0] rfl)
  have w39 : ∀ (y1 : Int32) (y2 : Int32) (y3 : Int32) (k14 : Int32 → Int32 → Int32 → (Nat → Int32) → Option (Int32 × Int32 × (Nat → Int32))) (hk14 : ∀ (zy2 : Int32) (zy3 : Int32) (zth : Int32) (zce : Nat → Int32), k14 zy2 zy3 zth zce = some (rv, tho, ceo) → ∀ (H : Heap) (locs : List Loc) (ls : Array Slot), XW dd cy A s (wlR bd cy zth zce sz wy op) H locs → lv_has ls 6 [(0, .ref (bd 0)), (1, .int y1), (2, .int zy2), (3, .int zy3)] → W p l e (headSpec wsX6_turnings { frames := 2, cells := 0, slots := 0, locals := 51 }).room s m args below meth c H locs 0 0 (MQ below (QX dd cy A (some (.int rv)) (wlR bd cy tho ceo sz wy op)) args s 0 0 A) (F0 m 14 ls [])) (n : Nat) (y4 : Int32) (y5 : Int32) (th : Int32) (ce : Nat → Int32), fX6_turnings_39 fu sz y1 y2 y3 k14 n y4 y5 th ce = some (rv, tho, ceo) → ∀ (H : Heap) (locs : List Loc) (ls : Array Slot), XW dd cy A s (wlR bd cy th ce sz wy op) H locs → lv_has ls 6 [(0, .ref (bd 0)), (1, .int y1), (2, .int y2), (3, .int y3), (4, .int y4), (5, .int y5)] → W p l e (headSpec wsX6_turnings { frames := 2, cells := 0, slots := 0, locals := 51 }).room s m args below meth c H locs 0 0 (MQ below (QX dd cy A (some (.int rv)) (wlR bd cy tho ceo sz wy op)) args s 0 0 A) (F0 m 39 ls []) := by
    intro y1 y2 y3 k14 hk14 n
    induction n with
    | zero => intro y4 y5 th ce hf; exact absurd hf (by simp [fX6_turnings_39])
    | succ n ih =>
      intro y4 y5 th ce hf H locs ls X hl
      rw [fX6_turnings_39] at hf
      refine lv_iload hx hb dX6_turnings_39 (lv_at hl 5 rfl) ?_
      refine lv_iload_n hx hb dX6_turnings_41 rfl (lv_at hl 3 rfl) ?_
      refine xr_icmp_ge (tgt := 98) hx hb dX6_turnings_42 rfl hf (fun hf => ?_) (fun hf => ?_)
      · exact w98 y1 y2 y3 y4 _ hk14 th ce hf _ _ _ X (lv_sub hl [0, 1, 2, 3, 4] rfl)
      · refine lv_iload hx hb dX6_turnings_45 (lv_at hl 4 rfl) ?_
        refine xr_if_eq (tgt := 98) hx hb dX6_turnings_47 rfl hf (fun hf => ?_) (fun hf => ?_)
        · exact w98 y1 y2 y3 y4 _ hk14 th ce hf _ _ _ X (lv_sub hl [0, 1, 2, 3, 4] rfl)
        · refine lv_aload_n hx hb dX6_turnings_50 rfl (lv_at hl 0 rfl) ?_
          refine lv_iload_n hx hb dX6_turnings_51 rfl (lv_at hl 1 rfl) ?_
          refine lv_iload hx hb dX6_turnings_52 (lv_at hl 5 rfl) ?_
          refine lv_sipush (v := (490 : Int32)) hx hb dX6_turnings_54 rfl ?_
          refine xb hf (fun v4 hv hf => ?_)
          refine xc_V0 (rest := []) ⟨hx, hb, hml, hown, hts⟩ (mX6_turns hv) (cwV 3 hts gX6_turnings_X6_turns rfl rfl rfl hqX6_turns ⟨Nat.le_of_ble_eq_true rfl, Nat.le_of_ble_eq_true rfl⟩) X (va_recv X.1 X.2.1 (ci := 4) (q0 := 0) rfl wlR_0) rfl hl.1 rfl (Nat.le_of_ble_eq_true rfl) dX6_turnings_57 ⟨Nat.zero_le _, Nat.zero_le _⟩ (fun H locs X => ?_)
          refine lv_aload_n hx hb dX6_turnings_60 rfl (lv_at hl 0 rfl) ?_
          refine lv_sipush (v := (360 : Int32)) hx hb dX6_turnings_61 rfl ?_
          refine lv_aload_n hx hb dX6_turnings_64 rfl (lv_at hl 0 rfl) ?_
          refine xg_f hx hb hts hown X h6 0 wlR_0 rfl 2 (by decide) (by decide +kernel) (v := .ref (bd 2)) rfl dX6_turnings_65 ?_
          refine lv_iload_n hx hb dX6_turnings_68 rfl (lv_at hl 1 rfl) ?_
          refine xa_iald hx hb X 2 wlR_2 dX6_turnings_69 hf (fun v5 hf => ?_)
          refine lv_sipush (v := (490 : Int32)) hx hb dX6_turnings_70 rfl ?_
          refine lv_aload_n hx hb dX6_turnings_73 rfl (lv_at hl 0 rfl) ?_
          refine xg_f hx hb hts hown X h6 0 wlR_0 rfl 2 (by decide) (by decide +kernel) (v := .ref (bd 2)) rfl dX6_turnings_74 ?_
          refine lv_iload_n hx hb dX6_turnings_77 rfl (lv_at hl 1 rfl) ?_
          refine xa_iald hx hb X 2 wlR_2 dX6_turnings_78 hf (fun v6 hf => ?_)
          refine xb hf (fun v7 hv hf => ?_)
          refine xc_V1 (rest := []) ⟨hx, hb, hml, hown, hts⟩ (mX6_areSame hv) (cwV 4 hts gX6_turnings_X6_areSame rfl rfl rfl hqX6_areSame ⟨Nat.le_of_ble_eq_true rfl, Nat.le_of_ble_eq_true rfl⟩) X (va_recv X.1 X.2.1 (ci := 4) (q0 := 0) rfl wlR_0) rfl hl.1 rfl (Nat.le_of_ble_eq_true rfl) dX6_turnings_79 ⟨Nat.zero_le _, Nat.zero_le _⟩ (fun H locs X => ?_)
          refine xr_if_ne (tgt := 89) hx hb dX6_turnings_82 rfl hf (fun hf => ?_) (fun hf => ?_)
          · refine lv_iconst (v := (0 : Int32)) hx hb dX6_turnings_89 rfl ?_
            refine lv_istore (lv' := [(4, .int (0 : Int32)), (0, .ref (bd 0)), (1, .int y1), (2, .int y2), (3, .int y3), (5, .int y5)]) hx hb dX6_turnings_90 hl (by decide) rfl (fun ls hl => ?_)
            refine lv_iinc (v := (y5 + 1)) (lv' := [(5, .int (y5 + 1)), (4, .int (0 : Int32)), (0, .ref (bd 0)), (1, .int y1), (2, .int y2), (3, .int y3)]) hx hb dX6_turnings_92 hl (k := 5) rfl ii_1 (by decide) rfl (fun ls hl => ?_)
            refine lv_goto (tgt := 39) hx hb dX6_turnings_95 rfl ?_
            exact ih (0 : Int32) (y5 + 1) th v4 hf _ _ _ X (lv_sub hl [2, 3, 4, 5, 1, 0] rfl)
          · refine lv_iconst (v := (1 : Int32)) hx hb dX6_turnings_85 rfl ?_
            refine lv_goto (tgt := 90) hx hb dX6_turnings_86 rfl ?_
            refine lv_istore (lv' := [(4, .int (1 : Int32)), (0, .ref (bd 0)), (1, .int y1), (2, .int y2), (3, .int y3), (5, .int y5)]) hx hb dX6_turnings_90 hl (by decide) rfl (fun ls hl => ?_)
            refine lv_iinc (v := (y5 + 1)) (lv' := [(5, .int (y5 + 1)), (4, .int (1 : Int32)), (0, .ref (bd 0)), (1, .int y1), (2, .int y2), (3, .int y3)]) hx hb dX6_turnings_92 hl (k := 5) rfl ii_1 (by decide) rfl (fun ls hl => ?_)
            refine lv_goto (tgt := 39) hx hb dX6_turnings_95 rfl ?_
            exact ih (1 : Int32) (y5 + 1) th v4 hf _ _ _ X (lv_sub hl [2, 3, 4, 5, 1, 0] rfl)
  have w14 : ∀ (y1 : Int32) (n : Nat) (y2 : Int32) (y3 : Int32) (th : Int32) (ce : Nat → Int32), fX6_turnings_14 fu sz y1 n y2 y3 th ce = some (rv, tho, ceo) → ∀ (H : Heap) (locs : List Loc) (ls : Array Slot), XW dd cy A s (wlR bd cy th ce sz wy op) H locs → lv_has ls 6 [(0, .ref (bd 0)), (1, .int y1), (2, .int y2), (3, .int y3)] → W p l e (headSpec wsX6_turnings { frames := 2, cells := 0, slots := 0, locals := 51 }).room s m args below meth c H locs 0 0 (MQ below (QX dd cy A (some (.int rv)) (wlR bd cy tho ceo sz wy op)) args s 0 0 A) (F0 m 14 ls []) := by
    intro y1 n
    induction n with
    | zero => intro y2 y3 th ce hf; exact absurd hf (by simp [fX6_turnings_14])
    | succ n ih =>
      intro y2 y3 th ce hf H locs ls X hl
      rw [fX6_turnings_14] at hf
      refine lv_iload_n hx hb dX6_turnings_14 rfl (lv_at hl 3 rfl) ?_
      refine lv_aload_n hx hb dX6_turnings_15 rfl (lv_at hl 0 rfl) ?_
      refine xg_f hx hb hts hown X h6 0 wlR_0 rfl 2 (by decide) (by decide +kernel) (v := .ref (bd 2)) rfl dX6_turnings_16 ?_
      refine lv_iload_n hx hb dX6_turnings_19 rfl (lv_at hl 1 rfl) ?_
      refine xa_iald hx hb X 2 wlR_2 dX6_turnings_20 hf (fun v2 hf => ?_)
      refine xr_icmp_gt (tgt := 117) hx hb dX6_turnings_21 rfl hf (fun hf => ?_) (fun hf => ?_)
      · refine lv_iload_n hx hb dX6_turnings_117 rfl (lv_at hl 2 rfl) ?_
        cases hf
        exact xe_i hx hb hr hlocks X dX6_turnings_118
      · refine lv_iconst (v := (1 : Int32)) hx hb dX6_turnings_24 rfl ?_
        refine lv_istore (lv' := [(4, .int (1 : Int32)), (0, .ref (bd 0)), (1, .int y1), (2, .int y2), (3, .int y3)]) hx hb dX6_turnings_25 hl (by decide) rfl (fun ls hl => ?_)
        refine lv_aload_n hx hb dX6_turnings_27 rfl (lv_at hl 1 rfl) ?_
        refine lv_iload_n hx hb dX6_turnings_28 rfl (lv_at hl 2 rfl) ?_
        refine lv_iload_n hx hb dX6_turnings_29 rfl (lv_at hl 4 rfl) ?_
        refine lv_sipush (v := (360 : Int32)) hx hb dX6_turnings_30 rfl ?_
        refine xb hf (fun v3 hv hf => ?_)
        refine xc_V0 (rest := []) ⟨hx, hb, hml, hown, hts⟩ (mX6_turns hv) (cwV 3 hts gX6_turnings_X6_turns rfl rfl rfl hqX6_turns ⟨Nat.le_of_ble_eq_true rfl, Nat.le_of_ble_eq_true rfl⟩) X (va_recv X.1 X.2.1 (ci := 4) (q0 := 0) rfl wlR_0) rfl hl.1 rfl (Nat.le_of_ble_eq_true rfl) dX6_turnings_33 ⟨Nat.zero_le _, Nat.zero_le _⟩ (fun H locs X => ?_)
        refine lv_iconst (v := (0 : Int32)) hx hb dX6_turnings_36 rfl ?_
        refine lv_istore (lv' := [(5, .int (0 : Int32)), (4, .int (1 : Int32)), (0, .ref (bd 0)), (1, .int y1), (2, .int y2), (3, .int y3)]) hx hb dX6_turnings_37 hl (by decide) rfl (fun ls hl => ?_)
        exact w39 y1 y2 y3 _ ih fu (1 : Int32) (0 : Int32) th v3 hf _ _ _ X (lv_sub hl [2, 3, 4, 5, 1, 0] rfl)
  rw [fX6_turnings] at hf
  refine lv_aload_n hx hb dX6_turnings_0 rfl (lv_at hl 0 rfl) ?_
  refine lv_iload_n hx hb dX6_turnings_1 rfl (lv_at hl 1 rfl) ?_
  refine xb hf (fun v1 hv hf => ?_)
  refine xc_V1 (rest := []) ⟨hx, hb, hml, hown, hts⟩ (mX6_isNo hv) (cwV 1 hts gX6_turnings_X6_isNo rfl rfl rfl hqX6_isNo ⟨Nat.le_of_ble_eq_true rfl, Nat.le_of_ble_eq_true rfl⟩) X (va_recv X.1 X.2.1 (ci := 4) (q0 := 0) rfl wlR_0) rfl hl.1 rfl (Nat.le_of_ble_eq_true rfl) dX6_turnings_2 ⟨Nat.zero_le _, Nat.zero_le _⟩ (fun H locs X => ?_)
  refine xr_if_eq (tgt := 10) hx hb dX6_turnings_5 rfl hf (fun hf => ?_) (fun hf => ?_)
  · refine lv_iconst (v := (0 : Int32)) hx hb dX6_turnings_10 rfl ?_
    refine lv_istore_n (lv' := [(2, .int (0 : Int32)), (0, .ref (bd 0)), (1, .int x1)]) hx hb dX6_turnings_11 rfl hl (by decide) rfl (fun ls hl => ?_)
    refine lv_iconst (v := (0 : Int32)) hx hb dX6_turnings_12 rfl ?_
    refine lv_istore_n (lv' := [(3, .int (0 : Int32)), (2, .int (0 : Int32)), (0, .ref (bd 0)), (1, .int x1)]) hx hb dX6_turnings_13 rfl hl (by decide) rfl (fun ls hl => ?_)
    exact w14 x1 fu (0 : Int32) (0 : Int32) v1.2 ce hf _ _ _ X (lv_sub hl [2, 3, 1, 0] rfl)
  · refine lv_iconst (v := (0 : Int32)) hx hb dX6_turnings_8 rfl ?_
    cases hf
    exact xe_i hx hb hr hlocks X dX6_turnings_9
set_option maxRecDepth 100000 in
set_option maxHeartbeats 4000000 in
theorem mX6_leastTurn {l : Launch} {dd : va_G} {cy : Nat → ClassId} {bd : Nat → Nat} {A : Nat → Prop} {fu : Nat} {th : Int32} {ce : Nat → Int32} {sz : Nat → Int32} {wy : Nat → Int64} {op : Nat → Int32} {x1 : Int32} {rv : Int32} {tho : Int32} {ceo : Nat → Int32} (hf : fX6_leastTurn fu th ce sz x1 = some (rv, tho, ceo)) : Met l yX6_leastTurn wsX6_leastTurn { frames := 2, cells := 0, slots := 0, locals := 50 } (va_Pc [.ref (bd 0), .int x1] (IW dd cy A (wlR bd cy th ce sz wy op))) (QX dd cy A (some (.int rv)) (wlR bd cy tho ceo sz wy op)) 0 0 A := by
  refine Met.ofW (cc := cX6_leastTurn) (maxL := 4) (ret := some .int) (by decide) rfl ?_
  intro p e s m args below meth c s₁ B hml hv
  obtain ⟨hav, hI⟩ := hv
  have hx := B.exec
  have hb := B.bytes
  have hr := B.returns
  have hts := atoms_spec (ws := wsX6_leastTurn) B.pre
  have hown : s.vm.findClass RX6 = some m.cls := findClass_of_methodNamed B.named
  have hlocks := B.notSynchronized
  have X := XW.of hI
  have h6 : ∀ w ∈ wsX60, w ∈ wsX6_leastTurn := by decide +kernel
  refine xe_in hav (Nat.le_of_ble_eq_true rfl) rfl (fun ls hl => ?_)
  have w14 : ∀ (y1 : Int32) (n : Nat) (y2 : Int32) (y3 : Int32) (th : Int32) (ce : Nat → Int32), fX6_leastTurn_14 fu sz y1 n y2 y3 th ce = some (rv, tho, ceo) → ∀ (H : Heap) (locs : List Loc) (ls : Array Slot), XW dd cy A s (wlR bd cy th ce sz wy op) H locs → lv_has ls 4 [(0, .ref (bd 0)), (1, .int y1), (2, .int y2), (3, .int y3)] → W p l e (headSpec wsX6_leastTurn { frames := 2, cells := 0, slots := 0, locals := 50 }).room s m args below meth c H locs 0 0 (MQ below (QX dd cy A (some (.int rv)) (wlR bd cy tho ceo sz wy op)) args s 0 0 A) (F0 m 14 ls []) := by
    intro y1 n
    induction n with
    | zero => intro y2 y3 th ce hf; exact absurd hf (by simp [fX6_leastTurn_14])
    | succ n ih =>
      intro y2 y3 th ce hf H locs ls X hl
      rw [fX6_leastTurn_14] at hf
      refine lv_iload_n hx hb dX6_leastTurn_14 rfl (lv_at hl 3 rfl) ?_
      refine lv_aload_n hx hb dX6_leastTurn_15 rfl (lv_at hl 0 rfl) ?_
      refine xg_f hx hb hts hown X h6 0 wlR_0 rfl 2 (by decide) (by decide +kernel) (v := .ref (bd 2)) rfl dX6_leastTurn_16 ?_
      refine lv_iload_n hx hb dX6_leastTurn_19 rfl (lv_at hl 1 rfl) ?_
      refine xa_iald hx hb X 2 wlR_2 dX6_leastTurn_20 hf (fun v2 hf => ?_)
      refine xr_icmp_ge (tgt := 79) hx hb dX6_leastTurn_21 rfl hf (fun hf => ?_) (fun hf => ?_)
      · refine lv_iload_n hx hb dX6_leastTurn_79 rfl (lv_at hl 2 rfl) ?_
        cases hf
        exact xe_i hx hb hr hlocks X dX6_leastTurn_80
      · refine lv_aload_n hx hb dX6_leastTurn_24 rfl (lv_at hl 0 rfl) ?_
        refine lv_iload_n hx hb dX6_leastTurn_25 rfl (lv_at hl 1 rfl) ?_
        refine lv_iload_n hx hb dX6_leastTurn_26 rfl (lv_at hl 3 rfl) ?_
        refine lv_sipush (v := (360 : Int32)) hx hb dX6_leastTurn_27 rfl ?_
        refine xb hf (fun v3 hv hf => ?_)
        refine xc_V0 (rest := []) ⟨hx, hb, hml, hown, hts⟩ (mX6_turns hv) (cwV 3 hts gX6_leastTurn_X6_turns rfl rfl rfl hqX6_turns ⟨Nat.le_of_ble_eq_true rfl, Nat.le_of_ble_eq_true rfl⟩) X (va_recv X.1 X.2.1 (ci := 4) (q0 := 0) rfl wlR_0) rfl hl.1 rfl (Nat.le_of_ble_eq_true rfl) dX6_leastTurn_30 ⟨Nat.zero_le _, Nat.zero_le _⟩ (fun H locs X => ?_)
        refine lv_aload_n hx hb dX6_leastTurn_33 rfl (lv_at hl 0 rfl) ?_
        refine lv_iload_n hx hb dX6_leastTurn_34 rfl (lv_at hl 1 rfl) ?_
        refine lv_iload_n hx hb dX6_leastTurn_35 rfl (lv_at hl 2 rfl) ?_
        refine lv_sipush (v := (490 : Int32)) hx hb dX6_leastTurn_36 rfl ?_
        refine xb hf (fun v4 hv hf => ?_)
        refine xc_V0 (rest := []) ⟨hx, hb, hml, hown, hts⟩ (mX6_turns hv) (cwV 3 hts gX6_leastTurn_X6_turns rfl rfl rfl hqX6_turns ⟨Nat.le_of_ble_eq_true rfl, Nat.le_of_ble_eq_true rfl⟩) X (va_recv X.1 X.2.1 (ci := 4) (q0 := 0) rfl wlR_0) rfl hl.1 rfl (Nat.le_of_ble_eq_true rfl) dX6_leastTurn_39 ⟨Nat.zero_le _, Nat.zero_le _⟩ (fun H locs X => ?_)
        refine lv_aload_n hx hb dX6_leastTurn_42 rfl (lv_at hl 0 rfl) ?_
        refine lv_sipush (v := (360 : Int32)) hx hb dX6_leastTurn_43 rfl ?_
        refine lv_aload_n hx hb dX6_leastTurn_46 rfl (lv_at hl 0 rfl) ?_
        refine xg_f hx hb hts hown X h6 0 wlR_0 rfl 2 (by decide) (by decide +kernel) (v := .ref (bd 2)) rfl dX6_leastTurn_47 ?_
        refine lv_iload_n hx hb dX6_leastTurn_50 rfl (lv_at hl 1 rfl) ?_
        refine xa_iald hx hb X 2 wlR_2 dX6_leastTurn_51 hf (fun v5 hf => ?_)
        refine lv_sipush (v := (490 : Int32)) hx hb dX6_leastTurn_52 rfl ?_
        refine lv_aload_n hx hb dX6_leastTurn_55 rfl (lv_at hl 0 rfl) ?_
        refine xg_f hx hb hts hown X h6 0 wlR_0 rfl 2 (by decide) (by decide +kernel) (v := .ref (bd 2)) rfl dX6_leastTurn_56 ?_
        refine lv_iload_n hx hb dX6_leastTurn_59 rfl (lv_at hl 1 rfl) ?_
        refine xa_iald hx hb X 2 wlR_2 dX6_leastTurn_60 hf (fun v6 hf => ?_)
        refine xb hf (fun v7 hv hf => ?_)
        refine xc_V1 (rest := []) ⟨hx, hb, hml, hown, hts⟩ (mX6_order hv) (cwV 4 hts gX6_leastTurn_X6_order rfl rfl rfl hqX6_order ⟨Nat.le_of_ble_eq_true rfl, Nat.le_of_ble_eq_true rfl⟩) X (va_recv X.1 X.2.1 (ci := 4) (q0 := 0) rfl wlR_0) rfl hl.1 rfl (Nat.le_of_ble_eq_true rfl) dX6_leastTurn_61 ⟨Nat.zero_le _, Nat.zero_le _⟩ (fun H locs X => ?_)
        refine xr_if_ge (tgt := 71) hx hb dX6_leastTurn_64 rfl hf (fun hf => ?_) (fun hf => ?_)
        · refine lv_iload_n hx hb dX6_leastTurn_71 rfl (lv_at hl 2 rfl) ?_
          refine lv_istore_n (lv' := [(2, .int y2), (0, .ref (bd 0)), (1, .int y1), (3, .int y3)]) hx hb dX6_leastTurn_72 rfl hl (by decide) rfl (fun ls hl => ?_)
          refine lv_iinc (v := (y3 + 1)) (lv' := [(3, .int (y3 + 1)), (2, .int y2), (0, .ref (bd 0)), (1, .int y1)]) hx hb dX6_leastTurn_73 hl (k := 3) rfl ii_1 (by decide) rfl (fun ls hl => ?_)
          refine lv_goto (tgt := 14) hx hb dX6_leastTurn_76 rfl ?_
          exact ih y2 (y3 + 1) th v4 hf _ _ _ X (lv_sub hl [2, 3, 1, 0] rfl)
        · refine lv_iload_n hx hb dX6_leastTurn_67 rfl (lv_at hl 3 rfl) ?_
          refine lv_goto (tgt := 72) hx hb dX6_leastTurn_68 rfl ?_
          refine lv_istore_n (lv' := [(2, .int y3), (0, .ref (bd 0)), (1, .int y1), (3, .int y3)]) hx hb dX6_leastTurn_72 rfl hl (by decide) rfl (fun ls hl => ?_)
          refine lv_iinc (v := (y3 + 1)) (lv' := [(3, .int (y3 + 1)), (2, .int y3), (0, .ref (bd 0)), (1, .int y1)]) hx hb dX6_leastTurn_73 hl (k := 3) rfl ii_1 (by decide) rfl (fun ls hl => ?_)
          refine lv_goto (tgt := 14) hx hb dX6_leastTurn_76 rfl ?_
          exact ih y3 (y3 + 1) th v4 hf _ _ _ X (lv_sub hl [2, 3, 1, 0] rfl)
  rw [fX6_leastTurn] at hf
  refine lv_aload_n hx hb dX6_leastTurn_0 rfl (lv_at hl 0 rfl) ?_
  refine lv_iload_n hx hb dX6_leastTurn_1 rfl (lv_at hl 1 rfl) ?_
  refine xb hf (fun v1 hv hf => ?_)
  refine xc_V1 (rest := []) ⟨hx, hb, hml, hown, hts⟩ (mX6_isNo hv) (cwV 1 hts gX6_leastTurn_X6_isNo rfl rfl rfl hqX6_isNo ⟨Nat.le_of_ble_eq_true rfl, Nat.le_of_ble_eq_true rfl⟩) X (va_recv X.1 X.2.1 (ci := 4) (q0 := 0) rfl wlR_0) rfl hl.1 rfl (Nat.le_of_ble_eq_true rfl) dX6_leastTurn_2 ⟨Nat.zero_le _, Nat.zero_le _⟩ (fun H locs X => ?_)
  refine xr_if_eq (tgt := 10) hx hb dX6_leastTurn_5 rfl hf (fun hf => ?_) (fun hf => ?_)
  · refine lv_iconst (v := (0 : Int32)) hx hb dX6_leastTurn_10 rfl ?_
    refine lv_istore_n (lv' := [(2, .int (0 : Int32)), (0, .ref (bd 0)), (1, .int x1)]) hx hb dX6_leastTurn_11 rfl hl (by decide) rfl (fun ls hl => ?_)
    refine lv_iconst (v := (1 : Int32)) hx hb dX6_leastTurn_12 rfl ?_
    refine lv_istore_n (lv' := [(3, .int (1 : Int32)), (2, .int (0 : Int32)), (0, .ref (bd 0)), (1, .int x1)]) hx hb dX6_leastTurn_13 rfl hl (by decide) rfl (fun ls hl => ?_)
    exact w14 x1 fu (0 : Int32) (1 : Int32) v1.2 ce hf _ _ _ X (lv_sub hl [2, 3, 1, 0] rfl)
  · refine lv_iconst (v := (0 : Int32)) hx hb dX6_leastTurn_8 rfl ?_
    cases hf
    exact xe_i hx hb hr hlocks X dX6_leastTurn_9
set_option maxRecDepth 100000 in
set_option maxHeartbeats 4000000 in
theorem mX6_isLeastEnd {l : Launch} {dd : va_G} {cy : Nat → ClassId} {bd : Nat → Nat} {A : Nat → Prop} {fu : Nat} {th : Int32} {ce : Nat → Int32} {sz : Nat → Int32} {wy : Nat → Int64} {op : Nat → Int32} {x1 : Int32} {x2 : Int32} {rv : Int32} (hf : fX6_isLeastEnd fu ce x1 x2 = some rv) : Met l yX6_isLeastEnd wsX6_isLeastEnd { frames := 2, cells := 0, slots := 0, locals := 50 } (va_Pc [.ref (bd 0), .int x1, .int x2] (IW dd cy A (wlR bd cy th ce sz wy op))) (QX dd cy A (some (.int rv)) (wlR bd cy th ce sz wy op)) 0 0 A := by
  refine Met.ofW (cc := cX6_isLeastEnd) (maxL := 5) (ret := some .boolean) (by decide) rfl ?_
  intro p e s m args below meth c s₁ B hml hv
  obtain ⟨hav, hI⟩ := hv
  have hx := B.exec
  have hb := B.bytes
  have hr := B.returns
  have hts := atoms_spec (ws := wsX6_isLeastEnd) B.pre
  have hown : s.vm.findClass RX6 = some m.cls := findClass_of_methodNamed B.named
  have hlocks := B.notSynchronized
  have X := XW.of hI
  refine xe_in hav (Nat.le_of_ble_eq_true rfl) rfl (fun ls hl => ?_)
  have w5 : ∀ (y1 : Int32) (y2 : Int32) (n : Nat) (y3 : Int32) (y4 : Int32), fX6_isLeastEnd_5 fu ce y1 y2 n y3 y4 = some rv → ∀ (H : Heap) (locs : List Loc) (ls : Array Slot), XW dd cy A s (wlR bd cy th ce sz wy op) H locs → lv_has ls 5 [(0, .ref (bd 0)), (1, .int y1), (2, .int y2), (3, .int y3), (4, .int y4)] → W p l e (headSpec wsX6_isLeastEnd { frames := 2, cells := 0, slots := 0, locals := 50 }).room s m args below meth c H locs 0 0 (MQ below (QX dd cy A (some (.int rv)) (wlR bd cy th ce sz wy op)) args s 0 0 A) (F0 m 5 ls []) := by
    intro y1 y2 n
    induction n with
    | zero => intro y3 y4 hf; exact absurd hf (by simp [fX6_isLeastEnd_5])
    | succ n ih =>
      intro y3 y4 hf H locs ls X hl
      rw [fX6_isLeastEnd_5] at hf
      refine lv_iload hx hb dX6_isLeastEnd_5 (lv_at hl 4 rfl) ?_
      refine lv_iload_n hx hb dX6_isLeastEnd_7 rfl (lv_at hl 2 rfl) ?_
      refine xr_icmp_ge (tgt := 44) hx hb dX6_isLeastEnd_8 rfl hf (fun hf => ?_) (fun hf => ?_)
      · refine lv_iload_n hx hb dX6_isLeastEnd_44 rfl (lv_at hl 3 rfl) ?_
        refine xb hf (fun z9 hz hf => ?_)
        obtain ⟨hn, rfl⟩ := ckZ_some hz
        cases hf
        exact xe_z hx hb hr hlocks X hn dX6_isLeastEnd_45
      · refine lv_iload_n hx hb dX6_isLeastEnd_11 rfl (lv_at hl 3 rfl) ?_
        refine xr_if_eq (tgt := 44) hx hb dX6_isLeastEnd_12 rfl hf (fun hf => ?_) (fun hf => ?_)
        · refine lv_iload_n hx hb dX6_isLeastEnd_44 rfl (lv_at hl 3 rfl) ?_
          refine xb hf (fun z9 hz hf => ?_)
          obtain ⟨hn, rfl⟩ := ckZ_some hz
          cases hf
          exact xe_z hx hb hr hlocks X hn dX6_isLeastEnd_45
        · refine lv_aload_n hx hb dX6_isLeastEnd_15 rfl (lv_at hl 0 rfl) ?_
          refine lv_iload_n hx hb dX6_isLeastEnd_16 rfl (lv_at hl 1 rfl) ?_
          refine lv_iload_n hx hb dX6_isLeastEnd_17 rfl (lv_at hl 2 rfl) ?_
          refine lv_iload_n hx hb dX6_isLeastEnd_18 rfl (lv_at hl 1 rfl) ?_
          refine lv_iload hx hb dX6_isLeastEnd_19 (lv_at hl 4 rfl) ?_
          refine lv_iadd hx hb dX6_isLeastEnd_21 ?_
          refine lv_iload_n hx hb dX6_isLeastEnd_22 rfl (lv_at hl 2 rfl) ?_
          refine lv_iload hx hb dX6_isLeastEnd_23 (lv_at hl 4 rfl) ?_
          refine lv_isub hx hb dX6_isLeastEnd_25 ?_
          refine xb hf (fun v1 hv hf => ?_)
          refine xc_V1 (rest := []) ⟨hx, hb, hml, hown, hts⟩ (mX6_order hv) (cwV 4 hts gX6_isLeastEnd_X6_order rfl rfl rfl hqX6_order ⟨Nat.le_of_ble_eq_true rfl, Nat.le_of_ble_eq_true rfl⟩) X (va_recv X.1 X.2.1 (ci := 4) (q0 := 0) rfl wlR_0) rfl hl.1 rfl (Nat.le_of_ble_eq_true rfl) dX6_isLeastEnd_26 ⟨Nat.zero_le _, Nat.zero_le _⟩ (fun H locs X => ?_)
          refine xr_if_ge (tgt := 36) hx hb dX6_isLeastEnd_29 rfl hf (fun hf => ?_) (fun hf => ?_)
          · refine lv_iconst (v := (0 : Int32)) hx hb dX6_isLeastEnd_36 rfl ?_
            refine lv_istore_n (lv' := [(3, .int (0 : Int32)), (0, .ref (bd 0)), (1, .int y1), (2, .int y2), (4, .int y4)]) hx hb dX6_isLeastEnd_37 rfl hl (by decide) rfl (fun ls hl => ?_)
            refine lv_iinc (v := (y4 + 1)) (lv' := [(4, .int (y4 + 1)), (3, .int (0 : Int32)), (0, .ref (bd 0)), (1, .int y1), (2, .int y2)]) hx hb dX6_isLeastEnd_38 hl (k := 4) rfl ii_1 (by decide) rfl (fun ls hl => ?_)
            refine lv_goto (tgt := 5) hx hb dX6_isLeastEnd_41 rfl ?_
            exact ih (0 : Int32) (y4 + 1) hf _ _ _ X (lv_sub hl [2, 3, 4, 1, 0] rfl)
          · refine lv_iconst (v := (1 : Int32)) hx hb dX6_isLeastEnd_32 rfl ?_
            refine lv_goto (tgt := 37) hx hb dX6_isLeastEnd_33 rfl ?_
            refine lv_istore_n (lv' := [(3, .int (1 : Int32)), (0, .ref (bd 0)), (1, .int y1), (2, .int y2), (4, .int y4)]) hx hb dX6_isLeastEnd_37 rfl hl (by decide) rfl (fun ls hl => ?_)
            refine lv_iinc (v := (y4 + 1)) (lv' := [(4, .int (y4 + 1)), (3, .int (1 : Int32)), (0, .ref (bd 0)), (1, .int y1), (2, .int y2)]) hx hb dX6_isLeastEnd_38 hl (k := 4) rfl ii_1 (by decide) rfl (fun ls hl => ?_)
            refine lv_goto (tgt := 5) hx hb dX6_isLeastEnd_41 rfl ?_
            exact ih (1 : Int32) (y4 + 1) hf _ _ _ X (lv_sub hl [2, 3, 4, 1, 0] rfl)
  rw [fX6_isLeastEnd] at hf
  refine lv_iconst (v := (1 : Int32)) hx hb dX6_isLeastEnd_0 rfl ?_
  refine lv_istore_n (lv' := [(3, .int (1 : Int32)), (0, .ref (bd 0)), (1, .int x1), (2, .int x2)]) hx hb dX6_isLeastEnd_1 rfl hl (by decide) rfl (fun ls hl => ?_)
  refine lv_iconst (v := (1 : Int32)) hx hb dX6_isLeastEnd_2 rfl ?_
  refine lv_istore (lv' := [(4, .int (1 : Int32)), (3, .int (1 : Int32)), (0, .ref (bd 0)), (1, .int x1), (2, .int x2)]) hx hb dX6_isLeastEnd_3 hl (by decide) rfl (fun ls hl => ?_)
  exact w5 x1 x2 fu (1 : Int32) (1 : Int32) hf _ _ _ X (lv_sub hl [2, 3, 4, 1, 0] rfl)
set_option maxRecDepth 100000 in
set_option maxHeartbeats 4000000 in
theorem mX6_factorOf {l : Launch} {dd : va_G} {cy : Nat → ClassId} {bd : Nat → Nat} {A : Nat → Prop} {fu : Nat} {th : Int32} {ce : Nat → Int32} {sz : Nat → Int32} {wy : Nat → Int64} {op : Nat → Int32} {x1 : Int32} {x2 : Int32} {rv : Int32} (hf : fX6_factorOf fu ce sz x1 x2 = some rv) : Met l yX6_factorOf wsX6_factorOf { frames := 3, cells := 0, slots := 0, locals := 74 } (va_Pc [.ref (bd 0), .int x1, .int x2] (IW dd cy A (wlR bd cy th ce sz wy op))) (QX dd cy A (some (.int rv)) (wlR bd cy th ce sz wy op)) 0 0 A := by
  refine Met.ofW (cc := cX6_factorOf) (maxL := 4) (ret := some .int) (by decide) rfl ?_
  intro p e s m args below meth c s₁ B hml hv
  obtain ⟨hav, hI⟩ := hv
  have hx := B.exec
  have hb := B.bytes
  have hr := B.returns
  have hts := atoms_spec (ws := wsX6_factorOf) B.pre
  have hown : s.vm.findClass RX6 = some m.cls := findClass_of_methodNamed B.named
  have hlocks := B.notSynchronized
  have X := XW.of hI
  have h6 : ∀ w ∈ wsX60, w ∈ wsX6_factorOf := by decide +kernel
  refine xe_in hav (Nat.le_of_ble_eq_true rfl) rfl (fun ls hl => ?_)
  have w9 : ∀ (y1 : Int32) (y2 : Int32) (n : Nat) (y3 : Int32), fX6_factorOf_9 fu ce sz y1 y2 n y3 = some rv → ∀ (H : Heap) (locs : List Loc) (ls : Array Slot), XW dd cy A s (wlR bd cy th ce sz wy op) H locs → lv_has ls 4 [(0, .ref (bd 0)), (1, .int y1), (2, .int y2), (3, .int y3)] → W p l e (headSpec wsX6_factorOf { frames := 3, cells := 0, slots := 0, locals := 74 }).room s m args below meth c H locs 0 0 (MQ below (QX dd cy A (some (.int rv)) (wlR bd cy th ce sz wy op)) args s 0 0 A) (F0 m 9 ls []) := by
    intro y1 y2 n
    induction n with
    | zero => intro y3 hf; exact absurd hf (by simp [fX6_factorOf_9])
    | succ n ih =>
      intro y3 hf H locs ls X hl
      rw [fX6_factorOf_9] at hf
      refine lv_aload_n hx hb dX6_factorOf_9 rfl (lv_at hl 0 rfl) ?_
      refine lv_iload_n hx hb dX6_factorOf_10 rfl (lv_at hl 1 rfl) ?_
      refine xb hf (fun v2 hv hf => ?_)
      refine xc_S1 (rest := [.ref (bd 0)]) ⟨hx, hb, hml, hown, hts⟩ (mX6_baseOf hv) (va_cwS 1 hts gX6_factorOf_X6_baseOf rfl rfl rfl hqX6_baseOf ⟨Nat.le_of_ble_eq_true rfl, Nat.le_of_ble_eq_true rfl⟩) X rfl hl.1 rfl (Nat.le_of_ble_eq_true rfl) dX6_factorOf_11 ⟨Nat.zero_le _, Nat.zero_le _⟩ (fun H locs X => ?_)
      refine lv_iload_n hx hb dX6_factorOf_14 rfl (lv_at hl 2 rfl) ?_
      refine lv_iadd hx hb dX6_factorOf_15 ?_
      refine lv_iload_n hx hb dX6_factorOf_16 rfl (lv_at hl 3 rfl) ?_
      refine xb hf (fun v3 hv hf => ?_)
      refine xc_V1 (rest := []) ⟨hx, hb, hml, hown, hts⟩ (mX6_isLeastEnd hv) (cwV 2 hts gX6_factorOf_X6_isLeastEnd rfl rfl rfl hqX6_isLeastEnd ⟨Nat.le_of_ble_eq_true rfl, Nat.le_of_ble_eq_true rfl⟩) X (va_recv X.1 X.2.1 (ci := 4) (q0 := 0) rfl wlR_0) rfl hl.1 rfl (Nat.le_of_ble_eq_true rfl) dX6_factorOf_17 ⟨Nat.zero_le _, Nat.zero_le _⟩ (fun H locs X => ?_)
      refine xr_if_ne (tgt := 29) hx hb dX6_factorOf_20 rfl hf (fun hf => ?_) (fun hf => ?_)
      · refine lv_iload_n hx hb dX6_factorOf_29 rfl (lv_at hl 3 rfl) ?_
        cases hf
        exact xe_i hx hb hr hlocks X dX6_factorOf_30
      · refine lv_iinc (v := (y3 + (-1))) (lv' := [(3, .int (y3 + (-1))), (0, .ref (bd 0)), (1, .int y1), (2, .int y2)]) hx hb dX6_factorOf_23 hl (k := 3) rfl ii_m1 (by decide) rfl (fun ls hl => ?_)
        refine lv_goto (tgt := 9) hx hb dX6_factorOf_26 rfl ?_
        exact ih (y3 + (-1)) hf _ _ _ X (lv_sub hl [1, 2, 3, 0] rfl)
  rw [fX6_factorOf] at hf
  refine lv_aload_n hx hb dX6_factorOf_0 rfl (lv_at hl 0 rfl) ?_
  refine xg_f hx hb hts hown X h6 0 wlR_0 rfl 2 (by decide) (by decide +kernel) (v := .ref (bd 2)) rfl dX6_factorOf_1 ?_
  refine lv_iload_n hx hb dX6_factorOf_4 rfl (lv_at hl 1 rfl) ?_
  refine xa_iald hx hb X 2 wlR_2 dX6_factorOf_5 hf (fun v1 hf => ?_)
  refine lv_iload_n hx hb dX6_factorOf_6 rfl (lv_at hl 2 rfl) ?_
  refine lv_isub hx hb dX6_factorOf_7 ?_
  refine lv_istore_n (lv' := [(3, .int (v1 - x2)), (0, .ref (bd 0)), (1, .int x1), (2, .int x2)]) hx hb dX6_factorOf_8 rfl hl (by decide) rfl (fun ls hl => ?_)
  exact w9 x1 x2 fu (v1 - x2) hf _ _ _ X (lv_sub hl [1, 2, 3, 0] rfl)
set_option maxRecDepth 100000 in
set_option maxHeartbeats 4000000 in
theorem mX6_factorsOf {l : Launch} {dd : va_G} {cy : Nat → ClassId} {bd : Nat → Nat} {A : Nat → Prop} {fu : Nat} {th : Int32} {ce : Nat → Int32} {sz : Nat → Int32} {wy : Nat → Int64} {op : Nat → Int32} {x1 : Int32} {rv : Int32} (hf : fX6_factorsOf fu ce sz x1 = some rv) : Met l yX6_factorsOf wsX6_factorsOf { frames := 4, cells := 0, slots := 0, locals := 97 } (va_Pc [.ref (bd 0), .int x1] (IW dd cy A (wlR bd cy th ce sz wy op))) (QX dd cy A (some (.int rv)) (wlR bd cy th ce sz wy op)) 0 0 A := by
  refine Met.ofW (cc := cX6_factorsOf) (maxL := 4) (ret := some .int) (by decide) rfl ?_
  intro p e s m args below meth c s₁ B hml hv
  obtain ⟨hav, hI⟩ := hv
  have hx := B.exec
  have hb := B.bytes
  have hr := B.returns
  have hts := atoms_spec (ws := wsX6_factorsOf) B.pre
  have hown : s.vm.findClass RX6 = some m.cls := findClass_of_methodNamed B.named
  have hlocks := B.notSynchronized
  have X := XW.of hI
  have h6 : ∀ w ∈ wsX60, w ∈ wsX6_factorsOf := by decide +kernel
  refine xe_in hav (Nat.le_of_ble_eq_true rfl) rfl (fun ls hl => ?_)
  have w4 : ∀ (y1 : Int32) (n : Nat) (y2 : Int32) (y3 : Int32), fX6_factorsOf_4 fu ce sz y1 n y2 y3 = some rv → ∀ (H : Heap) (locs : List Loc) (ls : Array Slot), XW dd cy A s (wlR bd cy th ce sz wy op) H locs → lv_has ls 4 [(0, .ref (bd 0)), (1, .int y1), (2, .int y2), (3, .int y3)] → W p l e (headSpec wsX6_factorsOf { frames := 4, cells := 0, slots := 0, locals := 97 }).room s m args below meth c H locs 0 0 (MQ below (QX dd cy A (some (.int rv)) (wlR bd cy th ce sz wy op)) args s 0 0 A) (F0 m 4 ls []) := by
    intro y1 n
    induction n with
    | zero => intro y2 y3 hf; exact absurd hf (by simp [fX6_factorsOf_4])
    | succ n ih =>
      intro y2 y3 hf H locs ls X hl
      rw [fX6_factorsOf_4] at hf
      refine lv_iload_n hx hb dX6_factorsOf_4 rfl (lv_at hl 3 rfl) ?_
      refine lv_aload_n hx hb dX6_factorsOf_5 rfl (lv_at hl 0 rfl) ?_
      refine xg_f hx hb hts hown X h6 0 wlR_0 rfl 2 (by decide) (by decide +kernel) (v := .ref (bd 2)) rfl dX6_factorsOf_6 ?_
      refine lv_iload_n hx hb dX6_factorsOf_9 rfl (lv_at hl 1 rfl) ?_
      refine xa_iald hx hb X 2 wlR_2 dX6_factorsOf_10 hf (fun v1 hf => ?_)
      refine xr_icmp_ge (tgt := 29) hx hb dX6_factorsOf_11 rfl hf (fun hf => ?_) (fun hf => ?_)
      · refine lv_iload_n hx hb dX6_factorsOf_29 rfl (lv_at hl 2 rfl) ?_
        cases hf
        exact xe_i hx hb hr hlocks X dX6_factorsOf_30
      · refine lv_iinc (v := (y2 + 1)) (lv' := [(2, .int (y2 + 1)), (0, .ref (bd 0)), (1, .int y1), (3, .int y3)]) hx hb dX6_factorsOf_14 hl (k := 2) rfl ii_1 (by decide) rfl (fun ls hl => ?_)
        refine lv_iload_n hx hb dX6_factorsOf_17 rfl (lv_at hl 3 rfl) ?_
        refine lv_aload_n hx hb dX6_factorsOf_18 rfl (lv_at hl 1 rfl) ?_
        refine lv_iload_n hx hb dX6_factorsOf_19 rfl (lv_at hl 2 rfl) ?_
        refine lv_iload_n hx hb dX6_factorsOf_20 rfl (lv_at hl 3 rfl) ?_
        refine xb hf (fun v2 hv hf => ?_)
        refine xc_V1 (rest := [.int y3]) ⟨hx, hb, hml, hown, hts⟩ (mX6_factorOf hv) (cwV 2 hts gX6_factorsOf_X6_factorOf rfl rfl rfl hqX6_factorOf ⟨Nat.le_of_ble_eq_true rfl, Nat.le_of_ble_eq_true rfl⟩) X (va_recv X.1 X.2.1 (ci := 4) (q0 := 0) rfl wlR_0) rfl hl.1 rfl (Nat.le_of_ble_eq_true rfl) dX6_factorsOf_21 ⟨Nat.zero_le _, Nat.zero_le _⟩ (fun H locs X => ?_)
        refine lv_iadd hx hb dX6_factorsOf_24 ?_
        refine lv_istore_n (lv' := [(3, .int (y3 + v2)), (2, .int (y2 + 1)), (0, .ref (bd 0)), (1, .int y1)]) hx hb dX6_factorsOf_25 rfl hl (by decide) rfl (fun ls hl => ?_)
        refine lv_goto (tgt := 4) hx hb dX6_factorsOf_26 rfl ?_
        exact ih (y2 + 1) (y3 + v2) hf _ _ _ X (lv_sub hl [2, 3, 1, 0] rfl)
  rw [fX6_factorsOf] at hf
  refine lv_iconst (v := (0 : Int32)) hx hb dX6_factorsOf_0 rfl ?_
  refine lv_istore_n (lv' := [(2, .int (0 : Int32)), (0, .ref (bd 0)), (1, .int x1)]) hx hb dX6_factorsOf_1 rfl hl (by decide) rfl (fun ls hl => ?_)
  refine lv_iconst (v := (0 : Int32)) hx hb dX6_factorsOf_2 rfl ?_
  refine lv_istore_n (lv' := [(3, .int (0 : Int32)), (2, .int (0 : Int32)), (0, .ref (bd 0)), (1, .int x1)]) hx hb dX6_factorsOf_3 rfl hl (by decide) rfl (fun ls hl => ?_)
  exact w4 x1 fu (0 : Int32) (0 : Int32) hf _ _ _ X (lv_sub hl [2, 3, 1, 0] rfl)
set_option maxRecDepth 100000 in
set_option maxHeartbeats 4000000 in
theorem mX6_factors {l : Launch} {dd : va_G} {cy : Nat → ClassId} {bd : Nat → Nat} {A : Nat → Prop} {fu : Nat} {th : Int32} {ce : Nat → Int32} {sz : Nat → Int32} {wy : Nat → Int64} {op : Nat → Int32} {x1 : Int32} {rv : Int32} {tho : Int32} (hf : fX6_factors fu th ce sz x1 = some (rv, tho)) : Met l yX6_factors wsX6_factors { frames := 5, cells := 0, slots := 0, locals := 120 } (va_Pc [.ref (bd 0), .int x1] (IW dd cy A (wlR bd cy th ce sz wy op))) (QX dd cy A (some (.int rv)) (wlR bd cy tho ce sz wy op)) 0 0 A := by
  refine Met.ofW (cc := cX6_factors) (maxL := 2) (ret := some .int) (by decide) rfl ?_
  intro p e s m args below meth c s₁ B hml hv
  obtain ⟨hav, hI⟩ := hv
  have hx := B.exec
  have hb := B.bytes
  have hr := B.returns
  have hts := atoms_spec (ws := wsX6_factors) B.pre
  have hown : s.vm.findClass RX6 = some m.cls := findClass_of_methodNamed B.named
  have hlocks := B.notSynchronized
  have X := XW.of hI
  refine xe_in hav (Nat.le_of_ble_eq_true rfl) rfl (fun ls hl => ?_)
  rw [fX6_factors] at hf
  refine lv_aload_n hx hb dX6_factors_0 rfl (lv_at hl 0 rfl) ?_
  refine lv_iload_n hx hb dX6_factors_1 rfl (lv_at hl 1 rfl) ?_
  refine xb hf (fun v1 hv hf => ?_)
  refine xc_V1 (rest := []) ⟨hx, hb, hml, hown, hts⟩ (mX6_isNo hv) (cwV 1 hts gX6_factors_X6_isNo rfl rfl rfl hqX6_isNo ⟨Nat.le_of_ble_eq_true rfl, Nat.le_of_ble_eq_true rfl⟩) X (va_recv X.1 X.2.1 (ci := 4) (q0 := 0) rfl wlR_0) rfl hl.1 rfl (Nat.le_of_ble_eq_true rfl) dX6_factors_2 ⟨Nat.zero_le _, Nat.zero_le _⟩ (fun H locs X => ?_)
  refine xr_if_eq (tgt := 12) hx hb dX6_factors_5 rfl hf (fun hf => ?_) (fun hf => ?_)
  · refine lv_aload_n hx hb dX6_factors_12 rfl (lv_at hl 0 rfl) ?_
    refine lv_iload_n hx hb dX6_factors_13 rfl (lv_at hl 1 rfl) ?_
    refine xb hf (fun v2 hv hf => ?_)
    refine xc_V1 (rest := []) ⟨hx, hb, hml, hown, hts⟩ (mX6_factorsOf hv) (cwV 1 hts gX6_factors_X6_factorsOf rfl rfl rfl hqX6_factorsOf ⟨Nat.le_of_ble_eq_true rfl, Nat.le_of_ble_eq_true rfl⟩) X (va_recv X.1 X.2.1 (ci := 4) (q0 := 0) rfl wlR_0) rfl hl.1 rfl (Nat.le_of_ble_eq_true rfl) dX6_factors_14 ⟨Nat.zero_le _, Nat.zero_le _⟩ (fun H locs X => ?_)
    cases hf
    exact xe_i hx hb hr hlocks X dX6_factors_17
  · refine lv_iconst (v := (0 : Int32)) hx hb dX6_factors_8 rfl ?_
    refine lv_goto (tgt := 17) hx hb dX6_factors_9 rfl ?_
    cases hf
    exact xe_i hx hb hr hlocks X dX6_factors_17
set_option maxRecDepth 100000 in
set_option maxHeartbeats 4000000 in
theorem mX6_factorAt {l : Launch} {dd : va_G} {cy : Nat → ClassId} {bd : Nat → Nat} {A : Nat → Prop} {fu : Nat} {th : Int32} {ce : Nat → Int32} {sz : Nat → Int32} {wy : Nat → Int64} {op : Nat → Int32} {x1 : Int32} {x2 : Int32} {rv : Int32} {tho : Int32} (hf : fX6_factorAt fu th ce sz x1 x2 = some (rv, tho)) : Met l yX6_factorAt wsX6_factorAt { frames := 5, cells := 0, slots := 0, locals := 120 } (va_Pc [.ref (bd 0), .int x1, .int x2] (IW dd cy A (wlR bd cy th ce sz wy op))) (QX dd cy A (some (.int rv)) (wlR bd cy tho ce sz wy op)) 0 0 A := by
  refine Met.ofW (cc := cX6_factorAt) (maxL := 5) (ret := some .int) (by decide) rfl ?_
  intro p e s m args below meth c s₁ B hml hv
  obtain ⟨hav, hI⟩ := hv
  have hx := B.exec
  have hb := B.bytes
  have hr := B.returns
  have hts := atoms_spec (ws := wsX6_factorAt) B.pre
  have hown : s.vm.findClass RX6 = some m.cls := findClass_of_methodNamed B.named
  have hlocks := B.notSynchronized
  have X := XW.of hI
  refine xe_in hav (Nat.le_of_ble_eq_true rfl) rfl (fun ls hl => ?_)
  have w45 : ∀ (y1 : Int32) (y2 : Int32) (n : Nat) (y3 : Int32) (y4 : Int32) (th : Int32), fX6_factorAt_45 fu ce sz y1 y2 n y3 y4 th = some (rv, tho) → ∀ (H : Heap) (locs : List Loc) (ls : Array Slot), XW dd cy A s (wlR bd cy th ce sz wy op) H locs → lv_has ls 5 [(0, .ref (bd 0)), (1, .int y1), (2, .int y2), (3, .int y3), (4, .int y4)] → W p l e (headSpec wsX6_factorAt { frames := 5, cells := 0, slots := 0, locals := 120 }).room s m args below meth c H locs 0 0 (MQ below (QX dd cy A (some (.int rv)) (wlR bd cy tho ce sz wy op)) args s 0 0 A) (F0 m 45 ls []) := by
    intro y1 y2 n
    induction n with
    | zero => intro y3 y4 th hf; exact absurd hf (by simp [fX6_factorAt_45])
    | succ n ih =>
      intro y3 y4 th hf H locs ls X hl
      rw [fX6_factorAt_45] at hf
      refine lv_iload hx hb dX6_factorAt_45 (lv_at hl 4 rfl) ?_
      refine lv_iload_n hx hb dX6_factorAt_47 rfl (lv_at hl 2 rfl) ?_
      refine xr_icmp_ge (tgt := 66) hx hb dX6_factorAt_48 rfl hf (fun hf => ?_) (fun hf => ?_)
      · refine lv_iload_n hx hb dX6_factorAt_66 rfl (lv_at hl 3 rfl) ?_
        cases hf
        exact xe_i hx hb hr hlocks X dX6_factorAt_67
      · refine lv_iload_n hx hb dX6_factorAt_51 rfl (lv_at hl 3 rfl) ?_
        refine lv_aload_n hx hb dX6_factorAt_52 rfl (lv_at hl 0 rfl) ?_
        refine lv_iload_n hx hb dX6_factorAt_53 rfl (lv_at hl 1 rfl) ?_
        refine lv_iload_n hx hb dX6_factorAt_54 rfl (lv_at hl 3 rfl) ?_
        refine xb hf (fun v5 hv hf => ?_)
        refine xc_V1 (rest := [.int y3]) ⟨hx, hb, hml, hown, hts⟩ (mX6_factorOf hv) (cwV 2 hts gX6_factorAt_X6_factorOf rfl rfl rfl hqX6_factorOf ⟨Nat.le_of_ble_eq_true rfl, Nat.le_of_ble_eq_true rfl⟩) X (va_recv X.1 X.2.1 (ci := 4) (q0 := 0) rfl wlR_0) rfl hl.1 rfl (Nat.le_of_ble_eq_true rfl) dX6_factorAt_55 ⟨Nat.zero_le _, Nat.zero_le _⟩ (fun H locs X => ?_)
        refine lv_iadd hx hb dX6_factorAt_58 ?_
        refine lv_istore_n (lv' := [(3, .int (y3 + v5)), (0, .ref (bd 0)), (1, .int y1), (2, .int y2), (4, .int y4)]) hx hb dX6_factorAt_59 rfl hl (by decide) rfl (fun ls hl => ?_)
        refine lv_iinc (v := (y4 + 1)) (lv' := [(4, .int (y4 + 1)), (3, .int (y3 + v5)), (0, .ref (bd 0)), (1, .int y1), (2, .int y2)]) hx hb dX6_factorAt_60 hl (k := 4) rfl ii_1 (by decide) rfl (fun ls hl => ?_)
        refine lv_goto (tgt := 45) hx hb dX6_factorAt_63 rfl ?_
        exact ih (y3 + v5) (y4 + 1) th hf _ _ _ X (lv_sub hl [2, 3, 4, 1, 0] rfl)
  have w31 : ∀ (y1 : Int32) (y2 : Int32) (s0 : Int32) (th : Int32), fX6_factorAt_31 fu ce sz y1 y2 s0 th = some (rv, tho) → ∀ (H : Heap) (locs : List Loc) (ls : Array Slot), XW dd cy A s (wlR bd cy th ce sz wy op) H locs → lv_has ls 5 [(0, .ref (bd 0)), (1, .int y1), (2, .int y2)] → W p l e (headSpec wsX6_factorAt { frames := 5, cells := 0, slots := 0, locals := 120 }).room s m args below meth c H locs 0 0 (MQ below (QX dd cy A (some (.int rv)) (wlR bd cy tho ce sz wy op)) args s 0 0 A) (F0 m 31 ls [.int s0, .ref (bd 0)]) := by
    intro y1 y2 s0 th hf H locs ls X hl
    rw [fX6_factorAt_31] at hf
    refine lv_iconst (v := (2 : Int32)) hx hb dX6_factorAt_31 rfl ?_
    refine xb hf (fun v4 hv hf => ?_)
    refine xc_V1 (rest := []) ⟨hx, hb, hml, hown, hts⟩ (mX6_isThrown hv) (cwV 2 hts gX6_factorAt_X6_isThrown rfl rfl rfl hqX6_isThrown ⟨Nat.le_of_ble_eq_true rfl, Nat.le_of_ble_eq_true rfl⟩) X (va_recv X.1 X.2.1 (ci := 4) (q0 := 0) rfl wlR_0) rfl hl.1 rfl (Nat.le_of_ble_eq_true rfl) dX6_factorAt_32 ⟨Nat.zero_le _, Nat.zero_le _⟩ (fun H locs X => ?_)
    refine xr_if_eq (tgt := 40) hx hb dX6_factorAt_35 rfl hf (fun hf => ?_) (fun hf => ?_)
    · refine lv_iconst (v := (0 : Int32)) hx hb dX6_factorAt_40 rfl ?_
      refine lv_istore_n (lv' := [(3, .int (0 : Int32)), (0, .ref (bd 0)), (1, .int y1), (2, .int y2)]) hx hb dX6_factorAt_41 rfl hl (by decide) rfl (fun ls hl => ?_)
      refine lv_iconst (v := (0 : Int32)) hx hb dX6_factorAt_42 rfl ?_
      refine lv_istore (lv' := [(4, .int (0 : Int32)), (3, .int (0 : Int32)), (0, .ref (bd 0)), (1, .int y1), (2, .int y2)]) hx hb dX6_factorAt_43 hl (by decide) rfl (fun ls hl => ?_)
      exact w45 y1 y2 fu (0 : Int32) (0 : Int32) v4.2 hf _ _ _ X (lv_sub hl [2, 3, 4, 1, 0] rfl)
    · refine lv_iconst (v := (0 : Int32)) hx hb dX6_factorAt_38 rfl ?_
      cases hf
      exact xe_i hx hb hr hlocks X dX6_factorAt_39
  rw [fX6_factorAt] at hf
  refine lv_aload_n hx hb dX6_factorAt_0 rfl (lv_at hl 0 rfl) ?_
  refine lv_iload_n hx hb dX6_factorAt_1 rfl (lv_at hl 1 rfl) ?_
  refine xb hf (fun v1 hv hf => ?_)
  refine xc_V1 (rest := []) ⟨hx, hb, hml, hown, hts⟩ (mX6_isNo hv) (cwV 1 hts gX6_factorAt_X6_isNo rfl rfl rfl hqX6_isNo ⟨Nat.le_of_ble_eq_true rfl, Nat.le_of_ble_eq_true rfl⟩) X (va_recv X.1 X.2.1 (ci := 4) (q0 := 0) rfl wlR_0) rfl hl.1 rfl (Nat.le_of_ble_eq_true rfl) dX6_factorAt_2 ⟨Nat.zero_le _, Nat.zero_le _⟩ (fun H locs X => ?_)
  refine xr_if_ne (tgt := 38) hx hb dX6_factorAt_5 rfl hf (fun hf => ?_) (fun hf => ?_)
  · refine lv_iconst (v := (0 : Int32)) hx hb dX6_factorAt_38 rfl ?_
    cases hf
    exact xe_i hx hb hr hlocks X dX6_factorAt_39
  · refine lv_aload_n hx hb dX6_factorAt_8 rfl (lv_at hl 0 rfl) ?_
    refine lv_iload_n hx hb dX6_factorAt_9 rfl (lv_at hl 2 rfl) ?_
    refine lv_i2l (v := (x2.toInt64)) hx hb dX6_factorAt_10 rfl ?_
    refine lv_lconst (v := (0 : Int64)) hx hb dX6_factorAt_11 rfl ?_
    refine lv_aload_n hx hb dX6_factorAt_12 rfl (lv_at hl 0 rfl) ?_
    refine lv_iload_n hx hb dX6_factorAt_13 rfl (lv_at hl 1 rfl) ?_
    refine xb hf (fun v2 hv hf => ?_)
    refine xc_V1 (rest := [.long (0 : Int64), .long (x2.toInt64), .ref (bd 0)]) ⟨hx, hb, hml, hown, hts⟩ (mX6_factorsOf hv) (cwV 1 hts gX6_factorAt_X6_factorsOf rfl rfl rfl hqX6_factorsOf ⟨Nat.le_of_ble_eq_true rfl, Nat.le_of_ble_eq_true rfl⟩) X (va_recv X.1 X.2.1 (ci := 4) (q0 := 0) rfl wlR_0) rfl hl.1 rfl (Nat.le_of_ble_eq_true rfl) dX6_factorAt_14 ⟨Nat.zero_le _, Nat.zero_le _⟩ (fun H locs X => ?_)
    refine lv_iconst (v := (1 : Int32)) hx hb dX6_factorAt_17 rfl ?_
    refine lv_isub hx hb dX6_factorAt_18 ?_
    refine lv_i2l (v := ((v2 - (1 : Int32)).toInt64)) hx hb dX6_factorAt_19 rfl ?_
    refine xb hf (fun v3 hv hf => ?_)
    refine xc_S1 (rest := [.ref (bd 0)]) ⟨hx, hb, hml, hown, hts⟩ (mX6_isIn hv) (va_cwS 3 hts gX6_factorAt_X6_isIn rfl rfl rfl hqX6_isIn ⟨Nat.le_of_ble_eq_true rfl, Nat.le_of_ble_eq_true rfl⟩) X rfl hl.1 rfl (Nat.le_of_ble_eq_true rfl) dX6_factorAt_20 ⟨Nat.zero_le _, Nat.zero_le _⟩ (fun H locs X => ?_)
    refine xr_if_ne (tgt := 30) hx hb dX6_factorAt_23 rfl hf (fun hf => ?_) (fun hf => ?_)
    · refine lv_iconst (v := (0 : Int32)) hx hb dX6_factorAt_30 rfl ?_
      exact w31 x1 x2 (0 : Int32) v1.2 hf _ _ _ X (lv_sub hl [0, 1, 2] rfl)
    · refine lv_iconst (v := (1 : Int32)) hx hb dX6_factorAt_26 rfl ?_
      refine lv_goto (tgt := 31) hx hb dX6_factorAt_27 rfl ?_
      exact w31 x1 x2 (1 : Int32) v1.2 hf _ _ _ X (lv_sub hl [0, 1, 2] rfl)
set_option maxRecDepth 100000 in
set_option maxHeartbeats 4000000 in
theorem mX6_rank {l : Launch} {dd : va_G} {cy : Nat → ClassId} {bd : Nat → Nat} {A : Nat → Prop} {fu : Nat} {th : Int32} {ce : Nat → Int32} {sz : Nat → Int32} {wy : Nat → Int64} {op : Nat → Int32} {x1 : Int32} {x2 : Int32} {rv : Int32} (hf : fX6_rank fu ce sz x1 x2 = some rv) : Met l yX6_rank wsX6_rank { frames := 2, cells := 0, slots := 0, locals := 50 } (va_Pc [.ref (bd 0), .int x1, .int x2] (IW dd cy A (wlR bd cy th ce sz wy op))) (QX dd cy A (some (.int rv)) (wlR bd cy th ce sz wy op)) 0 0 A := by
  refine Met.ofW (cc := cX6_rank) (maxL := 5) (ret := some .int) (by decide) rfl ?_
  intro p e s m args below meth c s₁ B hml hv
  obtain ⟨hav, hI⟩ := hv
  have hx := B.exec
  have hb := B.bytes
  have hr := B.returns
  have hts := atoms_spec (ws := wsX6_rank) B.pre
  have hown : s.vm.findClass RX6 = some m.cls := findClass_of_methodNamed B.named
  have hlocks := B.notSynchronized
  have X := XW.of hI
  have h6 : ∀ w ∈ wsX60, w ∈ wsX6_rank := by decide +kernel
  refine xe_in hav (Nat.le_of_ble_eq_true rfl) rfl (fun ls hl => ?_)
  have w5 : ∀ (y1 : Int32) (y2 : Int32) (n : Nat) (y3 : Int32) (y4 : Int32), fX6_rank_5 fu ce sz y1 y2 n y3 y4 = some rv → ∀ (H : Heap) (locs : List Loc) (ls : Array Slot), XW dd cy A s (wlR bd cy th ce sz wy op) H locs → lv_has ls 5 [(0, .ref (bd 0)), (1, .int y1), (2, .int y2), (3, .int y3), (4, .int y4)] → W p l e (headSpec wsX6_rank { frames := 2, cells := 0, slots := 0, locals := 50 }).room s m args below meth c H locs 0 0 (MQ below (QX dd cy A (some (.int rv)) (wlR bd cy th ce sz wy op)) args s 0 0 A) (F0 m 5 ls []) := by
    intro y1 y2 n
    induction n with
    | zero => intro y3 y4 hf; exact absurd hf (by simp [fX6_rank_5])
    | succ n ih =>
      intro y3 y4 hf H locs ls X hl
      rw [fX6_rank_5] at hf
      refine lv_iload hx hb dX6_rank_5 (lv_at hl 4 rfl) ?_
      refine lv_aload_n hx hb dX6_rank_7 rfl (lv_at hl 0 rfl) ?_
      refine xg_f hx hb hts hown X h6 0 wlR_0 rfl 2 (by decide) (by decide +kernel) (v := .ref (bd 2)) rfl dX6_rank_8 ?_
      refine lv_iload_n hx hb dX6_rank_11 rfl (lv_at hl 1 rfl) ?_
      refine xa_iald hx hb X 2 wlR_2 dX6_rank_12 hf (fun v1 hf => ?_)
      refine xr_icmp_ge (tgt := 67) hx hb dX6_rank_13 rfl hf (fun hf => ?_) (fun hf => ?_)
      · refine lv_iload_n hx hb dX6_rank_67 rfl (lv_at hl 3 rfl) ?_
        cases hf
        exact xe_i hx hb hr hlocks X dX6_rank_68
      · refine lv_iload_n hx hb dX6_rank_16 rfl (lv_at hl 3 rfl) ?_
        refine lv_aload_n hx hb dX6_rank_17 rfl (lv_at hl 0 rfl) ?_
        refine lv_iload_n hx hb dX6_rank_18 rfl (lv_at hl 1 rfl) ?_
        refine xb hf (fun v2 hv hf => ?_)
        refine xc_S1 (rest := [.ref (bd 0), .int y3]) ⟨hx, hb, hml, hown, hts⟩ (mX6_baseOf hv) (va_cwS 1 hts gX6_rank_X6_baseOf rfl rfl rfl hqX6_baseOf ⟨Nat.le_of_ble_eq_true rfl, Nat.le_of_ble_eq_true rfl⟩) X rfl hl.1 rfl (Nat.le_of_ble_eq_true rfl) dX6_rank_19 ⟨Nat.zero_le _, Nat.zero_le _⟩ (fun H locs X => ?_)
        refine lv_iload hx hb dX6_rank_22 (lv_at hl 4 rfl) ?_
        refine lv_iadd hx hb dX6_rank_24 ?_
        refine lv_aload_n hx hb dX6_rank_25 rfl (lv_at hl 0 rfl) ?_
        refine xg_f hx hb hts hown X h6 0 wlR_0 rfl 2 (by decide) (by decide +kernel) (v := .ref (bd 2)) rfl dX6_rank_26 ?_
        refine lv_iload_n hx hb dX6_rank_29 rfl (lv_at hl 1 rfl) ?_
        refine xa_iald hx hb X 2 wlR_2 dX6_rank_30 hf (fun v3 hf => ?_)
        refine lv_iload hx hb dX6_rank_31 (lv_at hl 4 rfl) ?_
        refine lv_isub hx hb dX6_rank_33 ?_
        refine lv_iload_n hx hb dX6_rank_34 rfl (lv_at hl 1 rfl) ?_
        refine xb hf (fun v4 hv hf => ?_)
        refine xc_S1 (rest := [.int (v3 - y4), .int (v2 + y4), .ref (bd 0), .int y3]) ⟨hx, hb, hml, hown, hts⟩ (mX6_baseOf hv) (va_cwS 1 hts gX6_rank_X6_baseOf rfl rfl rfl hqX6_baseOf ⟨Nat.le_of_ble_eq_true rfl, Nat.le_of_ble_eq_true rfl⟩) X rfl hl.1 rfl (Nat.le_of_ble_eq_true rfl) dX6_rank_35 ⟨Nat.zero_le _, Nat.zero_le _⟩ (fun H locs X => ?_)
        refine lv_iload_n hx hb dX6_rank_38 rfl (lv_at hl 2 rfl) ?_
        refine lv_iadd hx hb dX6_rank_39 ?_
        refine lv_aload_n hx hb dX6_rank_40 rfl (lv_at hl 0 rfl) ?_
        refine xg_f hx hb hts hown X h6 0 wlR_0 rfl 2 (by decide) (by decide +kernel) (v := .ref (bd 2)) rfl dX6_rank_41 ?_
        refine lv_iload_n hx hb dX6_rank_44 rfl (lv_at hl 1 rfl) ?_
        refine xa_iald hx hb X 2 wlR_2 dX6_rank_45 hf (fun v5 hf => ?_)
        refine lv_iload_n hx hb dX6_rank_46 rfl (lv_at hl 2 rfl) ?_
        refine lv_isub hx hb dX6_rank_47 ?_
        refine xb hf (fun v6 hv hf => ?_)
        refine xc_V1 (rest := [.int y3]) ⟨hx, hb, hml, hown, hts⟩ (mX6_order hv) (cwV 4 hts gX6_rank_X6_order rfl rfl rfl hqX6_order ⟨Nat.le_of_ble_eq_true rfl, Nat.le_of_ble_eq_true rfl⟩) X (va_recv X.1 X.2.1 (ci := 4) (q0 := 0) rfl wlR_0) rfl hl.1 rfl (Nat.le_of_ble_eq_true rfl) dX6_rank_48 ⟨Nat.zero_le _, Nat.zero_le _⟩ (fun H locs X => ?_)
        refine xr_if_ge (tgt := 58) hx hb dX6_rank_51 rfl hf (fun hf => ?_) (fun hf => ?_)
        · refine lv_iconst (v := (0 : Int32)) hx hb dX6_rank_58 rfl ?_
          refine lv_iadd hx hb dX6_rank_59 ?_
          refine lv_istore_n (lv' := [(3, .int (y3 + (0 : Int32))), (0, .ref (bd 0)), (1, .int y1), (2, .int y2), (4, .int y4)]) hx hb dX6_rank_60 rfl hl (by decide) rfl (fun ls hl => ?_)
          refine lv_iinc (v := (y4 + 1)) (lv' := [(4, .int (y4 + 1)), (3, .int (y3 + (0 : Int32))), (0, .ref (bd 0)), (1, .int y1), (2, .int y2)]) hx hb dX6_rank_61 hl (k := 4) rfl ii_1 (by decide) rfl (fun ls hl => ?_)
          refine lv_goto (tgt := 5) hx hb dX6_rank_64 rfl ?_
          exact ih (y3 + (0 : Int32)) (y4 + 1) hf _ _ _ X (lv_sub hl [2, 3, 4, 1, 0] rfl)
        · refine lv_iconst (v := (1 : Int32)) hx hb dX6_rank_54 rfl ?_
          refine lv_goto (tgt := 59) hx hb dX6_rank_55 rfl ?_
          refine lv_iadd hx hb dX6_rank_59 ?_
          refine lv_istore_n (lv' := [(3, .int (y3 + (1 : Int32))), (0, .ref (bd 0)), (1, .int y1), (2, .int y2), (4, .int y4)]) hx hb dX6_rank_60 rfl hl (by decide) rfl (fun ls hl => ?_)
          refine lv_iinc (v := (y4 + 1)) (lv' := [(4, .int (y4 + 1)), (3, .int (y3 + (1 : Int32))), (0, .ref (bd 0)), (1, .int y1), (2, .int y2)]) hx hb dX6_rank_61 hl (k := 4) rfl ii_1 (by decide) rfl (fun ls hl => ?_)
          refine lv_goto (tgt := 5) hx hb dX6_rank_64 rfl ?_
          exact ih (y3 + (1 : Int32)) (y4 + 1) hf _ _ _ X (lv_sub hl [2, 3, 4, 1, 0] rfl)
  rw [fX6_rank] at hf
  refine lv_iconst (v := (0 : Int32)) hx hb dX6_rank_0 rfl ?_
  refine lv_istore_n (lv' := [(3, .int (0 : Int32)), (0, .ref (bd 0)), (1, .int x1), (2, .int x2)]) hx hb dX6_rank_1 rfl hl (by decide) rfl (fun ls hl => ?_)
  refine lv_iconst (v := (0 : Int32)) hx hb dX6_rank_2 rfl ?_
  refine lv_istore (lv' := [(4, .int (0 : Int32)), (3, .int (0 : Int32)), (0, .ref (bd 0)), (1, .int x1), (2, .int x2)]) hx hb dX6_rank_3 hl (by decide) rfl (fun ls hl => ?_)
  exact w5 x1 x2 fu (0 : Int32) (0 : Int32) hf _ _ _ X (lv_sub hl [2, 3, 4, 1, 0] rfl)
set_option maxRecDepth 100000 in
set_option maxHeartbeats 4000000 in
theorem mX6_endAt {l : Launch} {dd : va_G} {cy : Nat → ClassId} {bd : Nat → Nat} {A : Nat → Prop} {fu : Nat} {th : Int32} {ce : Nat → Int32} {sz : Nat → Int32} {wy : Nat → Int64} {op : Nat → Int32} {x1 : Int32} {x2 : Int32} {rv : Int32} {tho : Int32} (hf : fX6_endAt fu th ce sz x1 x2 = some (rv, tho)) : Met l yX6_endAt wsX6_endAt { frames := 3, cells := 0, slots := 0, locals := 74 } (va_Pc [.ref (bd 0), .int x1, .int x2] (IW dd cy A (wlR bd cy th ce sz wy op))) (QX dd cy A (some (.int rv)) (wlR bd cy tho ce sz wy op)) 0 0 A := by
  refine Met.ofW (cc := cX6_endAt) (maxL := 4) (ret := some .int) (by decide) rfl ?_
  intro p e s m args below meth c s₁ B hml hv
  obtain ⟨hav, hI⟩ := hv
  have hx := B.exec
  have hb := B.bytes
  have hr := B.returns
  have hts := atoms_spec (ws := wsX6_endAt) B.pre
  have hown : s.vm.findClass RX6 = some m.cls := findClass_of_methodNamed B.named
  have hlocks := B.notSynchronized
  have X := XW.of hI
  have h6 : ∀ w ∈ wsX60, w ∈ wsX6_endAt := by decide +kernel
  refine xe_in hav (Nat.le_of_ble_eq_true rfl) rfl (fun ls hl => ?_)
  have w43 : ∀ (y1 : Int32) (y2 : Int32) (n : Nat) (y3 : Int32) (th : Int32), fX6_endAt_43 fu ce sz y1 y2 n y3 th = some (rv, tho) → ∀ (H : Heap) (locs : List Loc) (ls : Array Slot), XW dd cy A s (wlR bd cy th ce sz wy op) H locs → lv_has ls 4 [(0, .ref (bd 0)), (1, .int y1), (2, .int y2), (3, .int y3)] → W p l e (headSpec wsX6_endAt { frames := 3, cells := 0, slots := 0, locals := 74 }).room s m args below meth c H locs 0 0 (MQ below (QX dd cy A (some (.int rv)) (wlR bd cy tho ce sz wy op)) args s 0 0 A) (F0 m 43 ls []) := by
    intro y1 y2 n
    induction n with
    | zero => intro y3 th hf; exact absurd hf (by simp [fX6_endAt_43])
    | succ n ih =>
      intro y3 th hf H locs ls X hl
      rw [fX6_endAt_43] at hf
      refine lv_aload_n hx hb dX6_endAt_43 rfl (lv_at hl 0 rfl) ?_
      refine lv_iload_n hx hb dX6_endAt_44 rfl (lv_at hl 1 rfl) ?_
      refine lv_iload_n hx hb dX6_endAt_45 rfl (lv_at hl 3 rfl) ?_
      refine xb hf (fun v5 hv hf => ?_)
      refine xc_V1 (rest := []) ⟨hx, hb, hml, hown, hts⟩ (mX6_rank hv) (cwV 2 hts gX6_endAt_X6_rank rfl rfl rfl hqX6_rank ⟨Nat.le_of_ble_eq_true rfl, Nat.le_of_ble_eq_true rfl⟩) X (va_recv X.1 X.2.1 (ci := 4) (q0 := 0) rfl wlR_0) rfl hl.1 rfl (Nat.le_of_ble_eq_true rfl) dX6_endAt_46 ⟨Nat.zero_le _, Nat.zero_le _⟩ (fun H locs X => ?_)
      refine lv_iload_n hx hb dX6_endAt_49 rfl (lv_at hl 2 rfl) ?_
      refine xr_icmp_eq (tgt := 59) hx hb dX6_endAt_50 rfl hf (fun hf => ?_) (fun hf => ?_)
      · refine lv_iload_n hx hb dX6_endAt_59 rfl (lv_at hl 3 rfl) ?_
        cases hf
        exact xe_i hx hb hr hlocks X dX6_endAt_60
      · refine lv_iinc (v := (y3 + 1)) (lv' := [(3, .int (y3 + 1)), (0, .ref (bd 0)), (1, .int y1), (2, .int y2)]) hx hb dX6_endAt_53 hl (k := 3) rfl ii_1 (by decide) rfl (fun ls hl => ?_)
        refine lv_goto (tgt := 43) hx hb dX6_endAt_56 rfl ?_
        exact ih (y3 + 1) th hf _ _ _ X (lv_sub hl [1, 2, 3, 0] rfl)
  have w32 : ∀ (y1 : Int32) (y2 : Int32) (s0 : Int32) (th : Int32), fX6_endAt_32 fu ce sz y1 y2 s0 th = some (rv, tho) → ∀ (H : Heap) (locs : List Loc) (ls : Array Slot), XW dd cy A s (wlR bd cy th ce sz wy op) H locs → lv_has ls 4 [(0, .ref (bd 0)), (1, .int y1), (2, .int y2)] → W p l e (headSpec wsX6_endAt { frames := 3, cells := 0, slots := 0, locals := 74 }).room s m args below meth c H locs 0 0 (MQ below (QX dd cy A (some (.int rv)) (wlR bd cy tho ce sz wy op)) args s 0 0 A) (F0 m 32 ls [.int s0, .ref (bd 0)]) := by
    intro y1 y2 s0 th hf H locs ls X hl
    rw [fX6_endAt_32] at hf
    refine lv_iconst (v := (2 : Int32)) hx hb dX6_endAt_32 rfl ?_
    refine xb hf (fun v4 hv hf => ?_)
    refine xc_V1 (rest := []) ⟨hx, hb, hml, hown, hts⟩ (mX6_isThrown hv) (cwV 2 hts gX6_endAt_X6_isThrown rfl rfl rfl hqX6_isThrown ⟨Nat.le_of_ble_eq_true rfl, Nat.le_of_ble_eq_true rfl⟩) X (va_recv X.1 X.2.1 (ci := 4) (q0 := 0) rfl wlR_0) rfl hl.1 rfl (Nat.le_of_ble_eq_true rfl) dX6_endAt_33 ⟨Nat.zero_le _, Nat.zero_le _⟩ (fun H locs X => ?_)
    refine xr_if_eq (tgt := 41) hx hb dX6_endAt_36 rfl hf (fun hf => ?_) (fun hf => ?_)
    · refine lv_iconst (v := (0 : Int32)) hx hb dX6_endAt_41 rfl ?_
      refine lv_istore_n (lv' := [(3, .int (0 : Int32)), (0, .ref (bd 0)), (1, .int y1), (2, .int y2)]) hx hb dX6_endAt_42 rfl hl (by decide) rfl (fun ls hl => ?_)
      exact w43 y1 y2 fu (0 : Int32) v4.2 hf _ _ _ X (lv_sub hl [1, 2, 3, 0] rfl)
    · refine lv_iconst (v := (0 : Int32)) hx hb dX6_endAt_39 rfl ?_
      cases hf
      exact xe_i hx hb hr hlocks X dX6_endAt_40
  rw [fX6_endAt] at hf
  refine lv_aload_n hx hb dX6_endAt_0 rfl (lv_at hl 0 rfl) ?_
  refine lv_iload_n hx hb dX6_endAt_1 rfl (lv_at hl 1 rfl) ?_
  refine xb hf (fun v1 hv hf => ?_)
  refine xc_V1 (rest := []) ⟨hx, hb, hml, hown, hts⟩ (mX6_isNo hv) (cwV 1 hts gX6_endAt_X6_isNo rfl rfl rfl hqX6_isNo ⟨Nat.le_of_ble_eq_true rfl, Nat.le_of_ble_eq_true rfl⟩) X (va_recv X.1 X.2.1 (ci := 4) (q0 := 0) rfl wlR_0) rfl hl.1 rfl (Nat.le_of_ble_eq_true rfl) dX6_endAt_2 ⟨Nat.zero_le _, Nat.zero_le _⟩ (fun H locs X => ?_)
  refine xr_if_ne (tgt := 39) hx hb dX6_endAt_5 rfl hf (fun hf => ?_) (fun hf => ?_)
  · refine lv_iconst (v := (0 : Int32)) hx hb dX6_endAt_39 rfl ?_
    cases hf
    exact xe_i hx hb hr hlocks X dX6_endAt_40
  · refine lv_aload_n hx hb dX6_endAt_8 rfl (lv_at hl 0 rfl) ?_
    refine lv_iload_n hx hb dX6_endAt_9 rfl (lv_at hl 2 rfl) ?_
    refine lv_i2l (v := (x2.toInt64)) hx hb dX6_endAt_10 rfl ?_
    refine lv_lconst (v := (0 : Int64)) hx hb dX6_endAt_11 rfl ?_
    refine lv_aload_n hx hb dX6_endAt_12 rfl (lv_at hl 0 rfl) ?_
    refine xg_f hx hb hts hown X h6 0 wlR_0 rfl 2 (by decide) (by decide +kernel) (v := .ref (bd 2)) rfl dX6_endAt_13 ?_
    refine lv_iload_n hx hb dX6_endAt_16 rfl (lv_at hl 1 rfl) ?_
    refine xa_iald hx hb X 2 wlR_2 dX6_endAt_17 hf (fun v2 hf => ?_)
    refine lv_iconst (v := (1 : Int32)) hx hb dX6_endAt_18 rfl ?_
    refine lv_isub hx hb dX6_endAt_19 ?_
    refine lv_i2l (v := ((v2 - (1 : Int32)).toInt64)) hx hb dX6_endAt_20 rfl ?_
    refine xb hf (fun v3 hv hf => ?_)
    refine xc_S1 (rest := [.ref (bd 0)]) ⟨hx, hb, hml, hown, hts⟩ (mX6_isIn hv) (va_cwS 3 hts gX6_endAt_X6_isIn rfl rfl rfl hqX6_isIn ⟨Nat.le_of_ble_eq_true rfl, Nat.le_of_ble_eq_true rfl⟩) X rfl hl.1 rfl (Nat.le_of_ble_eq_true rfl) dX6_endAt_21 ⟨Nat.zero_le _, Nat.zero_le _⟩ (fun H locs X => ?_)
    refine xr_if_ne (tgt := 31) hx hb dX6_endAt_24 rfl hf (fun hf => ?_) (fun hf => ?_)
    · refine lv_iconst (v := (0 : Int32)) hx hb dX6_endAt_31 rfl ?_
      exact w32 x1 x2 (0 : Int32) v1.2 hf _ _ _ X (lv_sub hl [0, 1, 2] rfl)
    · refine lv_iconst (v := (1 : Int32)) hx hb dX6_endAt_27 rfl ?_
      refine lv_goto (tgt := 32) hx hb dX6_endAt_28 rfl ?_
      exact w32 x1 x2 (1 : Int32) v1.2 hf _ _ _ X (lv_sub hl [0, 1, 2] rfl)
set_option maxRecDepth 100000 in
set_option maxHeartbeats 4000000 in
theorem mX6_rankOf {l : Launch} {dd : va_G} {cy : Nat → ClassId} {bd : Nat → Nat} {A : Nat → Prop} {fu : Nat} {th : Int32} {ce : Nat → Int32} {sz : Nat → Int32} {wy : Nat → Int64} {op : Nat → Int32} {x1 : Int32} {x2 : Int32} {rv : Int32} {tho : Int32} (hf : fX6_rankOf fu th ce sz x1 x2 = some (rv, tho)) : Met l yX6_rankOf wsX6_rankOf { frames := 3, cells := 0, slots := 0, locals := 74 } (va_Pc [.ref (bd 0), .int x1, .int x2] (IW dd cy A (wlR bd cy th ce sz wy op))) (QX dd cy A (some (.int rv)) (wlR bd cy tho ce sz wy op)) 0 0 A := by
  refine Met.ofW (cc := cX6_rankOf) (maxL := 3) (ret := some .int) (by decide) rfl ?_
  intro p e s m args below meth c s₁ B hml hv
  obtain ⟨hav, hI⟩ := hv
  have hx := B.exec
  have hb := B.bytes
  have hr := B.returns
  have hts := atoms_spec (ws := wsX6_rankOf) B.pre
  have hown : s.vm.findClass RX6 = some m.cls := findClass_of_methodNamed B.named
  have hlocks := B.notSynchronized
  have X := XW.of hI
  refine xe_in hav (Nat.le_of_ble_eq_true rfl) rfl (fun ls hl => ?_)
  rw [fX6_rankOf] at hf
  refine lv_aload_n hx hb dX6_rankOf_0 rfl (lv_at hl 0 rfl) ?_
  refine lv_iload_n hx hb dX6_rankOf_1 rfl (lv_at hl 1 rfl) ?_
  refine lv_iload_n hx hb dX6_rankOf_2 rfl (lv_at hl 2 rfl) ?_
  refine xb hf (fun v1 hv hf => ?_)
  refine xc_V1 (rest := []) ⟨hx, hb, hml, hown, hts⟩ (mX6_isNoPlace hv) (cwV 2 hts gX6_rankOf_X6_isNoPlace rfl rfl rfl hqX6_isNoPlace ⟨Nat.le_of_ble_eq_true rfl, Nat.le_of_ble_eq_true rfl⟩) X (va_recv X.1 X.2.1 (ci := 4) (q0 := 0) rfl wlR_0) rfl hl.1 rfl (Nat.le_of_ble_eq_true rfl) dX6_rankOf_3 ⟨Nat.zero_le _, Nat.zero_le _⟩ (fun H locs X => ?_)
  refine xr_if_eq (tgt := 13) hx hb dX6_rankOf_6 rfl hf (fun hf => ?_) (fun hf => ?_)
  · refine lv_aload_n hx hb dX6_rankOf_13 rfl (lv_at hl 0 rfl) ?_
    refine lv_iload_n hx hb dX6_rankOf_14 rfl (lv_at hl 1 rfl) ?_
    refine lv_iload_n hx hb dX6_rankOf_15 rfl (lv_at hl 2 rfl) ?_
    refine xb hf (fun v2 hv hf => ?_)
    refine xc_V1 (rest := []) ⟨hx, hb, hml, hown, hts⟩ (mX6_rank hv) (cwV 2 hts gX6_rankOf_X6_rank rfl rfl rfl hqX6_rank ⟨Nat.le_of_ble_eq_true rfl, Nat.le_of_ble_eq_true rfl⟩) X (va_recv X.1 X.2.1 (ci := 4) (q0 := 0) rfl wlR_0) rfl hl.1 rfl (Nat.le_of_ble_eq_true rfl) dX6_rankOf_16 ⟨Nat.zero_le _, Nat.zero_le _⟩ (fun H locs X => ?_)
    cases hf
    exact xe_i hx hb hr hlocks X dX6_rankOf_19
  · refine lv_iconst (v := (0 : Int32)) hx hb dX6_rankOf_9 rfl ?_
    refine lv_goto (tgt := 19) hx hb dX6_rankOf_10 rfl ?_
    cases hf
    exact xe_i hx hb hr hlocks X dX6_rankOf_19
set_option maxRecDepth 100000 in
set_option maxHeartbeats 4000000 in
theorem mX6_isNewAt {l : Launch} {dd : va_G} {cy : Nat → ClassId} {bd : Nat → Nat} {A : Nat → Prop} {fu : Nat} {th : Int32} {ce : Nat → Int32} {sz : Nat → Int32} {wy : Nat → Int64} {op : Nat → Int32} {x1 : Int32} {x2 : Int32} {x3 : Int32} {rv : Int32} (hf : fX6_isNewAt fu ce sz x1 x2 x3 = some rv) : Met l yX6_isNewAt wsX6_isNewAt { frames := 1, cells := 0, slots := 0, locals := 27 } (va_Pc [.ref (bd 0), .int x1, .int x2, .int x3] (IW dd cy A (wlR bd cy th ce sz wy op))) (QX dd cy A (some (.int rv)) (wlR bd cy th ce sz wy op)) 0 0 A := by
  refine Met.ofW (cc := cX6_isNewAt) (maxL := 6) (ret := some .boolean) (by decide) rfl ?_
  intro p e s m args below meth c s₁ B hml hv
  obtain ⟨hav, hI⟩ := hv
  have hx := B.exec
  have hb := B.bytes
  have hr := B.returns
  have hts := atoms_spec (ws := wsX6_isNewAt) B.pre
  have hown : s.vm.findClass RX6 = some m.cls := findClass_of_methodNamed B.named
  have hlocks := B.notSynchronized
  have X := XW.of hI
  have h6 : ∀ w ∈ wsX60, w ∈ wsX6_isNewAt := by decide +kernel
  refine xe_in hav (Nat.le_of_ble_eq_true rfl) rfl (fun ls hl => ?_)
  have w6 : ∀ (y1 : Int32) (y2 : Int32) (y3 : Int32) (n : Nat) (y4 : Int32) (y5 : Int32), fX6_isNewAt_6 fu ce sz y1 y2 y3 n y4 y5 = some rv → ∀ (H : Heap) (locs : List Loc) (ls : Array Slot), XW dd cy A s (wlR bd cy th ce sz wy op) H locs → lv_has ls 6 [(0, .ref (bd 0)), (1, .int y1), (2, .int y2), (3, .int y3), (4, .int y4), (5, .int y5)] → W p l e (headSpec wsX6_isNewAt { frames := 1, cells := 0, slots := 0, locals := 27 }).room s m args below meth c H locs 0 0 (MQ below (QX dd cy A (some (.int rv)) (wlR bd cy th ce sz wy op)) args s 0 0 A) (F0 m 6 ls []) := by
    intro y1 y2 y3 n
    induction n with
    | zero => intro y4 y5 hf; exact absurd hf (by simp [fX6_isNewAt_6])
    | succ n ih =>
      intro y4 y5 hf H locs ls X hl
      rw [fX6_isNewAt_6] at hf
      refine lv_iload hx hb dX6_isNewAt_6 (lv_at hl 5 rfl) ?_
      refine lv_iload_n hx hb dX6_isNewAt_8 rfl (lv_at hl 2 rfl) ?_
      refine xr_icmp_ge (tgt := 56) hx hb dX6_isNewAt_9 rfl hf (fun hf => ?_) (fun hf => ?_)
      · refine lv_iload hx hb dX6_isNewAt_56 (lv_at hl 4 rfl) ?_
        refine xb hf (fun z9 hz hf => ?_)
        obtain ⟨hn, rfl⟩ := ckZ_some hz
        cases hf
        exact xe_z hx hb hr hlocks X hn dX6_isNewAt_58
      · refine lv_iload hx hb dX6_isNewAt_12 (lv_at hl 4 rfl) ?_
        refine xr_if_eq (tgt := 56) hx hb dX6_isNewAt_14 rfl hf (fun hf => ?_) (fun hf => ?_)
        · refine lv_iload hx hb dX6_isNewAt_56 (lv_at hl 4 rfl) ?_
          refine xb hf (fun z9 hz hf => ?_)
          obtain ⟨hn, rfl⟩ := ckZ_some hz
          cases hf
          exact xe_z hx hb hr hlocks X hn dX6_isNewAt_58
        · refine lv_aload_n hx hb dX6_isNewAt_17 rfl (lv_at hl 0 rfl) ?_
          refine lv_iload_n hx hb dX6_isNewAt_18 rfl (lv_at hl 1 rfl) ?_
          refine xb hf (fun v1 hv hf => ?_)
          refine xc_S1 (rest := [.ref (bd 0)]) ⟨hx, hb, hml, hown, hts⟩ (mX6_baseOf hv) (va_cwS 1 hts gX6_isNewAt_X6_baseOf rfl rfl rfl hqX6_baseOf ⟨Nat.le_of_ble_eq_true rfl, Nat.le_of_ble_eq_true rfl⟩) X rfl hl.1 rfl (Nat.le_of_ble_eq_true rfl) dX6_isNewAt_19 ⟨Nat.zero_le _, Nat.zero_le _⟩ (fun H locs X => ?_)
          refine lv_aload_n hx hb dX6_isNewAt_22 rfl (lv_at hl 0 rfl) ?_
          refine xg_f hx hb hts hown X h6 0 wlR_0 rfl 2 (by decide) (by decide +kernel) (v := .ref (bd 2)) rfl dX6_isNewAt_23 ?_
          refine lv_iload_n hx hb dX6_isNewAt_26 rfl (lv_at hl 1 rfl) ?_
          refine xa_iald hx hb X 2 wlR_2 dX6_isNewAt_27 hf (fun v2 hf => ?_)
          refine lv_iload_n hx hb dX6_isNewAt_28 rfl (lv_at hl 1 rfl) ?_
          refine xb hf (fun v3 hv hf => ?_)
          refine xc_S1 (rest := [.int v2, .int v1, .ref (bd 0)]) ⟨hx, hb, hml, hown, hts⟩ (mX6_baseOf hv) (va_cwS 1 hts gX6_isNewAt_X6_baseOf rfl rfl rfl hqX6_baseOf ⟨Nat.le_of_ble_eq_true rfl, Nat.le_of_ble_eq_true rfl⟩) X rfl hl.1 rfl (Nat.le_of_ble_eq_true rfl) dX6_isNewAt_29 ⟨Nat.zero_le _, Nat.zero_le _⟩ (fun H locs X => ?_)
          refine lv_iload_n hx hb dX6_isNewAt_32 rfl (lv_at hl 2 rfl) ?_
          refine lv_iadd hx hb dX6_isNewAt_33 ?_
          refine lv_iload_n hx hb dX6_isNewAt_34 rfl (lv_at hl 3 rfl) ?_
          refine lv_iload hx hb dX6_isNewAt_35 (lv_at hl 5 rfl) ?_
          refine xb hf (fun v4 hv hf => ?_)
          refine xc_V1 (rest := []) ⟨hx, hb, hml, hown, hts⟩ (mX6_standsAt hv) (cwV 5 hts gX6_isNewAt_X6_standsAt rfl rfl rfl hqX6_standsAt ⟨Nat.le_of_ble_eq_true rfl, Nat.le_of_ble_eq_true rfl⟩) X (va_recv X.1 X.2.1 (ci := 4) (q0 := 0) rfl wlR_0) rfl hl.1 rfl (Nat.le_of_ble_eq_true rfl) dX6_isNewAt_37 ⟨Nat.zero_le _, Nat.zero_le _⟩ (fun H locs X => ?_)
          refine xr_if_ne (tgt := 47) hx hb dX6_isNewAt_40 rfl hf (fun hf => ?_) (fun hf => ?_)
          · refine lv_iconst (v := (0 : Int32)) hx hb dX6_isNewAt_47 rfl ?_
            refine lv_istore (lv' := [(4, .int (0 : Int32)), (0, .ref (bd 0)), (1, .int y1), (2, .int y2), (3, .int y3), (5, .int y5)]) hx hb dX6_isNewAt_48 hl (by decide) rfl (fun ls hl => ?_)
            refine lv_iinc (v := (y5 + 1)) (lv' := [(5, .int (y5 + 1)), (4, .int (0 : Int32)), (0, .ref (bd 0)), (1, .int y1), (2, .int y2), (3, .int y3)]) hx hb dX6_isNewAt_50 hl (k := 5) rfl ii_1 (by decide) rfl (fun ls hl => ?_)
            refine lv_goto (tgt := 6) hx hb dX6_isNewAt_53 rfl ?_
            exact ih (0 : Int32) (y5 + 1) hf _ _ _ X (lv_sub hl [2, 3, 4, 5, 1, 0] rfl)
          · refine lv_iconst (v := (1 : Int32)) hx hb dX6_isNewAt_43 rfl ?_
            refine lv_goto (tgt := 48) hx hb dX6_isNewAt_44 rfl ?_
            refine lv_istore (lv' := [(4, .int (1 : Int32)), (0, .ref (bd 0)), (1, .int y1), (2, .int y2), (3, .int y3), (5, .int y5)]) hx hb dX6_isNewAt_48 hl (by decide) rfl (fun ls hl => ?_)
            refine lv_iinc (v := (y5 + 1)) (lv' := [(5, .int (y5 + 1)), (4, .int (1 : Int32)), (0, .ref (bd 0)), (1, .int y1), (2, .int y2), (3, .int y3)]) hx hb dX6_isNewAt_50 hl (k := 5) rfl ii_1 (by decide) rfl (fun ls hl => ?_)
            refine lv_goto (tgt := 6) hx hb dX6_isNewAt_53 rfl ?_
            exact ih (1 : Int32) (y5 + 1) hf _ _ _ X (lv_sub hl [2, 3, 4, 5, 1, 0] rfl)
  rw [fX6_isNewAt] at hf
  refine lv_iconst (v := (1 : Int32)) hx hb dX6_isNewAt_0 rfl ?_
  refine lv_istore (lv' := [(4, .int (1 : Int32)), (0, .ref (bd 0)), (1, .int x1), (2, .int x2), (3, .int x3)]) hx hb dX6_isNewAt_1 hl (by decide) rfl (fun ls hl => ?_)
  refine lv_iconst (v := (0 : Int32)) hx hb dX6_isNewAt_3 rfl ?_
  refine lv_istore (lv' := [(5, .int (0 : Int32)), (4, .int (1 : Int32)), (0, .ref (bd 0)), (1, .int x1), (2, .int x2), (3, .int x3)]) hx hb dX6_isNewAt_4 hl (by decide) rfl (fun ls hl => ?_)
  exact w6 x1 x2 x3 fu (1 : Int32) (0 : Int32) hf _ _ _ X (lv_sub hl [2, 3, 4, 5, 1, 0] rfl)
set_option maxRecDepth 100000 in
set_option maxHeartbeats 4000000 in
theorem mX6_isMirror {l : Launch} {dd : va_G} {cy : Nat → ClassId} {bd : Nat → Nat} {A : Nat → Prop} {fu : Nat} {th : Int32} {ce : Nat → Int32} {sz : Nat → Int32} {wy : Nat → Int64} {op : Nat → Int32} {x1 : Int32} {x2 : Int32} {rv : Int32} (hf : fX6_isMirror fu ce x1 x2 = some rv) : Met l yX6_isMirror wsX6_isMirror { frames := 0, cells := 0, slots := 0, locals := 0 } (va_Pc [.ref (bd 0), .int x1, .int x2] (IW dd cy A (wlR bd cy th ce sz wy op))) (QX dd cy A (some (.int rv)) (wlR bd cy th ce sz wy op)) 0 0 A := by
  refine Met.ofW (cc := cX6_isMirror) (maxL := 5) (ret := some .boolean) (by decide) rfl ?_
  intro p e s m args below meth c s₁ B hml hv
  obtain ⟨hav, hI⟩ := hv
  have hx := B.exec
  have hb := B.bytes
  have hr := B.returns
  have hts := atoms_spec (ws := wsX6_isMirror) B.pre
  have hown : s.vm.findClass RX6 = some m.cls := findClass_of_methodNamed B.named
  have hlocks := B.notSynchronized
  have X := XW.of hI
  have h6 : ∀ w ∈ wsX60, w ∈ wsX6_isMirror := by decide +kernel
  refine xe_in hav (Nat.le_of_ble_eq_true rfl) rfl (fun ls hl => ?_)
  have w5 : ∀ (y1 : Int32) (y2 : Int32) (n : Nat) (y3 : Int32) (y4 : Int32), fX6_isMirror_5 fu ce y1 y2 n y3 y4 = some rv → ∀ (H : Heap) (locs : List Loc) (ls : Array Slot), XW dd cy A s (wlR bd cy th ce sz wy op) H locs → lv_has ls 5 [(0, .ref (bd 0)), (1, .int y1), (2, .int y2), (3, .int y3), (4, .int y4)] → W p l e (headSpec wsX6_isMirror { frames := 0, cells := 0, slots := 0, locals := 0 }).room s m args below meth c H locs 0 0 (MQ below (QX dd cy A (some (.int rv)) (wlR bd cy th ce sz wy op)) args s 0 0 A) (F0 m 5 ls []) := by
    intro y1 y2 n
    induction n with
    | zero => intro y3 y4 hf; exact absurd hf (by simp [fX6_isMirror_5])
    | succ n ih =>
      intro y3 y4 hf H locs ls X hl
      rw [fX6_isMirror_5] at hf
      refine lv_iload hx hb dX6_isMirror_5 (lv_at hl 4 rfl) ?_
      refine lv_iload_n hx hb dX6_isMirror_7 rfl (lv_at hl 2 rfl) ?_
      refine xr_icmp_ge (tgt := 52) hx hb dX6_isMirror_8 rfl hf (fun hf => ?_) (fun hf => ?_)
      · refine lv_iload_n hx hb dX6_isMirror_52 rfl (lv_at hl 3 rfl) ?_
        refine xb hf (fun z9 hz hf => ?_)
        obtain ⟨hn, rfl⟩ := ckZ_some hz
        cases hf
        exact xe_z hx hb hr hlocks X hn dX6_isMirror_53
      · refine lv_iload_n hx hb dX6_isMirror_11 rfl (lv_at hl 3 rfl) ?_
        refine xr_if_eq (tgt := 52) hx hb dX6_isMirror_12 rfl hf (fun hf => ?_) (fun hf => ?_)
        · refine lv_iload_n hx hb dX6_isMirror_52 rfl (lv_at hl 3 rfl) ?_
          refine xb hf (fun z9 hz hf => ?_)
          obtain ⟨hn, rfl⟩ := ckZ_some hz
          cases hf
          exact xe_z hx hb hr hlocks X hn dX6_isMirror_53
        · refine lv_aload_n hx hb dX6_isMirror_15 rfl (lv_at hl 0 rfl) ?_
          refine xg_f hx hb hts hown X h6 0 wlR_0 rfl 1 (by decide) (by decide +kernel) (v := .ref (bd 1)) rfl dX6_isMirror_16 ?_
          refine lv_iload_n hx hb dX6_isMirror_19 rfl (lv_at hl 1 rfl) ?_
          refine lv_iload hx hb dX6_isMirror_20 (lv_at hl 4 rfl) ?_
          refine lv_iadd hx hb dX6_isMirror_22 ?_
          refine xa_iald hx hb X 1 wlR_1 dX6_isMirror_23 hf (fun v1 hf => ?_)
          refine lv_aload_n hx hb dX6_isMirror_24 rfl (lv_at hl 0 rfl) ?_
          refine xg_f hx hb hts hown X h6 0 wlR_0 rfl 1 (by decide) (by decide +kernel) (v := .ref (bd 1)) rfl dX6_isMirror_25 ?_
          refine lv_iload_n hx hb dX6_isMirror_28 rfl (lv_at hl 1 rfl) ?_
          refine lv_iload_n hx hb dX6_isMirror_29 rfl (lv_at hl 2 rfl) ?_
          refine lv_iadd hx hb dX6_isMirror_30 ?_
          refine lv_iconst (v := (1 : Int32)) hx hb dX6_isMirror_31 rfl ?_
          refine lv_isub hx hb dX6_isMirror_32 ?_
          refine lv_iload hx hb dX6_isMirror_33 (lv_at hl 4 rfl) ?_
          refine lv_isub hx hb dX6_isMirror_35 ?_
          refine xa_iald hx hb X 1 wlR_1 dX6_isMirror_36 hf (fun v2 hf => ?_)
          refine xr_icmp_ne (tgt := 44) hx hb dX6_isMirror_37 rfl hf (fun hf => ?_) (fun hf => ?_)
          · refine lv_iconst (v := (0 : Int32)) hx hb dX6_isMirror_44 rfl ?_
            refine lv_istore_n (lv' := [(3, .int (0 : Int32)), (0, .ref (bd 0)), (1, .int y1), (2, .int y2), (4, .int y4)]) hx hb dX6_isMirror_45 rfl hl (by decide) rfl (fun ls hl => ?_)
            refine lv_iinc (v := (y4 + 1)) (lv' := [(4, .int (y4 + 1)), (3, .int (0 : Int32)), (0, .ref (bd 0)), (1, .int y1), (2, .int y2)]) hx hb dX6_isMirror_46 hl (k := 4) rfl ii_1 (by decide) rfl (fun ls hl => ?_)
            refine lv_goto (tgt := 5) hx hb dX6_isMirror_49 rfl ?_
            exact ih (0 : Int32) (y4 + 1) hf _ _ _ X (lv_sub hl [2, 3, 4, 1, 0] rfl)
          · refine lv_iconst (v := (1 : Int32)) hx hb dX6_isMirror_40 rfl ?_
            refine lv_goto (tgt := 45) hx hb dX6_isMirror_41 rfl ?_
            refine lv_istore_n (lv' := [(3, .int (1 : Int32)), (0, .ref (bd 0)), (1, .int y1), (2, .int y2), (4, .int y4)]) hx hb dX6_isMirror_45 rfl hl (by decide) rfl (fun ls hl => ?_)
            refine lv_iinc (v := (y4 + 1)) (lv' := [(4, .int (y4 + 1)), (3, .int (1 : Int32)), (0, .ref (bd 0)), (1, .int y1), (2, .int y2)]) hx hb dX6_isMirror_46 hl (k := 4) rfl ii_1 (by decide) rfl (fun ls hl => ?_)
            refine lv_goto (tgt := 5) hx hb dX6_isMirror_49 rfl ?_
            exact ih (1 : Int32) (y4 + 1) hf _ _ _ X (lv_sub hl [2, 3, 4, 1, 0] rfl)
  rw [fX6_isMirror] at hf
  refine lv_iconst (v := (1 : Int32)) hx hb dX6_isMirror_0 rfl ?_
  refine lv_istore_n (lv' := [(3, .int (1 : Int32)), (0, .ref (bd 0)), (1, .int x1), (2, .int x2)]) hx hb dX6_isMirror_1 rfl hl (by decide) rfl (fun ls hl => ?_)
  refine lv_iconst (v := (0 : Int32)) hx hb dX6_isMirror_2 rfl ?_
  refine lv_istore (lv' := [(4, .int (0 : Int32)), (3, .int (1 : Int32)), (0, .ref (bd 0)), (1, .int x1), (2, .int x2)]) hx hb dX6_isMirror_3 hl (by decide) rfl (fun ls hl => ?_)
  exact w5 x1 x2 fu (1 : Int32) (0 : Int32) hf _ _ _ X (lv_sub hl [2, 3, 4, 1, 0] rfl)
set_option maxRecDepth 100000 in
set_option maxHeartbeats 4000000 in
theorem mX6_unlike {l : Launch} {dd : va_G} {cy : Nat → ClassId} {bd : Nat → Nat} {A : Nat → Prop} {fu : Nat} {th : Int32} {ce : Nat → Int32} {sz : Nat → Int32} {wy : Nat → Int64} {op : Nat → Int32} {x1 : Int32} {x2 : Int32} {rv : Int32} (hf : fX6_unlike fu ce sz x1 x2 = some rv) : Met l yX6_unlike wsX6_unlike { frames := 2, cells := 0, slots := 0, locals := 52 } (va_Pc [.ref (bd 0), .int x1, .int x2] (IW dd cy A (wlR bd cy th ce sz wy op))) (QX dd cy A (some (.int rv)) (wlR bd cy th ce sz wy op)) 0 0 A := by
  refine Met.ofW (cc := cX6_unlike) (maxL := 7) (ret := some .int) (by decide) rfl ?_
  intro p e s m args below meth c s₁ B hml hv
  obtain ⟨hav, hI⟩ := hv
  have hx := B.exec
  have hb := B.bytes
  have hr := B.returns
  have hts := atoms_spec (ws := wsX6_unlike) B.pre
  have hown : s.vm.findClass RX6 = some m.cls := findClass_of_methodNamed B.named
  have hlocks := B.notSynchronized
  have X := XW.of hI
  have h6 : ∀ w ∈ wsX60, w ∈ wsX6_unlike := by decide +kernel
  refine xe_in hav (Nat.le_of_ble_eq_true rfl) rfl (fun ls hl => ?_)
  have w58 : ∀ (y1 : Int32) (y2 : Int32) (y3 : Int32) (y4 : Int32) (y5 : Int32) (k19 : Int32 → Int32 → Option (Int32)) (hk19 : ∀ (zy3 : Int32) (zy5 : Int32), k19 zy3 zy5 = some rv → ∀ (H : Heap) (locs : List Loc) (ls : Array Slot), XW dd cy A s (wlR bd cy th ce sz wy op) H locs → lv_has ls 7 [(0, .ref (bd 0)), (1, .int y1), (2, .int y2), (3, .int zy3), (4, .int y4), (5, .int zy5)] → W p l e (headSpec wsX6_unlike { frames := 2, cells := 0, slots := 0, locals := 52 }).room s m args below meth c H locs 0 0 (MQ below (QX dd cy A (some (.int rv)) (wlR bd cy th ce sz wy op)) args s 0 0 A) (F0 m 19 ls [])) (s0 : Int32), fX6_unlike_58 fu ce sz y1 y2 y3 y4 y5 k19 s0 = some rv → ∀ (H : Heap) (locs : List Loc) (ls : Array Slot), XW dd cy A s (wlR bd cy th ce sz wy op) H locs → lv_has ls 7 [(0, .ref (bd 0)), (1, .int y1), (2, .int y2), (3, .int y3), (4, .int y4), (5, .int y5)] → W p l e (headSpec wsX6_unlike { frames := 2, cells := 0, slots := 0, locals := 52 }).room s m args below meth c H locs 0 0 (MQ below (QX dd cy A (some (.int rv)) (wlR bd cy th ce sz wy op)) args s 0 0 A) (F0 m 58 ls [.int s0]) := by
    intro y1 y2 y3 y4 y5 k19 hk19 s0 hf H locs ls X hl
    rw [fX6_unlike_58] at hf
    refine lv_istore (lv' := [(6, .int s0), (0, .ref (bd 0)), (1, .int y1), (2, .int y2), (3, .int y3), (4, .int y4), (5, .int y5)]) hx hb dX6_unlike_58 hl (by decide) rfl (fun ls hl => ?_)
    refine lv_iload_n hx hb dX6_unlike_60 rfl (lv_at hl 4 rfl) ?_
    refine lv_iload hx hb dX6_unlike_61 (lv_at hl 0 rfl) ?_
    refine xr_if_eq (tgt := 82) hx hb dX6_unlike_63 rfl hf (fun hf => ?_) (fun hf => ?_)
    · refine lv_iconst (v := (0 : Int32)) hx hb dX6_unlike_82 rfl ?_
      refine lv_iadd hx hb dX6_unlike_83 ?_
      refine lv_istore_n (lv' := [(3, .int (y3 + (0 : Int32))), (6, .int s0), (0, .ref (bd 0)), (1, .int y1), (2, .int y2), (4, .int y4), (5, .int y5)]) hx hb dX6_unlike_84 rfl hl (by decide) rfl (fun ls hl => ?_)
      refine lv_iinc (v := (y5 + 1)) (lv' := [(5, .int (y5 + 1)), (3, .int (y3 + (0 : Int32))), (6, .int s0), (0, .ref (bd 0)), (1, .int y1), (2, .int y2), (4, .int y4)]) hx hb dX6_unlike_85 hl (k := 6) rfl ii_1 (by decide) rfl (fun ls hl => ?_)
      refine lv_goto (tgt := 19) hx hb dX6_unlike_88 rfl ?_
      exact hk19 (y3 + (0 : Int32)) (y5 + 1) hf _ _ _ X (lv_sub hl [3, 4, 5, 1, 6, 0] rfl)
    · refine lv_aload_n hx hb dX6_unlike_66 rfl (lv_at hl 1 rfl) ?_
      refine lv_iload_n hx hb dX6_unlike_67 rfl (lv_at hl 2 rfl) ?_
      refine lv_iload hx hb dX6_unlike_68 (lv_at hl 5 rfl) ?_
      refine lv_iload hx hb dX6_unlike_70 (lv_at hl 6 rfl) ?_
      refine xb hf (fun v3 hv hf => ?_)
      refine xc_V1 (rest := [.int y3]) ⟨hx, hb, hml, hown, hts⟩ (mX6_isNewAt hv) (cwV 3 hts gX6_unlike_X6_isNewAt rfl rfl rfl hqX6_isNewAt ⟨Nat.le_of_ble_eq_true rfl, Nat.le_of_ble_eq_true rfl⟩) X (va_recv X.1 X.2.1 (ci := 4) (q0 := 0) rfl wlR_0) rfl hl.1 rfl (Nat.le_of_ble_eq_true rfl) dX6_unlike_72 ⟨Nat.zero_le _, Nat.zero_le _⟩ (fun H locs X => ?_)
      refine xr_if_eq (tgt := 82) hx hb dX6_unlike_75 rfl hf (fun hf => ?_) (fun hf => ?_)
      · refine lv_iconst (v := (0 : Int32)) hx hb dX6_unlike_82 rfl ?_
        refine lv_iadd hx hb dX6_unlike_83 ?_
        refine lv_istore_n (lv' := [(3, .int (y3 + (0 : Int32))), (6, .int s0), (0, .ref (bd 0)), (1, .int y1), (2, .int y2), (4, .int y4), (5, .int y5)]) hx hb dX6_unlike_84 rfl hl (by decide) rfl (fun ls hl => ?_)
        refine lv_iinc (v := (y5 + 1)) (lv' := [(5, .int (y5 + 1)), (3, .int (y3 + (0 : Int32))), (6, .int s0), (0, .ref (bd 0)), (1, .int y1), (2, .int y2), (4, .int y4)]) hx hb dX6_unlike_85 hl (k := 6) rfl ii_1 (by decide) rfl (fun ls hl => ?_)
        refine lv_goto (tgt := 19) hx hb dX6_unlike_88 rfl ?_
        exact hk19 (y3 + (0 : Int32)) (y5 + 1) hf _ _ _ X (lv_sub hl [3, 4, 5, 1, 6, 0] rfl)
      · refine lv_iconst (v := (1 : Int32)) hx hb dX6_unlike_78 rfl ?_
        refine lv_goto (tgt := 83) hx hb dX6_unlike_79 rfl ?_
        refine lv_iadd hx hb dX6_unlike_83 ?_
        refine lv_istore_n (lv' := [(3, .int (y3 + (1 : Int32))), (6, .int s0), (0, .ref (bd 0)), (1, .int y1), (2, .int y2), (4, .int y4), (5, .int y5)]) hx hb dX6_unlike_84 rfl hl (by decide) rfl (fun ls hl => ?_)
        refine lv_iinc (v := (y5 + 1)) (lv' := [(5, .int (y5 + 1)), (3, .int (y3 + (1 : Int32))), (6, .int s0), (0, .ref (bd 0)), (1, .int y1), (2, .int y2), (4, .int y4)]) hx hb dX6_unlike_85 hl (k := 6) rfl ii_1 (by decide) rfl (fun ls hl => ?_)
        refine lv_goto (tgt := 19) hx hb dX6_unlike_88 rfl ?_
        exact hk19 (y3 + (1 : Int32)) (y5 + 1) hf _ _ _ X (lv_sub hl [3, 4, 5, 1, 6, 0] rfl)
  have w53 : ∀ (y1 : Int32) (y2 : Int32) (y3 : Int32) (y4 : Int32) (y5 : Int32) (k19 : Int32 → Int32 → Option (Int32)) (hk19 : ∀ (zy3 : Int32) (zy5 : Int32), k19 zy3 zy5 = some rv → ∀ (H : Heap) (locs : List Loc) (ls : Array Slot), XW dd cy A s (wlR bd cy th ce sz wy op) H locs → lv_has ls 7 [(0, .ref (bd 0)), (1, .int y1), (2, .int y2), (3, .int zy3), (4, .int y4), (5, .int zy5)] → W p l e (headSpec wsX6_unlike { frames := 2, cells := 0, slots := 0, locals := 52 }).room s m args below meth c H locs 0 0 (MQ below (QX dd cy A (some (.int rv)) (wlR bd cy th ce sz wy op)) args s 0 0 A) (F0 m 19 ls [])), fX6_unlike_53 fu ce sz y1 y2 y3 y4 y5 k19 = some rv → ∀ (H : Heap) (locs : List Loc) (ls : Array Slot), XW dd cy A s (wlR bd cy th ce sz wy op) H locs → lv_has ls 7 [(0, .ref (bd 0)), (1, .int y1), (2, .int y2), (3, .int y3), (4, .int y4), (5, .int y5)] → W p l e (headSpec wsX6_unlike { frames := 2, cells := 0, slots := 0, locals := 52 }).room s m args below meth c H locs 0 0 (MQ below (QX dd cy A (some (.int rv)) (wlR bd cy th ce sz wy op)) args s 0 0 A) (F0 m 53 ls []) := by
    intro y1 y2 y3 y4 y5 k19 hk19 hf H locs ls X hl
    rw [fX6_unlike_53] at hf
    refine lv_iconst (v := (1 : Int32)) hx hb dX6_unlike_53 rfl ?_
    refine lv_goto (tgt := 58) hx hb dX6_unlike_54 rfl ?_
    exact w58 y1 y2 y3 y4 y5 _ hk19 (1 : Int32) hf _ _ _ X (lv_sub hl [0, 1, 2, 3, 4, 5] rfl)
  have w19 : ∀ (y1 : Int32) (y2 : Int32) (y4 : Int32) (k5 : Int32 → Int32 → Option (Int32)) (hk5 : ∀ (zy3 : Int32) (zy4 : Int32), k5 zy3 zy4 = some rv → ∀ (H : Heap) (locs : List Loc) (ls : Array Slot), XW dd cy A s (wlR bd cy th ce sz wy op) H locs → lv_has ls 7 [(0, .ref (bd 0)), (1, .int y1), (2, .int y2), (3, .int zy3), (4, .int zy4)] → W p l e (headSpec wsX6_unlike { frames := 2, cells := 0, slots := 0, locals := 52 }).room s m args below meth c H locs 0 0 (MQ below (QX dd cy A (some (.int rv)) (wlR bd cy th ce sz wy op)) args s 0 0 A) (F0 m 5 ls [])) (n : Nat) (y3 : Int32) (y5 : Int32), fX6_unlike_19 fu ce sz y1 y2 y4 k5 n y3 y5 = some rv → ∀ (H : Heap) (locs : List Loc) (ls : Array Slot), XW dd cy A s (wlR bd cy th ce sz wy op) H locs → lv_has ls 7 [(0, .ref (bd 0)), (1, .int y1), (2, .int y2), (3, .int y3), (4, .int y4), (5, .int y5)] → W p l e (headSpec wsX6_unlike { frames := 2, cells := 0, slots := 0, locals := 52 }).room s m args below meth c H locs 0 0 (MQ below (QX dd cy A (some (.int rv)) (wlR bd cy th ce sz wy op)) args s 0 0 A) (F0 m 19 ls []) := by
    intro y1 y2 y4 k5 hk5 n
    induction n with
    | zero => intro y3 y5 hf; exact absurd hf (by simp [fX6_unlike_19])
    | succ n ih =>
      intro y3 y5 hf H locs ls X hl
      rw [fX6_unlike_19] at hf
      refine lv_iload hx hb dX6_unlike_19 (lv_at hl 4 rfl) ?_
      refine lv_iload hx hb dX6_unlike_21 (lv_at hl 5 rfl) ?_
      refine lv_iadd hx hb dX6_unlike_23 ?_
      refine lv_aload_n hx hb dX6_unlike_24 rfl (lv_at hl 0 rfl) ?_
      refine xg_f hx hb hts hown X h6 0 wlR_0 rfl 2 (by decide) (by decide +kernel) (v := .ref (bd 2)) rfl dX6_unlike_25 ?_
      refine lv_iload_n hx hb dX6_unlike_28 rfl (lv_at hl 1 rfl) ?_
      refine xa_iald hx hb X 2 wlR_2 dX6_unlike_29 hf (fun v2 hf => ?_)
      refine xr_icmp_gt (tgt := 91) hx hb dX6_unlike_30 rfl hf (fun hf => ?_) (fun hf => ?_)
      · refine lv_iinc (v := (y4 + 1)) (lv' := [(4, .int (y4 + 1)), (0, .ref (bd 0)), (1, .int y1), (2, .int y2), (3, .int y3), (5, .int y5)]) hx hb dX6_unlike_91 hl (k := 4) rfl ii_1 (by decide) rfl (fun ls hl => ?_)
        refine lv_goto (tgt := 5) hx hb dX6_unlike_94 rfl ?_
        exact hk5 y3 (y4 + 1) hf _ _ _ X (lv_sub hl [1, 2, 3, 4, 0] rfl)
      · refine lv_iload_n hx hb dX6_unlike_33 rfl (lv_at hl 2 rfl) ?_
        refine xr_if_eq (tgt := 53) hx hb dX6_unlike_34 rfl hf (fun hf => ?_) (fun hf => ?_)
        · exact w53 y1 y2 y3 y4 y5 _ ih hf _ _ _ X (lv_sub hl [0, 1, 2, 3, 4, 5] rfl)
        · refine lv_aload_n hx hb dX6_unlike_37 rfl (lv_at hl 0 rfl) ?_
          refine lv_iload_n hx hb dX6_unlike_38 rfl (lv_at hl 1 rfl) ?_
          refine xb hf (fun v4 hv hf => ?_)
          refine xc_S1 (rest := [.ref (bd 0)]) ⟨hx, hb, hml, hown, hts⟩ (mX6_baseOf hv) (va_cwS 1 hts gX6_unlike_X6_baseOf rfl rfl rfl hqX6_baseOf ⟨Nat.le_of_ble_eq_true rfl, Nat.le_of_ble_eq_true rfl⟩) X rfl hl.1 rfl (Nat.le_of_ble_eq_true rfl) dX6_unlike_39 ⟨Nat.zero_le _, Nat.zero_le _⟩ (fun H locs X => ?_)
          refine lv_iload hx hb dX6_unlike_42 (lv_at hl 4 rfl) ?_
          refine lv_iadd hx hb dX6_unlike_44 ?_
          refine lv_iload hx hb dX6_unlike_45 (lv_at hl 5 rfl) ?_
          refine xb hf (fun v5 hv hf => ?_)
          refine xc_V1 (rest := []) ⟨hx, hb, hml, hown, hts⟩ (mX6_isMirror hv) (cwV 2 hts gX6_unlike_X6_isMirror rfl rfl rfl hqX6_isMirror ⟨Nat.le_of_ble_eq_true rfl, Nat.le_of_ble_eq_true rfl⟩) X (va_recv X.1 X.2.1 (ci := 4) (q0 := 0) rfl wlR_0) rfl hl.1 rfl (Nat.le_of_ble_eq_true rfl) dX6_unlike_47 ⟨Nat.zero_le _, Nat.zero_le _⟩ (fun H locs X => ?_)
          refine xr_if_eq (tgt := 57) hx hb dX6_unlike_50 rfl hf (fun hf => ?_) (fun hf => ?_)
          · refine lv_iconst (v := (0 : Int32)) hx hb dX6_unlike_57 rfl ?_
            exact w58 y1 y2 y3 y4 y5 _ ih (0 : Int32) hf _ _ _ X (lv_sub hl [0, 1, 2, 3, 4, 5] rfl)
          · exact w53 y1 y2 y3 y4 y5 _ ih hf _ _ _ X (lv_sub hl [0, 1, 2, 3, 4, 5] rfl)
  have w5 : ∀ (y1 : Int32) (y2 : Int32) (n : Nat) (y3 : Int32) (y4 : Int32), fX6_unlike_5 fu ce sz y1 y2 n y3 y4 = some rv → ∀ (H : Heap) (locs : List Loc) (ls : Array Slot), XW dd cy A s (wlR bd cy th ce sz wy op) H locs → lv_has ls 7 [(0, .ref (bd 0)), (1, .int y1), (2, .int y2), (3, .int y3), (4, .int y4)] → W p l e (headSpec wsX6_unlike { frames := 2, cells := 0, slots := 0, locals := 52 }).room s m args below meth c H locs 0 0 (MQ below (QX dd cy A (some (.int rv)) (wlR bd cy th ce sz wy op)) args s 0 0 A) (F0 m 5 ls []) := by
    intro y1 y2 n
    induction n with
    | zero => intro y3 y4 hf; exact absurd hf (by simp [fX6_unlike_5])
    | succ n ih =>
      intro y3 y4 hf H locs ls X hl
      rw [fX6_unlike_5] at hf
      refine lv_iload hx hb dX6_unlike_5 (lv_at hl 4 rfl) ?_
      refine lv_aload_n hx hb dX6_unlike_7 rfl (lv_at hl 0 rfl) ?_
      refine xg_f hx hb hts hown X h6 0 wlR_0 rfl 2 (by decide) (by decide +kernel) (v := .ref (bd 2)) rfl dX6_unlike_8 ?_
      refine lv_iload_n hx hb dX6_unlike_11 rfl (lv_at hl 1 rfl) ?_
      refine xa_iald hx hb X 2 wlR_2 dX6_unlike_12 hf (fun v1 hf => ?_)
      refine xr_icmp_ge (tgt := 97) hx hb dX6_unlike_13 rfl hf (fun hf => ?_) (fun hf => ?_)
      · refine lv_iload_n hx hb dX6_unlike_97 rfl (lv_at hl 3 rfl) ?_
        cases hf
        exact xe_i hx hb hr hlocks X dX6_unlike_98
      · refine lv_iconst (v := (1 : Int32)) hx hb dX6_unlike_16 rfl ?_
        refine lv_istore (lv' := [(5, .int (1 : Int32)), (0, .ref (bd 0)), (1, .int y1), (2, .int y2), (3, .int y3), (4, .int y4)]) hx hb dX6_unlike_17 hl (by decide) rfl (fun ls hl => ?_)
        exact w19 y1 y2 y4 _ ih fu y3 (1 : Int32) hf _ _ _ X (lv_sub hl [1, 2, 3, 4, 5, 0] rfl)
  rw [fX6_unlike] at hf
  refine lv_iconst (v := (0 : Int32)) hx hb dX6_unlike_0 rfl ?_
  refine lv_istore_n (lv' := [(3, .int (0 : Int32)), (0, .ref (bd 0)), (1, .int x1), (2, .int x2)]) hx hb dX6_unlike_1 rfl hl (by decide) rfl (fun ls hl => ?_)
  refine lv_iconst (v := (0 : Int32)) hx hb dX6_unlike_2 rfl ?_
  refine lv_istore (lv' := [(4, .int (0 : Int32)), (3, .int (0 : Int32)), (0, .ref (bd 0)), (1, .int x1), (2, .int x2)]) hx hb dX6_unlike_3 hl (by decide) rfl (fun ls hl => ?_)
  exact w5 x1 x2 fu (0 : Int32) (0 : Int32) hf _ _ _ X (lv_sub hl [2, 3, 4, 1, 0] rfl)
set_option maxRecDepth 100000 in
set_option maxHeartbeats 4000000 in
theorem mX6_unlikeParts {l : Launch} {dd : va_G} {cy : Nat → ClassId} {bd : Nat → Nat} {A : Nat → Prop} {fu : Nat} {th : Int32} {ce : Nat → Int32} {sz : Nat → Int32} {wy : Nat → Int64} {op : Nat → Int32} {x1 : Int32} {rv : Int32} {tho : Int32} (hf : fX6_unlikeParts fu th ce sz x1 = some (rv, tho)) : Met l yX6_unlikeParts wsX6_unlikeParts { frames := 3, cells := 0, slots := 0, locals := 78 } (va_Pc [.ref (bd 0), .int x1] (IW dd cy A (wlR bd cy th ce sz wy op))) (QX dd cy A (some (.int rv)) (wlR bd cy tho ce sz wy op)) 0 0 A := by
  refine Met.ofW (cc := cX6_unlikeParts) (maxL := 2) (ret := some .int) (by decide) rfl ?_
  intro p e s m args below meth c s₁ B hml hv
  obtain ⟨hav, hI⟩ := hv
  have hx := B.exec
  have hb := B.bytes
  have hr := B.returns
  have hts := atoms_spec (ws := wsX6_unlikeParts) B.pre
  have hown : s.vm.findClass RX6 = some m.cls := findClass_of_methodNamed B.named
  have hlocks := B.notSynchronized
  have X := XW.of hI
  refine xe_in hav (Nat.le_of_ble_eq_true rfl) rfl (fun ls hl => ?_)
  rw [fX6_unlikeParts] at hf
  refine lv_aload_n hx hb dX6_unlikeParts_0 rfl (lv_at hl 0 rfl) ?_
  refine lv_iload_n hx hb dX6_unlikeParts_1 rfl (lv_at hl 1 rfl) ?_
  refine xb hf (fun v1 hv hf => ?_)
  refine xc_V1 (rest := []) ⟨hx, hb, hml, hown, hts⟩ (mX6_isNo hv) (cwV 1 hts gX6_unlikeParts_X6_isNo rfl rfl rfl hqX6_isNo ⟨Nat.le_of_ble_eq_true rfl, Nat.le_of_ble_eq_true rfl⟩) X (va_recv X.1 X.2.1 (ci := 4) (q0 := 0) rfl wlR_0) rfl hl.1 rfl (Nat.le_of_ble_eq_true rfl) dX6_unlikeParts_2 ⟨Nat.zero_le _, Nat.zero_le _⟩ (fun H locs X => ?_)
  refine xr_if_eq (tgt := 12) hx hb dX6_unlikeParts_5 rfl hf (fun hf => ?_) (fun hf => ?_)
  · refine lv_aload_n hx hb dX6_unlikeParts_12 rfl (lv_at hl 0 rfl) ?_
    refine lv_iload_n hx hb dX6_unlikeParts_13 rfl (lv_at hl 1 rfl) ?_
    refine lv_iconst (v := (0 : Int32)) hx hb dX6_unlikeParts_14 rfl ?_
    refine xb hf (fun v2 hv hf => ?_)
    refine xc_V1 (rest := []) ⟨hx, hb, hml, hown, hts⟩ (mX6_unlike hv) (cwV 2 hts gX6_unlikeParts_X6_unlike rfl rfl rfl hqX6_unlike ⟨Nat.le_of_ble_eq_true rfl, Nat.le_of_ble_eq_true rfl⟩) X (va_recv X.1 X.2.1 (ci := 4) (q0 := 0) rfl wlR_0) rfl hl.1 rfl (Nat.le_of_ble_eq_true rfl) dX6_unlikeParts_15 ⟨Nat.zero_le _, Nat.zero_le _⟩ (fun H locs X => ?_)
    cases hf
    exact xe_i hx hb hr hlocks X dX6_unlikeParts_18
  · refine lv_iconst (v := (0 : Int32)) hx hb dX6_unlikeParts_8 rfl ?_
    refine lv_goto (tgt := 18) hx hb dX6_unlikeParts_9 rfl ?_
    cases hf
    exact xe_i hx hb hr hlocks X dX6_unlikeParts_18
set_option maxRecDepth 100000 in
set_option maxHeartbeats 4000000 in
theorem mX6_mirrors {l : Launch} {dd : va_G} {cy : Nat → ClassId} {bd : Nat → Nat} {A : Nat → Prop} {fu : Nat} {th : Int32} {ce : Nat → Int32} {sz : Nat → Int32} {wy : Nat → Int64} {op : Nat → Int32} {x1 : Int32} {rv : Int32} {tho : Int32} (hf : fX6_mirrors fu th ce sz x1 = some (rv, tho)) : Met l yX6_mirrors wsX6_mirrors { frames := 3, cells := 0, slots := 0, locals := 78 } (va_Pc [.ref (bd 0), .int x1] (IW dd cy A (wlR bd cy th ce sz wy op))) (QX dd cy A (some (.int rv)) (wlR bd cy tho ce sz wy op)) 0 0 A := by
  refine Met.ofW (cc := cX6_mirrors) (maxL := 2) (ret := some .int) (by decide) rfl ?_
  intro p e s m args below meth c s₁ B hml hv
  obtain ⟨hav, hI⟩ := hv
  have hx := B.exec
  have hb := B.bytes
  have hr := B.returns
  have hts := atoms_spec (ws := wsX6_mirrors) B.pre
  have hown : s.vm.findClass RX6 = some m.cls := findClass_of_methodNamed B.named
  have hlocks := B.notSynchronized
  have X := XW.of hI
  refine xe_in hav (Nat.le_of_ble_eq_true rfl) rfl (fun ls hl => ?_)
  rw [fX6_mirrors] at hf
  refine lv_aload_n hx hb dX6_mirrors_0 rfl (lv_at hl 0 rfl) ?_
  refine lv_iload_n hx hb dX6_mirrors_1 rfl (lv_at hl 1 rfl) ?_
  refine xb hf (fun v1 hv hf => ?_)
  refine xc_V1 (rest := []) ⟨hx, hb, hml, hown, hts⟩ (mX6_isNo hv) (cwV 1 hts gX6_mirrors_X6_isNo rfl rfl rfl hqX6_isNo ⟨Nat.le_of_ble_eq_true rfl, Nat.le_of_ble_eq_true rfl⟩) X (va_recv X.1 X.2.1 (ci := 4) (q0 := 0) rfl wlR_0) rfl hl.1 rfl (Nat.le_of_ble_eq_true rfl) dX6_mirrors_2 ⟨Nat.zero_le _, Nat.zero_le _⟩ (fun H locs X => ?_)
  refine xr_if_eq (tgt := 12) hx hb dX6_mirrors_5 rfl hf (fun hf => ?_) (fun hf => ?_)
  · refine lv_aload_n hx hb dX6_mirrors_12 rfl (lv_at hl 0 rfl) ?_
    refine lv_iload_n hx hb dX6_mirrors_13 rfl (lv_at hl 1 rfl) ?_
    refine lv_iconst (v := (1 : Int32)) hx hb dX6_mirrors_14 rfl ?_
    refine xb hf (fun v2 hv hf => ?_)
    refine xc_V1 (rest := []) ⟨hx, hb, hml, hown, hts⟩ (mX6_unlike hv) (cwV 2 hts gX6_mirrors_X6_unlike rfl rfl rfl hqX6_unlike ⟨Nat.le_of_ble_eq_true rfl, Nat.le_of_ble_eq_true rfl⟩) X (va_recv X.1 X.2.1 (ci := 4) (q0 := 0) rfl wlR_0) rfl hl.1 rfl (Nat.le_of_ble_eq_true rfl) dX6_mirrors_15 ⟨Nat.zero_le _, Nat.zero_le _⟩ (fun H locs X => ?_)
    cases hf
    exact xe_i hx hb hr hlocks X dX6_mirrors_18
  · refine lv_iconst (v := (0 : Int32)) hx hb dX6_mirrors_8 rfl ?_
    refine lv_goto (tgt := 18) hx hb dX6_mirrors_9 rfl ?_
    cases hf
    exact xe_i hx hb hr hlocks X dX6_mirrors_18
set_option maxRecDepth 100000 in
set_option maxHeartbeats 4000000 in
theorem mX6_twice {l : Launch} {dd : va_G} {cy : Nat → ClassId} {bd : Nat → Nat} {A : Nat → Prop} {fu : Nat} {th : Int32} {ce : Nat → Int32} {sz : Nat → Int32} {wy : Nat → Int64} {op : Nat → Int32} {x1 : Int32} {x2 : Int32} {rv : Int32} {tho : Int32} {ceo : Nat → Int32} {szo : Nat → Int32} (hf : fX6_twice fu th ce sz x1 x2 = some (rv, tho, ceo, szo)) : Met l yX6_twice wsX6_twice { frames := 3, cells := 0, slots := 0, locals := 68 } (va_Pc [.ref (bd 0), .int x1, .int x2] (IW dd cy A (wlR bd cy th ce sz wy op))) (QX dd cy A (some (.int rv)) (wlR bd cy tho ceo szo wy op)) 0 0 A := by
  refine Met.ofW (cc := cX6_twice) (maxL := 8) (ret := some .int) (by decide) rfl ?_
  intro p e s m args below meth c s₁ B hml hv
  obtain ⟨hav, hI⟩ := hv
  have hx := B.exec
  have hb := B.bytes
  have hr := B.returns
  have hts := atoms_spec (ws := wsX6_twice) B.pre
  have hown : s.vm.findClass RX6 = some m.cls := findClass_of_methodNamed B.named
  have hlocks := B.notSynchronized
  have X := XW.of hI
  have h6 : ∀ w ∈ wsX60, w ∈ wsX6_twice := by decide +kernel
  refine xe_in hav (Nat.le_of_ble_eq_true rfl) rfl (fun ls hl => ?_)
  have w160 : ∀ (y3 : Int32) (y4 : Int32) (s0 : Int32) (s1 : Int32) (s2 : Int32) (th : Int32) (ce : Nat → Int32) (sz : Nat → Int32), fX6_twice_160 fu y3 y4 s0 s1 s2 th ce sz = some (rv, tho, ceo, szo) → ∀ (H : Heap) (locs : List Loc) (ls : Array Slot), XW dd cy A s (wlR bd cy th ce sz wy op) H locs → lv_has ls 8 [(3, .int y3), (4, .int y4)] → W p l e (headSpec wsX6_twice { frames := 3, cells := 0, slots := 0, locals := 68 }).room s m args below meth c H locs 0 0 (MQ below (QX dd cy A (some (.int rv)) (wlR bd cy tho ceo szo wy op)) args s 0 0 A) (F0 m 160 ls [.int s0, .int s1, .int s2, .ref (bd 0)]) := by
    intro y3 y4 s0 s1 s2 th ce sz hf H locs ls X hl
    rw [fX6_twice_160] at hf
    refine lv_iadd hx hb dX6_twice_160 ?_
    refine lv_iload_n hx hb dX6_twice_161 rfl (lv_at hl 0 rfl) ?_
    refine lv_iconst (v := (-1 : Int32)) hx hb dX6_twice_162 rfl ?_
    refine xr_icmp_ne (tgt := 170) hx hb dX6_twice_163 rfl hf (fun hf => ?_) (fun hf => ?_)
    · refine lv_iload hx hb dX6_twice_170 (lv_at hl 1 rfl) ?_
      refine xb hf (fun v4 hv hf => ?_)
      refine xc_V1 (rest := []) ⟨hx, hb, hml, hown, hts⟩ (mX6_become hv) (cwV 3 hts gX6_twice_X6_become rfl rfl rfl hqX6_become ⟨Nat.le_of_ble_eq_true rfl, Nat.le_of_ble_eq_true rfl⟩) X (va_recv X.1 X.2.1 (ci := 4) (q0 := 0) rfl wlR_0) rfl hl.1 rfl (Nat.le_of_ble_eq_true rfl) dX6_twice_172 ⟨Nat.zero_le _, Nat.zero_le _⟩ (fun H locs X => ?_)
      cases hf
      exact xe_i hx hb hr hlocks X dX6_twice_175
    · refine lv_iconst (v := (0 : Int32)) hx hb dX6_twice_166 rfl ?_
      refine lv_goto (tgt := 172) hx hb dX6_twice_167 rfl ?_
      refine xb hf (fun v5 hv hf => ?_)
      refine xc_V1 (rest := []) ⟨hx, hb, hml, hown, hts⟩ (mX6_become hv) (cwV 3 hts gX6_twice_X6_become rfl rfl rfl hqX6_become ⟨Nat.le_of_ble_eq_true rfl, Nat.le_of_ble_eq_true rfl⟩) X (va_recv X.1 X.2.1 (ci := 4) (q0 := 0) rfl wlR_0) rfl hl.1 rfl (Nat.le_of_ble_eq_true rfl) dX6_twice_172 ⟨Nat.zero_le _, Nat.zero_le _⟩ (fun H locs X => ?_)
      cases hf
      exact xe_i hx hb hr hlocks X dX6_twice_175
  have w144 : ∀ (y1 : Int32) (y2 : Int32) (y3 : Int32) (y4 : Int32) (th : Int32) (ce : Nat → Int32) (sz : Nat → Int32), fX6_twice_144 fu y1 y2 y3 y4 th ce sz = some (rv, tho, ceo, szo) → ∀ (H : Heap) (locs : List Loc) (ls : Array Slot), XW dd cy A s (wlR bd cy th ce sz wy op) H locs → lv_has ls 8 [(0, .ref (bd 0)), (1, .int y1), (2, .int y2), (3, .int y3), (4, .int y4)] → W p l e (headSpec wsX6_twice { frames := 3, cells := 0, slots := 0, locals := 68 }).room s m args below meth c H locs 0 0 (MQ below (QX dd cy A (some (.int rv)) (wlR bd cy tho ceo szo wy op)) args s 0 0 A) (F0 m 144 ls []) := by
    intro y1 y2 y3 y4 th ce sz hf H locs ls X hl
    rw [fX6_twice_144] at hf
    refine lv_aload_n hx hb dX6_twice_144 rfl (lv_at hl 0 rfl) ?_
    refine lv_iload_n hx hb dX6_twice_145 rfl (lv_at hl 1 rfl) ?_
    refine lv_iload_n hx hb dX6_twice_146 rfl (lv_at hl 2 rfl) ?_
    refine xb hf (fun v3 hv hf => ?_)
    refine xc_S1 (rest := [.int y1, .ref (bd 0)]) ⟨hx, hb, hml, hown, hts⟩ (mX6_baseOf hv) (va_cwS 1 hts gX6_twice_X6_baseOf rfl rfl rfl hqX6_baseOf ⟨Nat.le_of_ble_eq_true rfl, Nat.le_of_ble_eq_true rfl⟩) X rfl hl.1 rfl (Nat.le_of_ble_eq_true rfl) dX6_twice_147 ⟨Nat.zero_le _, Nat.zero_le _⟩ (fun H locs X => ?_)
    refine lv_iload_n hx hb dX6_twice_150 rfl (lv_at hl 3 rfl) ?_
    refine lv_iconst (v := (-1 : Int32)) hx hb dX6_twice_151 rfl ?_
    refine xr_icmp_ne (tgt := 159) hx hb dX6_twice_152 rfl hf (fun hf => ?_) (fun hf => ?_)
    · refine lv_iload_n hx hb dX6_twice_159 rfl (lv_at hl 3 rfl) ?_
      exact w160 y3 y4 y3 v3 y1 th ce sz hf _ _ _ X (lv_sub hl [3, 4] rfl)
    · refine lv_iconst (v := (0 : Int32)) hx hb dX6_twice_155 rfl ?_
      refine lv_goto (tgt := 160) hx hb dX6_twice_156 rfl ?_
      exact w160 y3 y4 (0 : Int32) v3 y1 th ce sz hf _ _ _ X (lv_sub hl [3, 4] rfl)
  have w116 : ∀ (y1 : Int32) (y2 : Int32) (y3 : Int32) (y4 : Int32) (y5 : Int32) (y6 : Int32) (k37 : Int32 → Int32 → Int32 → (Nat → Int32) → (Nat → Int32) → Option (Int32 × Int32 × (Nat → Int32) × (Nat → Int32))) (hk37 : ∀ (zy3 : Int32) (zy5 : Int32) (zth : Int32) (zce : Nat → Int32) (zsz : Nat → Int32), k37 zy3 zy5 zth zce zsz = some (rv, tho, ceo, szo) → ∀ (H : Heap) (locs : List Loc) (ls : Array Slot), XW dd cy A s (wlR bd cy zth zce zsz wy op) H locs → lv_has ls 8 [(0, .ref (bd 0)), (1, .int y1), (2, .int y2), (3, .int zy3), (4, .int y4), (5, .int zy5)] → W p l e (headSpec wsX6_twice { frames := 3, cells := 0, slots := 0, locals := 68 }).room s m args below meth c H locs 0 0 (MQ below (QX dd cy A (some (.int rv)) (wlR bd cy tho ceo szo wy op)) args s 0 0 A) (F0 m 37 ls [])) (s0 : Int32) (th : Int32) (ce : Nat → Int32) (sz : Nat → Int32), fX6_twice_116 fu y1 y2 y3 y4 y5 y6 k37 s0 th ce sz = some (rv, tho, ceo, szo) → ∀ (H : Heap) (locs : List Loc) (ls : Array Slot), XW dd cy A s (wlR bd cy th ce sz wy op) H locs → lv_has ls 8 [(0, .ref (bd 0)), (1, .int y1), (2, .int y2), (3, .int y3), (4, .int y4), (5, .int y5), (6, .int y6)] → W p l e (headSpec wsX6_twice { frames := 3, cells := 0, slots := 0, locals := 68 }).room s m args below meth c H locs 0 0 (MQ below (QX dd cy A (some (.int rv)) (wlR bd cy tho ceo szo wy op)) args s 0 0 A) (F0 m 116 ls [.int s0]) := by
    intro y1 y2 y3 y4 y5 y6 k37 hk37 s0 th ce sz hf H locs ls X hl
    rw [fX6_twice_116] at hf
    refine lv_istore (lv' := [(7, .int s0), (0, .ref (bd 0)), (1, .int y1), (2, .int y2), (3, .int y3), (4, .int y4), (5, .int y5), (6, .int y6)]) hx hb dX6_twice_116 hl (by decide) rfl (fun ls hl => ?_)
    refine lv_iload hx hb dX6_twice_118 (lv_at hl 7 rfl) ?_
    refine xr_if_eq (tgt := 133) hx hb dX6_twice_120 rfl hf (fun hf => ?_) (fun hf => ?_)
    · refine lv_iload_n hx hb dX6_twice_133 rfl (lv_at hl 4 rfl) ?_
      refine lv_istore_n (lv' := [(3, .int y3), (7, .int s0), (0, .ref (bd 0)), (1, .int y1), (2, .int y2), (4, .int y4), (5, .int y5), (6, .int y6)]) hx hb dX6_twice_134 rfl hl (by decide) rfl (fun ls hl => ?_)
      refine lv_iinc (v := (y5 + 1)) (lv' := [(5, .int (y5 + 1)), (3, .int y3), (7, .int s0), (0, .ref (bd 0)), (1, .int y1), (2, .int y2), (4, .int y4), (6, .int y6)]) hx hb dX6_twice_135 hl (k := 6) rfl ii_1 (by decide) rfl (fun ls hl => ?_)
      refine lv_goto (tgt := 37) hx hb dX6_twice_138 rfl ?_
      exact hk37 y3 (y5 + 1) th ce sz hf _ _ _ X (lv_sub hl [3, 4, 5, 1, 6, 0] rfl)
    · refine lv_iload hx hb dX6_twice_123 (lv_at hl 0 rfl) ?_
      refine xr_if_eq (tgt := 133) hx hb dX6_twice_125 rfl hf (fun hf => ?_) (fun hf => ?_)
      · refine lv_iload_n hx hb dX6_twice_133 rfl (lv_at hl 4 rfl) ?_
        refine lv_istore_n (lv' := [(3, .int y3), (7, .int s0), (0, .ref (bd 0)), (1, .int y1), (2, .int y2), (4, .int y4), (5, .int y5), (6, .int y6)]) hx hb dX6_twice_134 rfl hl (by decide) rfl (fun ls hl => ?_)
        refine lv_iinc (v := (y5 + 1)) (lv' := [(5, .int (y5 + 1)), (3, .int y3), (7, .int s0), (0, .ref (bd 0)), (1, .int y1), (2, .int y2), (4, .int y4), (6, .int y6)]) hx hb dX6_twice_135 hl (k := 6) rfl ii_1 (by decide) rfl (fun ls hl => ?_)
        refine lv_goto (tgt := 37) hx hb dX6_twice_138 rfl ?_
        exact hk37 y3 (y5 + 1) th ce sz hf _ _ _ X (lv_sub hl [3, 4, 5, 1, 6, 0] rfl)
      · refine lv_iload hx hb dX6_twice_128 (lv_at hl 6 rfl) ?_
        refine lv_goto (tgt := 134) hx hb dX6_twice_130 rfl ?_
        refine lv_istore_n (lv' := [(3, .int y5), (7, .int s0), (0, .ref (bd 0)), (1, .int y1), (2, .int y2), (4, .int y4), (5, .int y5), (6, .int y6)]) hx hb dX6_twice_134 rfl hl (by decide) rfl (fun ls hl => ?_)
        refine lv_iinc (v := (y5 + 1)) (lv' := [(5, .int (y5 + 1)), (3, .int y5), (7, .int s0), (0, .ref (bd 0)), (1, .int y1), (2, .int y2), (4, .int y4), (6, .int y6)]) hx hb dX6_twice_135 hl (k := 6) rfl ii_1 (by decide) rfl (fun ls hl => ?_)
        refine lv_goto (tgt := 37) hx hb dX6_twice_138 rfl ?_
        exact hk37 y5 (y5 + 1) th ce sz hf _ _ _ X (lv_sub hl [3, 4, 5, 1, 6, 0] rfl)
  have w111 : ∀ (y1 : Int32) (y2 : Int32) (y3 : Int32) (y4 : Int32) (y5 : Int32) (y6 : Int32) (k37 : Int32 → Int32 → Int32 → (Nat → Int32) → (Nat → Int32) → Option (Int32 × Int32 × (Nat → Int32) × (Nat → Int32))) (hk37 : ∀ (zy3 : Int32) (zy5 : Int32) (zth : Int32) (zce : Nat → Int32) (zsz : Nat → Int32), k37 zy3 zy5 zth zce zsz = some (rv, tho, ceo, szo) → ∀ (H : Heap) (locs : List Loc) (ls : Array Slot), XW dd cy A s (wlR bd cy zth zce zsz wy op) H locs → lv_has ls 8 [(0, .ref (bd 0)), (1, .int y1), (2, .int y2), (3, .int zy3), (4, .int y4), (5, .int zy5)] → W p l e (headSpec wsX6_twice { frames := 3, cells := 0, slots := 0, locals := 68 }).room s m args below meth c H locs 0 0 (MQ below (QX dd cy A (some (.int rv)) (wlR bd cy tho ceo szo wy op)) args s 0 0 A) (F0 m 37 ls [])) (th : Int32) (ce : Nat → Int32) (sz : Nat → Int32), fX6_twice_111 fu y1 y2 y3 y4 y5 y6 k37 th ce sz = some (rv, tho, ceo, szo) → ∀ (H : Heap) (locs : List Loc) (ls : Array Slot), XW dd cy A s (wlR bd cy th ce sz wy op) H locs → lv_has ls 8 [(0, .ref (bd 0)), (1, .int y1), (2, .int y2), (3, .int y3), (4, .int y4), (5, .int y5), (6, .int y6)] → W p l e (headSpec wsX6_twice { frames := 3, cells := 0, slots := 0, locals := 68 }).room s m args below meth c H locs 0 0 (MQ below (QX dd cy A (some (.int rv)) (wlR bd cy tho ceo szo wy op)) args s 0 0 A) (F0 m 111 ls []) := by
    intro y1 y2 y3 y4 y5 y6 k37 hk37 th ce sz hf H locs ls X hl
    rw [fX6_twice_111] at hf
    refine lv_iconst (v := (1 : Int32)) hx hb dX6_twice_111 rfl ?_
    refine lv_goto (tgt := 116) hx hb dX6_twice_112 rfl ?_
    exact w116 y1 y2 y3 y4 y5 y6 _ hk37 (1 : Int32) th ce sz hf _ _ _ X (lv_sub hl [0, 1, 2, 3, 4, 5, 6] rfl)
  have w80 : ∀ (y1 : Int32) (y2 : Int32) (y3 : Int32) (y4 : Int32) (y5 : Int32) (k37 : Int32 → Int32 → Int32 → (Nat → Int32) → (Nat → Int32) → Option (Int32 × Int32 × (Nat → Int32) × (Nat → Int32))) (hk37 : ∀ (zy3 : Int32) (zy5 : Int32) (zth : Int32) (zce : Nat → Int32) (zsz : Nat → Int32), k37 zy3 zy5 zth zce zsz = some (rv, tho, ceo, szo) → ∀ (H : Heap) (locs : List Loc) (ls : Array Slot), XW dd cy A s (wlR bd cy zth zce zsz wy op) H locs → lv_has ls 8 [(0, .ref (bd 0)), (1, .int y1), (2, .int y2), (3, .int zy3), (4, .int y4), (5, .int zy5)] → W p l e (headSpec wsX6_twice { frames := 3, cells := 0, slots := 0, locals := 68 }).room s m args below meth c H locs 0 0 (MQ below (QX dd cy A (some (.int rv)) (wlR bd cy tho ceo szo wy op)) args s 0 0 A) (F0 m 37 ls [])) (s0 : Int32) (th : Int32) (ce : Nat → Int32) (sz : Nat → Int32), fX6_twice_80 fu y1 y2 y3 y4 y5 k37 s0 th ce sz = some (rv, tho, ceo, szo) → ∀ (H : Heap) (locs : List Loc) (ls : Array Slot), XW dd cy A s (wlR bd cy th ce sz wy op) H locs → lv_has ls 8 [(0, .ref (bd 0)), (1, .int y1), (2, .int y2), (3, .int y3), (4, .int y4), (5, .int y5)] → W p l e (headSpec wsX6_twice { frames := 3, cells := 0, slots := 0, locals := 68 }).room s m args below meth c H locs 0 0 (MQ below (QX dd cy A (some (.int rv)) (wlR bd cy tho ceo szo wy op)) args s 0 0 A) (F0 m 80 ls [.int s0]) := by
    intro y1 y2 y3 y4 y5 k37 hk37 s0 th ce sz hf H locs ls X hl
    rw [fX6_twice_80] at hf
    refine lv_istore (lv' := [(6, .int s0), (0, .ref (bd 0)), (1, .int y1), (2, .int y2), (3, .int y3), (4, .int y4), (5, .int y5)]) hx hb dX6_twice_80 hl (by decide) rfl (fun ls hl => ?_)
    refine lv_iload_n hx hb dX6_twice_82 rfl (lv_at hl 4 rfl) ?_
    refine lv_iconst (v := (-1 : Int32)) hx hb dX6_twice_83 rfl ?_
    refine xr_icmp_eq (tgt := 111) hx hb dX6_twice_84 rfl hf (fun hf => ?_) (fun hf => ?_)
    · exact w111 y1 y2 y3 y4 y5 s0 _ hk37 th ce sz hf _ _ _ X (lv_sub hl [1, 2, 3, 4, 5, 6, 0] rfl)
    · refine lv_aload_n hx hb dX6_twice_87 rfl (lv_at hl 1 rfl) ?_
      refine lv_iload_n hx hb dX6_twice_88 rfl (lv_at hl 3 rfl) ?_
      refine xb hf (fun v9 hv hf => ?_)
      refine xc_S1 (rest := [.ref (bd 0)]) ⟨hx, hb, hml, hown, hts⟩ (mX6_baseOf hv) (va_cwS 1 hts gX6_twice_X6_baseOf rfl rfl rfl hqX6_baseOf ⟨Nat.le_of_ble_eq_true rfl, Nat.le_of_ble_eq_true rfl⟩) X rfl hl.1 rfl (Nat.le_of_ble_eq_true rfl) dX6_twice_89 ⟨Nat.zero_le _, Nat.zero_le _⟩ (fun H locs X => ?_)
      refine lv_iload hx hb dX6_twice_92 (lv_at hl 6 rfl) ?_
      refine lv_iadd hx hb dX6_twice_94 ?_
      refine lv_iload hx hb dX6_twice_95 (lv_at hl 5 rfl) ?_
      refine lv_iload_n hx hb dX6_twice_97 rfl (lv_at hl 3 rfl) ?_
      refine xb hf (fun v10 hv hf => ?_)
      refine xc_S1 (rest := [.int y4, .int (v9 + y5), .ref (bd 0)]) ⟨hx, hb, hml, hown, hts⟩ (mX6_baseOf hv) (va_cwS 1 hts gX6_twice_X6_baseOf rfl rfl rfl hqX6_baseOf ⟨Nat.le_of_ble_eq_true rfl, Nat.le_of_ble_eq_true rfl⟩) X rfl hl.1 rfl (Nat.le_of_ble_eq_true rfl) dX6_twice_98 ⟨Nat.zero_le _, Nat.zero_le _⟩ (fun H locs X => ?_)
      refine lv_iload_n hx hb dX6_twice_101 rfl (lv_at hl 4 rfl) ?_
      refine lv_iadd hx hb dX6_twice_102 ?_
      refine lv_iload hx hb dX6_twice_103 (lv_at hl 5 rfl) ?_
      refine xb hf (fun v11 hv hf => ?_)
      refine xc_V1 (rest := []) ⟨hx, hb, hml, hown, hts⟩ (mX6_order hv) (cwV 4 hts gX6_twice_X6_order rfl rfl rfl hqX6_order ⟨Nat.le_of_ble_eq_true rfl, Nat.le_of_ble_eq_true rfl⟩) X (va_recv X.1 X.2.1 (ci := 4) (q0 := 0) rfl wlR_0) rfl hl.1 rfl (Nat.le_of_ble_eq_true rfl) dX6_twice_105 ⟨Nat.zero_le _, Nat.zero_le _⟩ (fun H locs X => ?_)
      refine xr_if_ge (tgt := 115) hx hb dX6_twice_108 rfl hf (fun hf => ?_) (fun hf => ?_)
      · refine lv_iconst (v := (0 : Int32)) hx hb dX6_twice_115 rfl ?_
        exact w116 y1 y2 y3 y4 y5 s0 _ hk37 (0 : Int32) th ce sz hf _ _ _ X (lv_sub hl [1, 2, 3, 4, 5, 6, 0] rfl)
      · exact w111 y1 y2 y3 y4 y5 s0 _ hk37 th ce sz hf _ _ _ X (lv_sub hl [1, 2, 3, 4, 5, 6, 0] rfl)
  have w37 : ∀ (y1 : Int32) (y2 : Int32) (y4 : Int32) (k21 : Int32 → Int32 → Int32 → (Nat → Int32) → (Nat → Int32) → Option (Int32 × Int32 × (Nat → Int32) × (Nat → Int32))) (hk21 : ∀ (zy3 : Int32) (zy4 : Int32) (zth : Int32) (zce : Nat → Int32) (zsz : Nat → Int32), k21 zy3 zy4 zth zce zsz = some (rv, tho, ceo, szo) → ∀ (H : Heap) (locs : List Loc) (ls : Array Slot), XW dd cy A s (wlR bd cy zth zce zsz wy op) H locs → lv_has ls 8 [(0, .ref (bd 0)), (1, .int y1), (2, .int y2), (3, .int zy3), (4, .int zy4)] → W p l e (headSpec wsX6_twice { frames := 3, cells := 0, slots := 0, locals := 68 }).room s m args below meth c H locs 0 0 (MQ below (QX dd cy A (some (.int rv)) (wlR bd cy tho ceo szo wy op)) args s 0 0 A) (F0 m 21 ls [])) (n : Nat) (y3 : Int32) (y5 : Int32) (th : Int32) (ce : Nat → Int32) (sz : Nat → Int32), fX6_twice_37 fu y1 y2 y4 k21 n y3 y5 th ce sz = some (rv, tho, ceo, szo) → ∀ (H : Heap) (locs : List Loc) (ls : Array Slot), XW dd cy A s (wlR bd cy th ce sz wy op) H locs → lv_has ls 8 [(0, .ref (bd 0)), (1, .int y1), (2, .int y2), (3, .int y3), (4, .int y4), (5, .int y5)] → W p l e (headSpec wsX6_twice { frames := 3, cells := 0, slots := 0, locals := 68 }).room s m args below meth c H locs 0 0 (MQ below (QX dd cy A (some (.int rv)) (wlR bd cy tho ceo szo wy op)) args s 0 0 A) (F0 m 37 ls []) := by
    intro y1 y2 y4 k21 hk21 n
    induction n with
    | zero => intro y3 y5 th ce sz hf; exact absurd hf (by simp [fX6_twice_37])
    | succ n ih =>
      intro y3 y5 th ce sz hf H locs ls X hl
      rw [fX6_twice_37] at hf
      refine lv_iload hx hb dX6_twice_37 (lv_at hl 4 rfl) ?_
      refine xr_if_le (tgt := 141) hx hb dX6_twice_39 rfl hf (fun hf => ?_) (fun hf => ?_)
      · refine lv_goto (tgt := 21) hx hb dX6_twice_141 rfl ?_
        exact hk21 y3 y4 th ce sz hf _ _ _ X (lv_sub hl [0, 1, 2, 3, 4] rfl)
      · refine lv_iload hx hb dX6_twice_42 (lv_at hl 5 rfl) ?_
        refine lv_iload hx hb dX6_twice_44 (lv_at hl 4 rfl) ?_
        refine lv_iadd hx hb dX6_twice_46 ?_
        refine lv_aload_n hx hb dX6_twice_47 rfl (lv_at hl 0 rfl) ?_
        refine xg_f hx hb hts hown X h6 0 wlR_0 rfl 2 (by decide) (by decide +kernel) (v := .ref (bd 2)) rfl dX6_twice_48 ?_
        refine lv_iload_n hx hb dX6_twice_51 rfl (lv_at hl 2 rfl) ?_
        refine xa_iald hx hb X 2 wlR_2 dX6_twice_52 hf (fun v6 hf => ?_)
        refine xr_icmp_gt (tgt := 141) hx hb dX6_twice_53 rfl hf (fun hf => ?_) (fun hf => ?_)
        · refine lv_goto (tgt := 21) hx hb dX6_twice_141 rfl ?_
          exact hk21 y3 y4 th ce sz hf _ _ _ X (lv_sub hl [0, 1, 2, 3, 4] rfl)
        · refine lv_aload_n hx hb dX6_twice_56 rfl (lv_at hl 0 rfl) ?_
          refine lv_iload_n hx hb dX6_twice_57 rfl (lv_at hl 2 rfl) ?_
          refine lv_iload_n hx hb dX6_twice_58 rfl (lv_at hl 2 rfl) ?_
          refine xb hf (fun v7 hv hf => ?_)
          refine xc_S1 (rest := [.int y2, .ref (bd 0)]) ⟨hx, hb, hml, hown, hts⟩ (mX6_baseOf hv) (va_cwS 1 hts gX6_twice_X6_baseOf rfl rfl rfl hqX6_baseOf ⟨Nat.le_of_ble_eq_true rfl, Nat.le_of_ble_eq_true rfl⟩) X rfl hl.1 rfl (Nat.le_of_ble_eq_true rfl) dX6_twice_59 ⟨Nat.zero_le _, Nat.zero_le _⟩ (fun H locs X => ?_)
          refine lv_iload hx hb dX6_twice_62 (lv_at hl 5 rfl) ?_
          refine lv_iadd hx hb dX6_twice_64 ?_
          refine lv_iload hx hb dX6_twice_65 (lv_at hl 4 rfl) ?_
          refine lv_iconst (v := (0 : Int32)) hx hb dX6_twice_67 rfl ?_
          refine xb hf (fun v8 hv hf => ?_)
          refine xc_V1 (rest := []) ⟨hx, hb, hml, hown, hts⟩ (mX6_counted hv) (cwV 4 hts gX6_twice_X6_counted rfl rfl rfl hqX6_counted ⟨Nat.le_of_ble_eq_true rfl, Nat.le_of_ble_eq_true rfl⟩) X (va_recv X.1 X.2.1 (ci := 4) (q0 := 0) rfl wlR_0) rfl hl.1 rfl (Nat.le_of_ble_eq_true rfl) dX6_twice_68 ⟨Nat.zero_le _, Nat.zero_le _⟩ (fun H locs X => ?_)
          refine lv_iconst (v := (1 : Int32)) hx hb dX6_twice_71 rfl ?_
          refine xr_icmp_le (tgt := 79) hx hb dX6_twice_72 rfl hf (fun hf => ?_) (fun hf => ?_)
          · refine lv_iconst (v := (0 : Int32)) hx hb dX6_twice_79 rfl ?_
            exact w80 y1 y2 y3 y4 y5 _ ih (0 : Int32) th ce sz hf _ _ _ X (lv_sub hl [0, 1, 2, 3, 4, 5] rfl)
          · refine lv_iconst (v := (1 : Int32)) hx hb dX6_twice_75 rfl ?_
            refine lv_goto (tgt := 80) hx hb dX6_twice_76 rfl ?_
            exact w80 y1 y2 y3 y4 y5 _ ih (1 : Int32) th ce sz hf _ _ _ X (lv_sub hl [0, 1, 2, 3, 4, 5] rfl)
  have w21 : ∀ (y1 : Int32) (y2 : Int32) (n : Nat) (y3 : Int32) (y4 : Int32) (th : Int32) (ce : Nat → Int32) (sz : Nat → Int32), fX6_twice_21 fu y1 y2 n y3 y4 th ce sz = some (rv, tho, ceo, szo) → ∀ (H : Heap) (locs : List Loc) (ls : Array Slot), XW dd cy A s (wlR bd cy th ce sz wy op) H locs → lv_has ls 8 [(0, .ref (bd 0)), (1, .int y1), (2, .int y2), (3, .int y3), (4, .int y4)] → W p l e (headSpec wsX6_twice { frames := 3, cells := 0, slots := 0, locals := 68 }).room s m args below meth c H locs 0 0 (MQ below (QX dd cy A (some (.int rv)) (wlR bd cy tho ceo szo wy op)) args s 0 0 A) (F0 m 21 ls []) := by
    intro y1 y2 n
    induction n with
    | zero => intro y3 y4 th ce sz hf; exact absurd hf (by simp [fX6_twice_21])
    | succ n ih =>
      intro y3 y4 th ce sz hf H locs ls X hl
      rw [fX6_twice_21] at hf
      refine lv_iload_n hx hb dX6_twice_21 rfl (lv_at hl 3 rfl) ?_
      refine lv_iconst (v := (-1 : Int32)) hx hb dX6_twice_22 rfl ?_
      refine xr_icmp_ne (tgt := 144) hx hb dX6_twice_23 rfl hf (fun hf => ?_) (fun hf => ?_)
      · exact w144 y1 y2 y3 y4 th ce sz hf _ _ _ X (lv_sub hl [0, 1, 2, 3, 4] rfl)
      · refine lv_iload hx hb dX6_twice_26 (lv_at hl 4 rfl) ?_
        refine xr_if_le (tgt := 144) hx hb dX6_twice_28 rfl hf (fun hf => ?_) (fun hf => ?_)
        · exact w144 y1 y2 y3 y4 th ce sz hf _ _ _ X (lv_sub hl [0, 1, 2, 3, 4] rfl)
        · refine lv_iinc (v := (y4 + (-1))) (lv' := [(4, .int (y4 + (-1))), (0, .ref (bd 0)), (1, .int y1), (2, .int y2), (3, .int y3)]) hx hb dX6_twice_31 hl (k := 4) rfl ii_m1 (by decide) rfl (fun ls hl => ?_)
          refine lv_iconst (v := (0 : Int32)) hx hb dX6_twice_34 rfl ?_
          refine lv_istore (lv' := [(5, .int (0 : Int32)), (4, .int (y4 + (-1))), (0, .ref (bd 0)), (1, .int y1), (2, .int y2), (3, .int y3)]) hx hb dX6_twice_35 hl (by decide) rfl (fun ls hl => ?_)
          exact w37 y1 y2 (y4 + (-1)) _ ih fu y3 (0 : Int32) th ce sz hf _ _ _ X (lv_sub hl [2, 3, 4, 5, 1, 0] rfl)
  rw [fX6_twice] at hf
  refine lv_aload_n hx hb dX6_twice_0 rfl (lv_at hl 0 rfl) ?_
  refine lv_iload_n hx hb dX6_twice_1 rfl (lv_at hl 1 rfl) ?_
  refine lv_iload_n hx hb dX6_twice_2 rfl (lv_at hl 2 rfl) ?_
  refine xb hf (fun v1 hv hf => ?_)
  refine xc_V1 (rest := []) ⟨hx, hb, hml, hown, hts⟩ (mX6_isNoOf hv) (cwV 2 hts gX6_twice_X6_isNoOf rfl rfl rfl hqX6_isNoOf ⟨Nat.le_of_ble_eq_true rfl, Nat.le_of_ble_eq_true rfl⟩) X (va_recv X.1 X.2.1 (ci := 4) (q0 := 0) rfl wlR_0) rfl hl.1 rfl (Nat.le_of_ble_eq_true rfl) dX6_twice_3 ⟨Nat.zero_le _, Nat.zero_le _⟩ (fun H locs X => ?_)
  refine xr_if_eq (tgt := 11) hx hb dX6_twice_6 rfl hf (fun hf => ?_) (fun hf => ?_)
  · refine lv_iconst (v := (-1 : Int32)) hx hb dX6_twice_11 rfl ?_
    refine lv_istore_n (lv' := [(3, .int (-1 : Int32)), (0, .ref (bd 0)), (1, .int x1), (2, .int x2)]) hx hb dX6_twice_12 rfl hl (by decide) rfl (fun ls hl => ?_)
    refine lv_aload_n hx hb dX6_twice_13 rfl (lv_at hl 1 rfl) ?_
    refine xg_f hx hb hts hown X h6 0 wlR_0 rfl 2 (by decide) (by decide +kernel) (v := .ref (bd 2)) rfl dX6_twice_14 ?_
    refine lv_iload_n hx hb dX6_twice_17 rfl (lv_at hl 3 rfl) ?_
    refine xa_iald hx hb X 2 wlR_2 dX6_twice_18 hf (fun v2 hf => ?_)
    refine lv_istore (lv' := [(4, .int v2), (3, .int (-1 : Int32)), (0, .ref (bd 0)), (1, .int x1), (2, .int x2)]) hx hb dX6_twice_19 hl (by decide) rfl (fun ls hl => ?_)
    exact w21 x1 x2 fu (-1 : Int32) v2 v1.2 ce sz hf _ _ _ X (lv_sub hl [2, 3, 4, 1, 0] rfl)
  · refine lv_iconst (v := (0 : Int32)) hx hb dX6_twice_9 rfl ?_
    cases hf
    exact xe_i hx hb hr hlocks X dX6_twice_10
set_option maxRecDepth 100000 in
set_option maxHeartbeats 4000000 in
theorem mX6_doCommute {l : Launch} {dd : va_G} {cy : Nat → ClassId} {bd : Nat → Nat} {A : Nat → Prop} {fu : Nat} {th : Int32} {ce : Nat → Int32} {sz : Nat → Int32} {wy : Nat → Int64} {op : Nat → Int32} {x1 : Int32} {x2 : Int32} {rv : Int32} {ceo : Nat → Int32} (hf : fX6_doCommute fu ce sz x1 x2 = some (rv, ceo)) : Met l yX6_doCommute wsX6_doCommute { frames := 2, cells := 0, slots := 0, locals := 51 } (va_Pc [.ref (bd 0), .int x1, .int x2] (IW dd cy A (wlR bd cy th ce sz wy op))) (QX dd cy A (some (.int rv)) (wlR bd cy th ceo sz wy op)) 0 0 A := by
  refine Met.ofW (cc := cX6_doCommute) (maxL := 3) (ret := some .boolean) (by decide) rfl ?_
  intro p e s m args below meth c s₁ B hml hv
  obtain ⟨hav, hI⟩ := hv
  have hx := B.exec
  have hb := B.bytes
  have hr := B.returns
  have hts := atoms_spec (ws := wsX6_doCommute) B.pre
  have hown : s.vm.findClass RX6 = some m.cls := findClass_of_methodNamed B.named
  have hlocks := B.notSynchronized
  have X := XW.of hI
  have h6 : ∀ w ∈ wsX60, w ∈ wsX6_doCommute := by decide +kernel
  refine xe_in hav (Nat.le_of_ble_eq_true rfl) rfl (fun ls hl => ?_)
  rw [fX6_doCommute] at hf
  refine lv_aload_n hx hb dX6_doCommute_0 rfl (lv_at hl 0 rfl) ?_
  refine lv_iload_n hx hb dX6_doCommute_1 rfl (lv_at hl 1 rfl) ?_
  refine lv_iload_n hx hb dX6_doCommute_2 rfl (lv_at hl 2 rfl) ?_
  refine lv_sipush (v := (360 : Int32)) hx hb dX6_doCommute_3 rfl ?_
  refine xb hf (fun v1 hv hf => ?_)
  refine xc_V0 (rest := []) ⟨hx, hb, hml, hown, hts⟩ (mX6_lays hv) (cwV 3 hts gX6_doCommute_X6_lays rfl rfl rfl hqX6_lays ⟨Nat.le_of_ble_eq_true rfl, Nat.le_of_ble_eq_true rfl⟩) X (va_recv X.1 X.2.1 (ci := 4) (q0 := 0) rfl wlR_0) rfl hl.1 rfl (Nat.le_of_ble_eq_true rfl) dX6_doCommute_6 ⟨Nat.zero_le _, Nat.zero_le _⟩ (fun H locs X => ?_)
  refine lv_aload_n hx hb dX6_doCommute_9 rfl (lv_at hl 0 rfl) ?_
  refine lv_iload_n hx hb dX6_doCommute_10 rfl (lv_at hl 2 rfl) ?_
  refine lv_iload_n hx hb dX6_doCommute_11 rfl (lv_at hl 1 rfl) ?_
  refine lv_sipush (v := (490 : Int32)) hx hb dX6_doCommute_12 rfl ?_
  refine xb hf (fun v2 hv hf => ?_)
  refine xc_V0 (rest := []) ⟨hx, hb, hml, hown, hts⟩ (mX6_lays hv) (cwV 3 hts gX6_doCommute_X6_lays rfl rfl rfl hqX6_lays ⟨Nat.le_of_ble_eq_true rfl, Nat.le_of_ble_eq_true rfl⟩) X (va_recv X.1 X.2.1 (ci := 4) (q0 := 0) rfl wlR_0) rfl hl.1 rfl (Nat.le_of_ble_eq_true rfl) dX6_doCommute_15 ⟨Nat.zero_le _, Nat.zero_le _⟩ (fun H locs X => ?_)
  refine lv_aload_n hx hb dX6_doCommute_18 rfl (lv_at hl 0 rfl) ?_
  refine lv_sipush (v := (360 : Int32)) hx hb dX6_doCommute_19 rfl ?_
  refine lv_aload_n hx hb dX6_doCommute_22 rfl (lv_at hl 0 rfl) ?_
  refine xg_f hx hb hts hown X h6 0 wlR_0 rfl 2 (by decide) (by decide +kernel) (v := .ref (bd 2)) rfl dX6_doCommute_23 ?_
  refine lv_iload_n hx hb dX6_doCommute_26 rfl (lv_at hl 1 rfl) ?_
  refine xa_iald hx hb X 2 wlR_2 dX6_doCommute_27 hf (fun v3 hf => ?_)
  refine lv_aload_n hx hb dX6_doCommute_28 rfl (lv_at hl 0 rfl) ?_
  refine xg_f hx hb hts hown X h6 0 wlR_0 rfl 2 (by decide) (by decide +kernel) (v := .ref (bd 2)) rfl dX6_doCommute_29 ?_
  refine lv_iload_n hx hb dX6_doCommute_32 rfl (lv_at hl 2 rfl) ?_
  refine xa_iald hx hb X 2 wlR_2 dX6_doCommute_33 hf (fun v4 hf => ?_)
  refine lv_iadd hx hb dX6_doCommute_34 ?_
  refine lv_sipush (v := (490 : Int32)) hx hb dX6_doCommute_35 rfl ?_
  refine lv_aload_n hx hb dX6_doCommute_38 rfl (lv_at hl 0 rfl) ?_
  refine xg_f hx hb hts hown X h6 0 wlR_0 rfl 2 (by decide) (by decide +kernel) (v := .ref (bd 2)) rfl dX6_doCommute_39 ?_
  refine lv_iload_n hx hb dX6_doCommute_42 rfl (lv_at hl 1 rfl) ?_
  refine xa_iald hx hb X 2 wlR_2 dX6_doCommute_43 hf (fun v5 hf => ?_)
  refine lv_aload_n hx hb dX6_doCommute_44 rfl (lv_at hl 0 rfl) ?_
  refine xg_f hx hb hts hown X h6 0 wlR_0 rfl 2 (by decide) (by decide +kernel) (v := .ref (bd 2)) rfl dX6_doCommute_45 ?_
  refine lv_iload_n hx hb dX6_doCommute_48 rfl (lv_at hl 2 rfl) ?_
  refine xa_iald hx hb X 2 wlR_2 dX6_doCommute_49 hf (fun v6 hf => ?_)
  refine lv_iadd hx hb dX6_doCommute_50 ?_
  refine xb hf (fun v7 hv hf => ?_)
  refine xc_V1 (rest := []) ⟨hx, hb, hml, hown, hts⟩ (mX6_areSame hv) (cwV 4 hts gX6_doCommute_X6_areSame rfl rfl rfl hqX6_areSame ⟨Nat.le_of_ble_eq_true rfl, Nat.le_of_ble_eq_true rfl⟩) X (va_recv X.1 X.2.1 (ci := 4) (q0 := 0) rfl wlR_0) rfl hl.1 rfl (Nat.le_of_ble_eq_true rfl) dX6_doCommute_51 ⟨Nat.zero_le _, Nat.zero_le _⟩ (fun H locs X => ?_)
  refine xb hf (fun z9 hz hf => ?_)
  obtain ⟨hn, rfl⟩ := ckZ_some hz
  cases hf
  exact xe_z hx hb hr hlocks X hn dX6_doCommute_54
set_option maxRecDepth 100000 in
set_option maxHeartbeats 4000000 in
theorem mX6_commute {l : Launch} {dd : va_G} {cy : Nat → ClassId} {bd : Nat → Nat} {A : Nat → Prop} {fu : Nat} {th : Int32} {ce : Nat → Int32} {sz : Nat → Int32} {wy : Nat → Int64} {op : Nat → Int32} {x1 : Int32} {x2 : Int32} {rv : Int32} {tho : Int32} {ceo : Nat → Int32} (hf : fX6_commute fu th ce sz x1 x2 = some (rv, tho, ceo)) : Met l yX6_commute wsX6_commute { frames := 3, cells := 0, slots := 0, locals := 73 } (va_Pc [.ref (bd 0), .int x1, .int x2] (IW dd cy A (wlR bd cy th ce sz wy op))) (QX dd cy A (some (.int rv)) (wlR bd cy tho ceo sz wy op)) 0 0 A := by
  refine Met.ofW (cc := cX6_commute) (maxL := 3) (ret := some .boolean) (by decide) rfl ?_
  intro p e s m args below meth c s₁ B hml hv
  obtain ⟨hav, hI⟩ := hv
  have hx := B.exec
  have hb := B.bytes
  have hr := B.returns
  have hts := atoms_spec (ws := wsX6_commute) B.pre
  have hown : s.vm.findClass RX6 = some m.cls := findClass_of_methodNamed B.named
  have hlocks := B.notSynchronized
  have X := XW.of hI
  refine xe_in hav (Nat.le_of_ble_eq_true rfl) rfl (fun ls hl => ?_)
  rw [fX6_commute] at hf
  refine lv_aload_n hx hb dX6_commute_0 rfl (lv_at hl 0 rfl) ?_
  refine lv_iload_n hx hb dX6_commute_1 rfl (lv_at hl 1 rfl) ?_
  refine lv_iload_n hx hb dX6_commute_2 rfl (lv_at hl 2 rfl) ?_
  refine xb hf (fun v1 hv hf => ?_)
  refine xc_V1 (rest := []) ⟨hx, hb, hml, hown, hts⟩ (mX6_isNoOf hv) (cwV 2 hts gX6_commute_X6_isNoOf rfl rfl rfl hqX6_isNoOf ⟨Nat.le_of_ble_eq_true rfl, Nat.le_of_ble_eq_true rfl⟩) X (va_recv X.1 X.2.1 (ci := 4) (q0 := 0) rfl wlR_0) rfl hl.1 rfl (Nat.le_of_ble_eq_true rfl) dX6_commute_3 ⟨Nat.zero_le _, Nat.zero_le _⟩ (fun H locs X => ?_)
  refine xr_if_ne (tgt := 22) hx hb dX6_commute_6 rfl hf (fun hf => ?_) (fun hf => ?_)
  · refine lv_iconst (v := (0 : Int32)) hx hb dX6_commute_22 rfl ?_
    cases hf
    exact xe_z hx hb hr hlocks X rfl dX6_commute_23
  · refine lv_aload_n hx hb dX6_commute_9 rfl (lv_at hl 0 rfl) ?_
    refine lv_iload_n hx hb dX6_commute_10 rfl (lv_at hl 1 rfl) ?_
    refine lv_iload_n hx hb dX6_commute_11 rfl (lv_at hl 2 rfl) ?_
    refine xb hf (fun v2 hv hf => ?_)
    refine xc_V1 (rest := []) ⟨hx, hb, hml, hown, hts⟩ (mX6_doCommute hv) (cwV 2 hts gX6_commute_X6_doCommute rfl rfl rfl hqX6_doCommute ⟨Nat.le_of_ble_eq_true rfl, Nat.le_of_ble_eq_true rfl⟩) X (va_recv X.1 X.2.1 (ci := 4) (q0 := 0) rfl wlR_0) rfl hl.1 rfl (Nat.le_of_ble_eq_true rfl) dX6_commute_12 ⟨Nat.zero_le _, Nat.zero_le _⟩ (fun H locs X => ?_)
    refine xr_if_eq (tgt := 22) hx hb dX6_commute_15 rfl hf (fun hf => ?_) (fun hf => ?_)
    · refine lv_iconst (v := (0 : Int32)) hx hb dX6_commute_22 rfl ?_
      cases hf
      exact xe_z hx hb hr hlocks X rfl dX6_commute_23
    · refine lv_iconst (v := (1 : Int32)) hx hb dX6_commute_18 rfl ?_
      refine lv_goto (tgt := 23) hx hb dX6_commute_19 rfl ?_
      cases hf
      exact xe_z hx hb hr hlocks X rfl dX6_commute_23
set_option maxRecDepth 100000 in
set_option maxHeartbeats 4000000 in
theorem mX6_commonRoot {l : Launch} {dd : va_G} {cy : Nat → ClassId} {bd : Nat → Nat} {A : Nat → Prop} {fu : Nat} {th : Int32} {ce : Nat → Int32} {sz : Nat → Int32} {wy : Nat → Int64} {op : Nat → Int32} {x1 : Int32} {x2 : Int32} {x3 : Int32} {rv : Int32} {tho : Int32} {ceo : Nat → Int32} {szo : Nat → Int32} (hf : fX6_commonRoot fu th ce sz x1 x2 x3 = some (rv, tho, ceo, szo)) : Met l yX6_commonRoot wsX6_commonRoot { frames := 3, cells := 0, slots := 0, locals := 73 } (va_Pc [.ref (bd 0), .int x1, .int x2, .int x3] (IW dd cy A (wlR bd cy th ce sz wy op))) (QX dd cy A (some (.int rv)) (wlR bd cy tho ceo szo wy op)) 0 0 A := by
  refine Met.ofW (cc := cX6_commonRoot) (maxL := 5) (ret := some .int) (by decide) rfl ?_
  intro p e s m args below meth c s₁ B hml hv
  obtain ⟨hav, hI⟩ := hv
  have hx := B.exec
  have hb := B.bytes
  have hr := B.returns
  have hts := atoms_spec (ws := wsX6_commonRoot) B.pre
  have hown : s.vm.findClass RX6 = some m.cls := findClass_of_methodNamed B.named
  have hlocks := B.notSynchronized
  have X := XW.of hI
  have h6 : ∀ w ∈ wsX60, w ∈ wsX6_commonRoot := by decide +kernel
  refine xe_in hav (Nat.le_of_ble_eq_true rfl) rfl (fun ls hl => ?_)
  have w64 : ∀ (y1 : Int32) (s0 : Int32) (th : Int32) (ce : Nat → Int32) (sz : Nat → Int32), fX6_commonRoot_64 fu y1 s0 th ce sz = some (rv, tho, ceo, szo) → ∀ (H : Heap) (locs : List Loc) (ls : Array Slot), XW dd cy A s (wlR bd cy th ce sz wy op) H locs → lv_has ls 5 [(0, .ref (bd 0)), (1, .int y1)] → W p l e (headSpec wsX6_commonRoot { frames := 3, cells := 0, slots := 0, locals := 73 }).room s m args below meth c H locs 0 0 (MQ below (QX dd cy A (some (.int rv)) (wlR bd cy tho ceo szo wy op)) args s 0 0 A) (F0 m 64 ls [.int s0]) := by
    intro y1 s0 th ce sz hf H locs ls X hl
    rw [fX6_commonRoot_64] at hf
    refine lv_istore (lv' := [(4, .int s0), (0, .ref (bd 0)), (1, .int y1)]) hx hb dX6_commonRoot_64 hl (by decide) rfl (fun ls hl => ?_)
    refine lv_aload_n hx hb dX6_commonRoot_66 rfl (lv_at hl 1 rfl) ?_
    refine lv_iload_n hx hb dX6_commonRoot_67 rfl (lv_at hl 2 rfl) ?_
    refine lv_iload hx hb dX6_commonRoot_68 (lv_at hl 0 rfl) ?_
    refine xb hf (fun v6 hv hf => ?_)
    refine xc_S1 (rest := [.int y1, .ref (bd 0)]) ⟨hx, hb, hml, hown, hts⟩ (mX6_baseOf hv) (va_cwS 1 hts gX6_commonRoot_X6_baseOf rfl rfl rfl hqX6_baseOf ⟨Nat.le_of_ble_eq_true rfl, Nat.le_of_ble_eq_true rfl⟩) X rfl hl.1 rfl (Nat.le_of_ble_eq_true rfl) dX6_commonRoot_70 ⟨Nat.zero_le _, Nat.zero_le _⟩ (fun H locs X => ?_)
    refine lv_aload_n hx hb dX6_commonRoot_73 rfl (lv_at hl 1 rfl) ?_
    refine lv_iload hx hb dX6_commonRoot_74 (lv_at hl 0 rfl) ?_
    refine xb hf (fun v7 hv hf => ?_)
    refine xc_V1 (rest := [.int v6, .int y1, .ref (bd 0)]) ⟨hx, hb, hml, hown, hts⟩ (mX6_rootOf hv) (cwV 1 hts gX6_commonRoot_X6_rootOf rfl rfl rfl hqX6_rootOf ⟨Nat.le_of_ble_eq_true rfl, Nat.le_of_ble_eq_true rfl⟩) X (va_recv X.1 X.2.1 (ci := 4) (q0 := 0) rfl wlR_0) rfl hl.1 rfl (Nat.le_of_ble_eq_true rfl) dX6_commonRoot_76 ⟨Nat.zero_le _, Nat.zero_le _⟩ (fun H locs X => ?_)
    refine xb hf (fun v8 hv hf => ?_)
    refine xc_V1 (rest := []) ⟨hx, hb, hml, hown, hts⟩ (mX6_become hv) (cwV 3 hts gX6_commonRoot_X6_become rfl rfl rfl hqX6_become ⟨Nat.le_of_ble_eq_true rfl, Nat.le_of_ble_eq_true rfl⟩) X (va_recv X.1 X.2.1 (ci := 4) (q0 := 0) rfl wlR_0) rfl hl.1 rfl (Nat.le_of_ble_eq_true rfl) dX6_commonRoot_79 ⟨Nat.zero_le _, Nat.zero_le _⟩ (fun H locs X => ?_)
    cases hf
    exact xe_i hx hb hr hlocks X dX6_commonRoot_82
  have w41 : ∀ (y1 : Int32) (y2 : Int32) (y3 : Int32) (s0 : Int32) (th : Int32) (ce : Nat → Int32) (sz : Nat → Int32), fX6_commonRoot_41 fu y1 y2 y3 s0 th ce sz = some (rv, tho, ceo, szo) → ∀ (H : Heap) (locs : List Loc) (ls : Array Slot), XW dd cy A s (wlR bd cy th ce sz wy op) H locs → lv_has ls 5 [(0, .ref (bd 0)), (1, .int y1), (2, .int y2), (3, .int y3)] → W p l e (headSpec wsX6_commonRoot { frames := 3, cells := 0, slots := 0, locals := 73 }).room s m args below meth c H locs 0 0 (MQ below (QX dd cy A (some (.int rv)) (wlR bd cy tho ceo szo wy op)) args s 0 0 A) (F0 m 41 ls [.int s0, .ref (bd 0)]) := by
    intro y1 y2 y3 s0 th ce sz hf H locs ls X hl
    rw [fX6_commonRoot_41] at hf
    refine lv_iconst (v := (2 : Int32)) hx hb dX6_commonRoot_41 rfl ?_
    refine xb hf (fun v4 hv hf => ?_)
    refine xc_V1 (rest := []) ⟨hx, hb, hml, hown, hts⟩ (mX6_isThrown hv) (cwV 2 hts gX6_commonRoot_X6_isThrown rfl rfl rfl hqX6_isThrown ⟨Nat.le_of_ble_eq_true rfl, Nat.le_of_ble_eq_true rfl⟩) X (va_recv X.1 X.2.1 (ci := 4) (q0 := 0) rfl wlR_0) rfl hl.1 rfl (Nat.le_of_ble_eq_true rfl) dX6_commonRoot_42 ⟨Nat.zero_le _, Nat.zero_le _⟩ (fun H locs X => ?_)
    refine xr_if_eq (tgt := 50) hx hb dX6_commonRoot_45 rfl hf (fun hf => ?_) (fun hf => ?_)
    · refine lv_aload_n hx hb dX6_commonRoot_50 rfl (lv_at hl 0 rfl) ?_
      refine xg_f hx hb hts hown X h6 0 wlR_0 rfl 2 (by decide) (by decide +kernel) (v := .ref (bd 2)) rfl dX6_commonRoot_51 ?_
      refine lv_iload_n hx hb dX6_commonRoot_54 rfl (lv_at hl 2 rfl) ?_
      refine xa_iald hx hb X 2 wlR_2 dX6_commonRoot_55 hf (fun v5 hf => ?_)
      refine xr_if_ne (tgt := 63) hx hb dX6_commonRoot_56 rfl hf (fun hf => ?_) (fun hf => ?_)
      · refine lv_iload_n hx hb dX6_commonRoot_63 rfl (lv_at hl 2 rfl) ?_
        exact w64 y1 y2 v4.2 ce sz hf _ _ _ X (lv_sub hl [0, 1] rfl)
      · refine lv_iload_n hx hb dX6_commonRoot_59 rfl (lv_at hl 3 rfl) ?_
        refine lv_goto (tgt := 64) hx hb dX6_commonRoot_60 rfl ?_
        exact w64 y1 y3 v4.2 ce sz hf _ _ _ X (lv_sub hl [0, 1] rfl)
    · refine lv_iconst (v := (0 : Int32)) hx hb dX6_commonRoot_48 rfl ?_
      cases hf
      exact xe_i hx hb hr hlocks X dX6_commonRoot_49
  have w36 : ∀ (y1 : Int32) (y2 : Int32) (y3 : Int32) (th : Int32) (ce : Nat → Int32) (sz : Nat → Int32), fX6_commonRoot_36 fu y1 y2 y3 th ce sz = some (rv, tho, ceo, szo) → ∀ (H : Heap) (locs : List Loc) (ls : Array Slot), XW dd cy A s (wlR bd cy th ce sz wy op) H locs → lv_has ls 5 [(0, .ref (bd 0)), (1, .int y1), (2, .int y2), (3, .int y3)] → W p l e (headSpec wsX6_commonRoot { frames := 3, cells := 0, slots := 0, locals := 73 }).room s m args below meth c H locs 0 0 (MQ below (QX dd cy A (some (.int rv)) (wlR bd cy tho ceo szo wy op)) args s 0 0 A) (F0 m 36 ls [.ref (bd 0)]) := by
    intro y1 y2 y3 th ce sz hf H locs ls X hl
    rw [fX6_commonRoot_36] at hf
    refine lv_iconst (v := (1 : Int32)) hx hb dX6_commonRoot_36 rfl ?_
    refine lv_goto (tgt := 41) hx hb dX6_commonRoot_37 rfl ?_
    exact w41 y1 y2 y3 (1 : Int32) th ce sz hf _ _ _ X (lv_sub hl [0, 1, 2, 3] rfl)
  rw [fX6_commonRoot] at hf
  refine lv_aload_n hx hb dX6_commonRoot_0 rfl (lv_at hl 0 rfl) ?_
  refine lv_iload_n hx hb dX6_commonRoot_1 rfl (lv_at hl 1 rfl) ?_
  refine lv_iload_n hx hb dX6_commonRoot_2 rfl (lv_at hl 2 rfl) ?_
  refine lv_iload_n hx hb dX6_commonRoot_3 rfl (lv_at hl 3 rfl) ?_
  refine xb hf (fun v1 hv hf => ?_)
  refine xc_V1 (rest := []) ⟨hx, hb, hml, hown, hts⟩ (mX6_isNoOfAll hv) (cwV 3 hts gX6_commonRoot_X6_isNoOfAll rfl rfl rfl hqX6_isNoOfAll ⟨Nat.le_of_ble_eq_true rfl, Nat.le_of_ble_eq_true rfl⟩) X (va_recv X.1 X.2.1 (ci := 4) (q0 := 0) rfl wlR_0) rfl hl.1 rfl (Nat.le_of_ble_eq_true rfl) dX6_commonRoot_4 ⟨Nat.zero_le _, Nat.zero_le _⟩ (fun H locs X => ?_)
  refine xr_if_ne (tgt := 48) hx hb dX6_commonRoot_7 rfl hf (fun hf => ?_) (fun hf => ?_)
  · refine lv_iconst (v := (0 : Int32)) hx hb dX6_commonRoot_48 rfl ?_
    cases hf
    exact xe_i hx hb hr hlocks X dX6_commonRoot_49
  · refine lv_aload_n hx hb dX6_commonRoot_10 rfl (lv_at hl 0 rfl) ?_
    refine lv_aload_n hx hb dX6_commonRoot_11 rfl (lv_at hl 0 rfl) ?_
    refine xg_f hx hb hts hown X h6 0 wlR_0 rfl 2 (by decide) (by decide +kernel) (v := .ref (bd 2)) rfl dX6_commonRoot_12 ?_
    refine lv_iload_n hx hb dX6_commonRoot_15 rfl (lv_at hl 2 rfl) ?_
    refine xa_iald hx hb X 2 wlR_2 dX6_commonRoot_16 hf (fun v2 hf => ?_)
    refine lv_aload_n hx hb dX6_commonRoot_17 rfl (lv_at hl 0 rfl) ?_
    refine xg_f hx hb hts hown X h6 0 wlR_0 rfl 2 (by decide) (by decide +kernel) (v := .ref (bd 2)) rfl dX6_commonRoot_18 ?_
    refine lv_iload_n hx hb dX6_commonRoot_21 rfl (lv_at hl 3 rfl) ?_
    refine xa_iald hx hb X 2 wlR_2 dX6_commonRoot_22 hf (fun v3 hf => ?_)
    refine lv_iadd hx hb dX6_commonRoot_23 ?_
    refine xr_if_eq (tgt := 36) hx hb dX6_commonRoot_24 rfl hf (fun hf => ?_) (fun hf => ?_)
    · exact w36 x1 x2 x3 v1.2 ce sz hf _ _ _ X (lv_sub hl [0, 1, 2, 3] rfl)
    · refine lv_aload_n hx hb dX6_commonRoot_27 rfl (lv_at hl 0 rfl) ?_
      refine lv_iload_n hx hb dX6_commonRoot_28 rfl (lv_at hl 2 rfl) ?_
      refine lv_iload_n hx hb dX6_commonRoot_29 rfl (lv_at hl 3 rfl) ?_
      refine xb hf (fun v9 hv hf => ?_)
      refine xc_V1 (rest := [.ref (bd 0)]) ⟨hx, hb, hml, hown, hts⟩ (mX6_doCommute hv) (cwV 2 hts gX6_commonRoot_X6_doCommute rfl rfl rfl hqX6_doCommute ⟨Nat.le_of_ble_eq_true rfl, Nat.le_of_ble_eq_true rfl⟩) X (va_recv X.1 X.2.1 (ci := 4) (q0 := 0) rfl wlR_0) rfl hl.1 rfl (Nat.le_of_ble_eq_true rfl) dX6_commonRoot_30 ⟨Nat.zero_le _, Nat.zero_le _⟩ (fun H locs X => ?_)
      refine xr_if_ne (tgt := 40) hx hb dX6_commonRoot_33 rfl hf (fun hf => ?_) (fun hf => ?_)
      · refine lv_iconst (v := (0 : Int32)) hx hb dX6_commonRoot_40 rfl ?_
        exact w41 x1 x2 x3 (0 : Int32) v1.2 v9.2 sz hf _ _ _ X (lv_sub hl [0, 1, 2, 3] rfl)
      · exact w36 x1 x2 x3 v1.2 v9.2 sz hf _ _ _ X (lv_sub hl [0, 1, 2, 3] rfl)
set_option maxRecDepth 100000 in
set_option maxHeartbeats 4000000 in
theorem mX6_isOf {l : Launch} {dd : va_G} {cy : Nat → ClassId} {bd : Nat → Nat} {A : Nat → Prop} {th : Int32} {ce : Nat → Int32} {sz : Nat → Int32} {wy : Nat → Int64} {op : Nat → Int32} {x1 : Int32} {x2 : Int32} {rv : Int32} (hf : fX6_isOf sz x1 x2 = some rv) : Met l yX6_isOf wsX6_isOf { frames := 0, cells := 0, slots := 0, locals := 0 } (va_Pc [.ref (bd 0), .int x1, .int x2] (IW dd cy A (wlR bd cy th ce sz wy op))) (QX dd cy A (some (.int rv)) (wlR bd cy th ce sz wy op)) 0 0 A := by
  refine Met.ofW (cc := cX6_isOf) (maxL := 3) (ret := some .boolean) (by decide) rfl ?_
  intro p e s m args below meth c s₁ B hml hv
  obtain ⟨hav, hI⟩ := hv
  have hx := B.exec
  have hb := B.bytes
  have hr := B.returns
  have hts := atoms_spec (ws := wsX6_isOf) B.pre
  have hown : s.vm.findClass RX6 = some m.cls := findClass_of_methodNamed B.named
  have hlocks := B.notSynchronized
  have X := XW.of hI
  have h6 : ∀ w ∈ wsX60, w ∈ wsX6_isOf := by decide +kernel
  refine xe_in hav (Nat.le_of_ble_eq_true rfl) rfl (fun ls hl => ?_)
  rw [fX6_isOf] at hf
  refine lv_iload_n hx hb dX6_isOf_0 rfl (lv_at hl 1 rfl) ?_
  refine lv_iload_n hx hb dX6_isOf_1 rfl (lv_at hl 2 rfl) ?_
  refine lv_ishr hx hb dX6_isOf_2 ?_
  refine lv_iconst (v := (1 : Int32)) hx hb dX6_isOf_3 rfl ?_
  refine lv_iand hx hb dX6_isOf_4 ?_
  refine lv_iconst (v := (1 : Int32)) hx hb dX6_isOf_5 rfl ?_
  refine xr_icmp_ne (tgt := 22) hx hb dX6_isOf_6 rfl hf (fun hf => ?_) (fun hf => ?_)
  · refine lv_iconst (v := (0 : Int32)) hx hb dX6_isOf_22 rfl ?_
    cases hf
    exact xe_z hx hb hr hlocks X rfl dX6_isOf_23
  · refine lv_aload_n hx hb dX6_isOf_9 rfl (lv_at hl 0 rfl) ?_
    refine xg_f hx hb hts hown X h6 0 wlR_0 rfl 2 (by decide) (by decide +kernel) (v := .ref (bd 2)) rfl dX6_isOf_10 ?_
    refine lv_iload_n hx hb dX6_isOf_13 rfl (lv_at hl 2 rfl) ?_
    refine xa_iald hx hb X 2 wlR_2 dX6_isOf_14 hf (fun v1 hf => ?_)
    refine xr_if_le (tgt := 22) hx hb dX6_isOf_15 rfl hf (fun hf => ?_) (fun hf => ?_)
    · refine lv_iconst (v := (0 : Int32)) hx hb dX6_isOf_22 rfl ?_
      cases hf
      exact xe_z hx hb hr hlocks X rfl dX6_isOf_23
    · refine lv_iconst (v := (1 : Int32)) hx hb dX6_isOf_18 rfl ?_
      refine lv_goto (tgt := 23) hx hb dX6_isOf_19 rfl ?_
      cases hf
      exact xe_z hx hb hr hlocks X rfl dX6_isOf_23
set_option maxRecDepth 100000 in
set_option maxHeartbeats 4000000 in
theorem mX6_ways {l : Launch} {dd : va_G} {cy : Nat → ClassId} {bd : Nat → Nat} {A : Nat → Prop} {fu : Nat} {th : Int32} {ce : Nat → Int32} {sz : Nat → Int32} {wy : Nat → Int64} {op : Nat → Int32} {x1 : Int32} {x2 : Int32} {rv : Int64} {tho : Int32} {wyo : Nat → Int64} (hf : fX6_ways fu th ce sz wy x1 x2 = some (rv, tho, wyo)) : Met l yX6_ways wsX6_ways { frames := 2, cells := 0, slots := 0, locals := 46 } (va_Pc [.ref (bd 0), .int x1, .int x2] (IW dd cy A (wlR bd cy th ce sz wy op))) (QX dd cy A (some (.long rv)) (wlR bd cy tho ce sz wyo op)) 0 0 A := by
  refine Met.ofW (cc := cX6_ways) (maxL := 5) (ret := some .long) (by decide) rfl ?_
  intro p e s m args below meth c s₁ B hml hv
  obtain ⟨hav, hI⟩ := hv
  have hx := B.exec
  have hb := B.bytes
  have hr := B.returns
  have hts := atoms_spec (ws := wsX6_ways) B.pre
  have hown : s.vm.findClass RX6 = some m.cls := findClass_of_methodNamed B.named
  have hlocks := B.notSynchronized
  have X := XW.of hI
  have h6 : ∀ w ∈ wsX60, w ∈ wsX6_ways := by decide +kernel
  refine xe_in hav (Nat.le_of_ble_eq_true rfl) rfl (fun ls hl => ?_)
  have w79 : ∀ (y1 : Int32) (y2 : Int32) (y3 : Int32) (k66 : Int32 → Int32 → (Nat → Int64) → Option (Int64 × Int32 × (Nat → Int64))) (hk66 : ∀ (zy3 : Int32) (zth : Int32) (zwy : Nat → Int64), k66 zy3 zth zwy = some (rv, tho, wyo) → ∀ (H : Heap) (locs : List Loc) (ls : Array Slot), XW dd cy A s (wlR bd cy zth ce sz zwy op) H locs → lv_has ls 5 [(0, .ref (bd 0)), (1, .int y1), (2, .int y2), (3, .int zy3)] → W p l e (headSpec wsX6_ways { frames := 2, cells := 0, slots := 0, locals := 46 }).room s m args below meth c H locs 0 0 (MQ below (QX dd cy A (some (.long rv)) (wlR bd cy tho ce sz wyo op)) args s 0 0 A) (F0 m 66 ls [])) (n : Nat) (y4 : Int32) (th : Int32) (wy : Nat → Int64), fX6_ways_79 fu ce sz y1 y2 y3 k66 n y4 th wy = some (rv, tho, wyo) → ∀ (H : Heap) (locs : List Loc) (ls : Array Slot), XW dd cy A s (wlR bd cy th ce sz wy op) H locs → lv_has ls 5 [(0, .ref (bd 0)), (1, .int y1), (2, .int y2), (3, .int y3), (4, .int y4)] → W p l e (headSpec wsX6_ways { frames := 2, cells := 0, slots := 0, locals := 46 }).room s m args below meth c H locs 0 0 (MQ below (QX dd cy A (some (.long rv)) (wlR bd cy tho ce sz wyo op)) args s 0 0 A) (F0 m 79 ls []) := by
    intro y1 y2 y3 k66 hk66 n
    induction n with
    | zero => intro y4 th wy hf; exact absurd hf (by simp [fX6_ways_79])
    | succ n ih =>
      intro y4 th wy hf H locs ls X hl
      rw [fX6_ways_79] at hf
      refine lv_iload hx hb dX6_ways_79 (lv_at hl 4 rfl) ?_
      refine lv_bipush (v := (6 : Int32)) hx hb dX6_ways_81 rfl ?_
      refine xr_icmp_ge (tgt := 155) hx hb dX6_ways_83 rfl hf (fun hf => ?_) (fun hf => ?_)
      · refine lv_iinc (v := (y3 + 1)) (lv' := [(3, .int (y3 + 1)), (0, .ref (bd 0)), (1, .int y1), (2, .int y2), (4, .int y4)]) hx hb dX6_ways_155 hl (k := 3) rfl ii_1 (by decide) rfl (fun ls hl => ?_)
        refine lv_goto (tgt := 66) hx hb dX6_ways_158 rfl ?_
        exact hk66 (y3 + 1) th wy hf _ _ _ X (lv_sub hl [1, 2, 3, 0] rfl)
      · refine lv_aload_n hx hb dX6_ways_86 rfl (lv_at hl 0 rfl) ?_
        refine lv_iload_n hx hb dX6_ways_87 rfl (lv_at hl 2 rfl) ?_
        refine lv_iload hx hb dX6_ways_88 (lv_at hl 4 rfl) ?_
        refine xb hf (fun v7 hv hf => ?_)
        refine xc_V1 (rest := []) ⟨hx, hb, hml, hown, hts⟩ (mX6_isOf hv) (cwV 2 hts gX6_ways_X6_isOf rfl rfl rfl hqX6_isOf ⟨Nat.le_of_ble_eq_true rfl, Nat.le_of_ble_eq_true rfl⟩) X (va_recv X.1 X.2.1 (ci := 4) (q0 := 0) rfl wlR_0) rfl hl.1 rfl (Nat.le_of_ble_eq_true rfl) dX6_ways_90 ⟨Nat.zero_le _, Nat.zero_le _⟩ (fun H locs X => ?_)
        refine xr_if_eq (tgt := 149) hx hb dX6_ways_93 rfl hf (fun hf => ?_) (fun hf => ?_)
        · refine lv_iinc (v := (y4 + 1)) (lv' := [(4, .int (y4 + 1)), (0, .ref (bd 0)), (1, .int y1), (2, .int y2), (3, .int y3)]) hx hb dX6_ways_149 hl (k := 4) rfl ii_1 (by decide) rfl (fun ls hl => ?_)
          refine lv_goto (tgt := 79) hx hb dX6_ways_152 rfl ?_
          exact ih (y4 + 1) th wy hf _ _ _ X (lv_sub hl [1, 2, 3, 4, 0] rfl)
        · refine lv_aload_n hx hb dX6_ways_96 rfl (lv_at hl 0 rfl) ?_
          refine lv_iload_n hx hb dX6_ways_97 rfl (lv_at hl 1 rfl) ?_
          refine xb hf (fun v8 hv hf => ?_)
          refine xc_S1 (rest := [.ref (bd 0)]) ⟨hx, hb, hml, hown, hts⟩ (mX6_baseOf hv) (va_cwS 1 hts gX6_ways_X6_baseOf rfl rfl rfl hqX6_baseOf ⟨Nat.le_of_ble_eq_true rfl, Nat.le_of_ble_eq_true rfl⟩) X rfl hl.1 rfl (Nat.le_of_ble_eq_true rfl) dX6_ways_98 ⟨Nat.zero_le _, Nat.zero_le _⟩ (fun H locs X => ?_)
          refine lv_aload_n hx hb dX6_ways_101 rfl (lv_at hl 0 rfl) ?_
          refine xg_f hx hb hts hown X h6 0 wlR_0 rfl 2 (by decide) (by decide +kernel) (v := .ref (bd 2)) rfl dX6_ways_102 ?_
          refine lv_iload_n hx hb dX6_ways_105 rfl (lv_at hl 1 rfl) ?_
          refine xa_iald hx hb X 2 wlR_2 dX6_ways_106 hf (fun v9 hf => ?_)
          refine lv_iload hx hb dX6_ways_107 (lv_at hl 4 rfl) ?_
          refine xb hf (fun v10 hv hf => ?_)
          refine xc_S1 (rest := [.int v9, .int v8, .ref (bd 0)]) ⟨hx, hb, hml, hown, hts⟩ (mX6_baseOf hv) (va_cwS 1 hts gX6_ways_X6_baseOf rfl rfl rfl hqX6_baseOf ⟨Nat.le_of_ble_eq_true rfl, Nat.le_of_ble_eq_true rfl⟩) X rfl hl.1 rfl (Nat.le_of_ble_eq_true rfl) dX6_ways_109 ⟨Nat.zero_le _, Nat.zero_le _⟩ (fun H locs X => ?_)
          refine lv_aload_n hx hb dX6_ways_112 rfl (lv_at hl 0 rfl) ?_
          refine xg_f hx hb hts hown X h6 0 wlR_0 rfl 2 (by decide) (by decide +kernel) (v := .ref (bd 2)) rfl dX6_ways_113 ?_
          refine lv_iload hx hb dX6_ways_116 (lv_at hl 4 rfl) ?_
          refine xa_iald hx hb X 2 wlR_2 dX6_ways_118 hf (fun v11 hf => ?_)
          refine lv_iload_n hx hb dX6_ways_119 rfl (lv_at hl 3 rfl) ?_
          refine xb hf (fun v12 hv hf => ?_)
          refine xc_V1 (rest := []) ⟨hx, hb, hml, hown, hts⟩ (mX6_standsAt hv) (cwV 5 hts gX6_ways_X6_standsAt rfl rfl rfl hqX6_standsAt ⟨Nat.le_of_ble_eq_true rfl, Nat.le_of_ble_eq_true rfl⟩) X (va_recv X.1 X.2.1 (ci := 4) (q0 := 0) rfl wlR_0) rfl hl.1 rfl (Nat.le_of_ble_eq_true rfl) dX6_ways_120 ⟨Nat.zero_le _, Nat.zero_le _⟩ (fun H locs X => ?_)
          refine xr_if_eq (tgt := 149) hx hb dX6_ways_123 rfl hf (fun hf => ?_) (fun hf => ?_)
          · refine lv_iinc (v := (y4 + 1)) (lv' := [(4, .int (y4 + 1)), (0, .ref (bd 0)), (1, .int y1), (2, .int y2), (3, .int y3)]) hx hb dX6_ways_149 hl (k := 4) rfl ii_1 (by decide) rfl (fun ls hl => ?_)
            refine lv_goto (tgt := 79) hx hb dX6_ways_152 rfl ?_
            exact ih (y4 + 1) th wy hf _ _ _ X (lv_sub hl [1, 2, 3, 4, 0] rfl)
          · refine lv_aload_n hx hb dX6_ways_126 rfl (lv_at hl 0 rfl) ?_
            refine xg_f hx hb hts hown X h6 0 wlR_0 rfl 3 (by decide) (by decide +kernel) (v := .ref (bd 3)) rfl dX6_ways_127 ?_
            refine lv_iload_n hx hb dX6_ways_130 rfl (lv_at hl 3 rfl) ?_
            refine lv_aload_n hx hb dX6_ways_131 rfl (lv_at hl 0 rfl) ?_
            refine xg_f hx hb hts hown X h6 0 wlR_0 rfl 2 (by decide) (by decide +kernel) (v := .ref (bd 2)) rfl dX6_ways_132 ?_
            refine lv_iload hx hb dX6_ways_135 (lv_at hl 4 rfl) ?_
            refine xa_iald hx hb X 2 wlR_2 dX6_ways_137 hf (fun v13 hf => ?_)
            refine lv_iadd hx hb dX6_ways_138 ?_
            refine lv_dup2_11 hx hb dX6_ways_139 rfl rfl ?_
            refine xa_lald hx hb X 3 wlR_3 dX6_ways_140 hf (fun v14 hf => ?_)
            refine lv_aload_n hx hb dX6_ways_141 rfl (lv_at hl 0 rfl) ?_
            refine xg_f hx hb hts hown X h6 0 wlR_0 rfl 3 (by decide) (by decide +kernel) (v := .ref (bd 3)) rfl dX6_ways_142 ?_
            refine lv_iload_n hx hb dX6_ways_145 rfl (lv_at hl 3 rfl) ?_
            refine xa_lald hx hb X 3 wlR_3 dX6_ways_146 hf (fun v15 hf => ?_)
            refine lv_ladd hx hb dX6_ways_147 ?_
            refine xa_last hx hb X 3 wlR_3 wlR_s_wy dX6_ways_148 hf (fun g16 H locs hf X => ?_)
            refine lv_iinc (v := (y4 + 1)) (lv' := [(4, .int (y4 + 1)), (0, .ref (bd 0)), (1, .int y1), (2, .int y2), (3, .int y3)]) hx hb dX6_ways_149 hl (k := 4) rfl ii_1 (by decide) rfl (fun ls hl => ?_)
            refine lv_goto (tgt := 79) hx hb dX6_ways_152 rfl ?_
            exact ih (y4 + 1) th g16 hf _ _ _ X (lv_sub hl [1, 2, 3, 4, 0] rfl)
  have w66 : ∀ (y1 : Int32) (y2 : Int32) (n : Nat) (y3 : Int32) (th : Int32) (wy : Nat → Int64), fX6_ways_66 fu ce sz y1 y2 n y3 th wy = some (rv, tho, wyo) → ∀ (H : Heap) (locs : List Loc) (ls : Array Slot), XW dd cy A s (wlR bd cy th ce sz wy op) H locs → lv_has ls 5 [(0, .ref (bd 0)), (1, .int y1), (2, .int y2), (3, .int y3)] → W p l e (headSpec wsX6_ways { frames := 2, cells := 0, slots := 0, locals := 46 }).room s m args below meth c H locs 0 0 (MQ below (QX dd cy A (some (.long rv)) (wlR bd cy tho ce sz wyo op)) args s 0 0 A) (F0 m 66 ls []) := by
    intro y1 y2 n
    induction n with
    | zero => intro y3 th wy hf; exact absurd hf (by simp [fX6_ways_66])
    | succ n ih =>
      intro y3 th wy hf H locs ls X hl
      rw [fX6_ways_66] at hf
      refine lv_iload_n hx hb dX6_ways_66 rfl (lv_at hl 3 rfl) ?_
      refine lv_aload_n hx hb dX6_ways_67 rfl (lv_at hl 0 rfl) ?_
      refine xg_f hx hb hts hown X h6 0 wlR_0 rfl 2 (by decide) (by decide +kernel) (v := .ref (bd 2)) rfl dX6_ways_68 ?_
      refine lv_iload_n hx hb dX6_ways_71 rfl (lv_at hl 1 rfl) ?_
      refine xa_iald hx hb X 2 wlR_2 dX6_ways_72 hf (fun v4 hf => ?_)
      refine xr_icmp_ge (tgt := 161) hx hb dX6_ways_73 rfl hf (fun hf => ?_) (fun hf => ?_)
      · refine lv_aload_n hx hb dX6_ways_161 rfl (lv_at hl 0 rfl) ?_
        refine xg_f hx hb hts hown X h6 0 wlR_0 rfl 3 (by decide) (by decide +kernel) (v := .ref (bd 3)) rfl dX6_ways_162 ?_
        refine lv_aload_n hx hb dX6_ways_165 rfl (lv_at hl 0 rfl) ?_
        refine xg_f hx hb hts hown X h6 0 wlR_0 rfl 2 (by decide) (by decide +kernel) (v := .ref (bd 2)) rfl dX6_ways_166 ?_
        refine lv_iload_n hx hb dX6_ways_169 rfl (lv_at hl 1 rfl) ?_
        refine xa_iald hx hb X 2 wlR_2 dX6_ways_170 hf (fun v5 hf => ?_)
        refine xa_lald hx hb X 3 wlR_3 dX6_ways_171 hf (fun v6 hf => ?_)
        cases hf
        exact xe_l hx hb hr hlocks X dX6_ways_172
      · refine lv_iconst (v := (0 : Int32)) hx hb dX6_ways_76 rfl ?_
        refine lv_istore (lv' := [(4, .int (0 : Int32)), (0, .ref (bd 0)), (1, .int y1), (2, .int y2), (3, .int y3)]) hx hb dX6_ways_77 hl (by decide) rfl (fun ls hl => ?_)
        exact w79 y1 y2 y3 _ ih fu (0 : Int32) th wy hf _ _ _ X (lv_sub hl [1, 2, 3, 4, 0] rfl)
  have w37 : ∀ (y1 : Int32) (y2 : Int32) (n : Nat) (y3 : Int32) (th : Int32) (wy : Nat → Int64), fX6_ways_37 fu ce sz y1 y2 n y3 th wy = some (rv, tho, wyo) → ∀ (H : Heap) (locs : List Loc) (ls : Array Slot), XW dd cy A s (wlR bd cy th ce sz wy op) H locs → lv_has ls 5 [(0, .ref (bd 0)), (1, .int y1), (2, .int y2), (3, .int y3)] → W p l e (headSpec wsX6_ways { frames := 2, cells := 0, slots := 0, locals := 46 }).room s m args below meth c H locs 0 0 (MQ below (QX dd cy A (some (.long rv)) (wlR bd cy tho ce sz wyo op)) args s 0 0 A) (F0 m 37 ls []) := by
    intro y1 y2 n
    induction n with
    | zero => intro y3 th wy hf; exact absurd hf (by simp [fX6_ways_37])
    | succ n ih =>
      intro y3 th wy hf H locs ls X hl
      rw [fX6_ways_37] at hf
      refine lv_iload_n hx hb dX6_ways_37 rfl (lv_at hl 3 rfl) ?_
      refine lv_bipush (v := (120 : Int32)) hx hb dX6_ways_38 rfl ?_
      refine xr_icmp_gt (tgt := 64) hx hb dX6_ways_40 rfl hf (fun hf => ?_) (fun hf => ?_)
      · refine lv_iconst (v := (0 : Int32)) hx hb dX6_ways_64 rfl ?_
        refine lv_istore_n (lv' := [(3, .int (0 : Int32)), (0, .ref (bd 0)), (1, .int y1), (2, .int y2)]) hx hb dX6_ways_65 rfl hl (by decide) rfl (fun ls hl => ?_)
        exact w66 y1 y2 fu (0 : Int32) th wy hf _ _ _ X (lv_sub hl [1, 2, 3, 0] rfl)
      · refine lv_aload_n hx hb dX6_ways_43 rfl (lv_at hl 0 rfl) ?_
        refine xg_f hx hb hts hown X h6 0 wlR_0 rfl 3 (by decide) (by decide +kernel) (v := .ref (bd 3)) rfl dX6_ways_44 ?_
        refine lv_iload_n hx hb dX6_ways_47 rfl (lv_at hl 3 rfl) ?_
        refine lv_iload_n hx hb dX6_ways_48 rfl (lv_at hl 3 rfl) ?_
        refine xr_if_ne (tgt := 56) hx hb dX6_ways_49 rfl hf (fun hf => ?_) (fun hf => ?_)
        · refine lv_lconst (v := (0 : Int64)) hx hb dX6_ways_56 rfl ?_
          refine xa_last hx hb X 3 wlR_3 wlR_s_wy dX6_ways_57 hf (fun g17 H locs hf X => ?_)
          refine lv_iinc (v := (y3 + 1)) (lv' := [(3, .int (y3 + 1)), (0, .ref (bd 0)), (1, .int y1), (2, .int y2)]) hx hb dX6_ways_58 hl (k := 3) rfl ii_1 (by decide) rfl (fun ls hl => ?_)
          refine lv_goto (tgt := 37) hx hb dX6_ways_61 rfl ?_
          exact ih (y3 + 1) th g17 hf _ _ _ X (lv_sub hl [1, 2, 3, 0] rfl)
        · refine lv_lconst (v := (1 : Int64)) hx hb dX6_ways_52 rfl ?_
          refine lv_goto (tgt := 57) hx hb dX6_ways_53 rfl ?_
          refine xa_last hx hb X 3 wlR_3 wlR_s_wy dX6_ways_57 hf (fun g18 H locs hf X => ?_)
          refine lv_iinc (v := (y3 + 1)) (lv' := [(3, .int (y3 + 1)), (0, .ref (bd 0)), (1, .int y1), (2, .int y2)]) hx hb dX6_ways_58 hl (k := 3) rfl ii_1 (by decide) rfl (fun ls hl => ?_)
          refine lv_goto (tgt := 37) hx hb dX6_ways_61 rfl ?_
          exact ih (y3 + 1) th g18 hf _ _ _ X (lv_sub hl [1, 2, 3, 0] rfl)
  have w26 : ∀ (y1 : Int32) (y2 : Int32) (s0 : Int32) (th : Int32) (wy : Nat → Int64), fX6_ways_26 fu ce sz y1 y2 s0 th wy = some (rv, tho, wyo) → ∀ (H : Heap) (locs : List Loc) (ls : Array Slot), XW dd cy A s (wlR bd cy th ce sz wy op) H locs → lv_has ls 5 [(0, .ref (bd 0)), (1, .int y1), (2, .int y2)] → W p l e (headSpec wsX6_ways { frames := 2, cells := 0, slots := 0, locals := 46 }).room s m args below meth c H locs 0 0 (MQ below (QX dd cy A (some (.long rv)) (wlR bd cy tho ce sz wyo op)) args s 0 0 A) (F0 m 26 ls [.int s0, .ref (bd 0)]) := by
    intro y1 y2 s0 th wy hf H locs ls X hl
    rw [fX6_ways_26] at hf
    refine lv_iconst (v := (2 : Int32)) hx hb dX6_ways_26 rfl ?_
    refine xb hf (fun v3 hv hf => ?_)
    refine xc_V1 (rest := []) ⟨hx, hb, hml, hown, hts⟩ (mX6_isThrown hv) (cwV 2 hts gX6_ways_X6_isThrown rfl rfl rfl hqX6_isThrown ⟨Nat.le_of_ble_eq_true rfl, Nat.le_of_ble_eq_true rfl⟩) X (va_recv X.1 X.2.1 (ci := 4) (q0 := 0) rfl wlR_0) rfl hl.1 rfl (Nat.le_of_ble_eq_true rfl) dX6_ways_27 ⟨Nat.zero_le _, Nat.zero_le _⟩ (fun H locs X => ?_)
    refine xr_if_eq (tgt := 35) hx hb dX6_ways_30 rfl hf (fun hf => ?_) (fun hf => ?_)
    · refine lv_iconst (v := (0 : Int32)) hx hb dX6_ways_35 rfl ?_
      refine lv_istore_n (lv' := [(3, .int (0 : Int32)), (0, .ref (bd 0)), (1, .int y1), (2, .int y2)]) hx hb dX6_ways_36 rfl hl (by decide) rfl (fun ls hl => ?_)
      exact w37 y1 y2 fu (0 : Int32) v3.2 wy hf _ _ _ X (lv_sub hl [1, 2, 3, 0] rfl)
    · refine lv_lconst (v := (0 : Int64)) hx hb dX6_ways_33 rfl ?_
      cases hf
      exact xe_l hx hb hr hlocks X dX6_ways_34
  rw [fX6_ways] at hf
  refine lv_aload_n hx hb dX6_ways_0 rfl (lv_at hl 0 rfl) ?_
  refine lv_iload_n hx hb dX6_ways_1 rfl (lv_at hl 1 rfl) ?_
  refine xb hf (fun v1 hv hf => ?_)
  refine xc_V1 (rest := []) ⟨hx, hb, hml, hown, hts⟩ (mX6_isNo hv) (cwV 1 hts gX6_ways_X6_isNo rfl rfl rfl hqX6_isNo ⟨Nat.le_of_ble_eq_true rfl, Nat.le_of_ble_eq_true rfl⟩) X (va_recv X.1 X.2.1 (ci := 4) (q0 := 0) rfl wlR_0) rfl hl.1 rfl (Nat.le_of_ble_eq_true rfl) dX6_ways_2 ⟨Nat.zero_le _, Nat.zero_le _⟩ (fun H locs X => ?_)
  refine xr_if_ne (tgt := 33) hx hb dX6_ways_5 rfl hf (fun hf => ?_) (fun hf => ?_)
  · refine lv_lconst (v := (0 : Int64)) hx hb dX6_ways_33 rfl ?_
    cases hf
    exact xe_l hx hb hr hlocks X dX6_ways_34
  · refine lv_aload_n hx hb dX6_ways_8 rfl (lv_at hl 0 rfl) ?_
    refine lv_iload_n hx hb dX6_ways_9 rfl (lv_at hl 2 rfl) ?_
    refine lv_i2l (v := (x2.toInt64)) hx hb dX6_ways_10 rfl ?_
    refine lv_lconst (v := (0 : Int64)) hx hb dX6_ways_11 rfl ?_
    refine lv_ldc2 (v := (63 : Int64)) hx hb hown (hts (.constantLong RX6 148 (63)) (by decide +kernel)) dX6_ways_12 ?_
    refine xb hf (fun v2 hv hf => ?_)
    refine xc_S1 (rest := [.ref (bd 0)]) ⟨hx, hb, hml, hown, hts⟩ (mX6_isIn hv) (va_cwS 3 hts gX6_ways_X6_isIn rfl rfl rfl hqX6_isIn ⟨Nat.le_of_ble_eq_true rfl, Nat.le_of_ble_eq_true rfl⟩) X rfl hl.1 rfl (Nat.le_of_ble_eq_true rfl) dX6_ways_15 ⟨Nat.zero_le _, Nat.zero_le _⟩ (fun H locs X => ?_)
    refine xr_if_ne (tgt := 25) hx hb dX6_ways_18 rfl hf (fun hf => ?_) (fun hf => ?_)
    · refine lv_iconst (v := (0 : Int32)) hx hb dX6_ways_25 rfl ?_
      exact w26 x1 x2 (0 : Int32) v1.2 wy hf _ _ _ X (lv_sub hl [0, 1, 2] rfl)
    · refine lv_iconst (v := (1 : Int32)) hx hb dX6_ways_21 rfl ?_
      refine lv_goto (tgt := 26) hx hb dX6_ways_22 rfl ?_
      exact w26 x1 x2 (1 : Int32) v1.2 wy hf _ _ _ X (lv_sub hl [0, 1, 2] rfl)
set_option maxRecDepth 100000 in
set_option maxHeartbeats 4000000 in
theorem mX6_meets {l : Launch} {dd : va_G} {cy : Nat → ClassId} {bd : Nat → Nat} {A : Nat → Prop} {fu : Nat} {th : Int32} {ce : Nat → Int32} {sz : Nat → Int32} {wy : Nat → Int64} {op : Nat → Int32} {x1 : Int32} {x2 : Int32} {x3 : Int32} {rv : Int32} {opo : Nat → Int32} (hf : fX6_meets fu ce sz op x1 x2 x3 = some (rv, opo)) : Met l yX6_meets wsX6_meets { frames := 2, cells := 0, slots := 0, locals := 51 } (va_Pc [.ref (bd 0), .int x1, .int x2, .int x3] (IW dd cy A (wlR bd cy th ce sz wy op))) (QX dd cy A (some (.int rv)) (wlR bd cy th ce sz wy opo)) 0 0 A := by
  refine Met.ofW (cc := cX6_meets) (maxL := 6) (ret := some .boolean) (by decide) rfl ?_
  intro p e s m args below meth c s₁ B hml hv
  obtain ⟨hav, hI⟩ := hv
  have hx := B.exec
  have hb := B.bytes
  have hr := B.returns
  have hts := atoms_spec (ws := wsX6_meets) B.pre
  have hown : s.vm.findClass RX6 = some m.cls := findClass_of_methodNamed B.named
  have hlocks := B.notSynchronized
  have X := XW.of hI
  have h6 : ∀ w ∈ wsX60, w ∈ wsX6_meets := by decide +kernel
  refine xe_in hav (Nat.le_of_ble_eq_true rfl) rfl (fun ls hl => ?_)
  rw [fX6_meets] at hf
  refine lv_iload_n hx hb dX6_meets_0 rfl (lv_at hl 1 rfl) ?_
  refine xb hf (fun v1 hv hf => ?_)
  refine xc_S1 (rest := []) ⟨hx, hb, hml, hown, hts⟩ (mX6_baseOf hv) (va_cwS 1 hts gX6_meets_X6_baseOf rfl rfl rfl hqX6_baseOf ⟨Nat.le_of_ble_eq_true rfl, Nat.le_of_ble_eq_true rfl⟩) X rfl hl.1 rfl (Nat.le_of_ble_eq_true rfl) dX6_meets_1 ⟨Nat.zero_le _, Nat.zero_le _⟩ (fun H locs X => ?_)
  refine lv_iload_n hx hb dX6_meets_4 rfl (lv_at hl 2 rfl) ?_
  refine lv_iadd hx hb dX6_meets_5 ?_
  refine lv_istore (lv' := [(4, .int (v1 + x2)), (0, .ref (bd 0)), (1, .int x1), (2, .int x2), (3, .int x3)]) hx hb dX6_meets_6 hl (by decide) rfl (fun ls hl => ?_)
  refine lv_aload_n hx hb dX6_meets_8 rfl (lv_at hl 1 rfl) ?_
  refine xg_f hx hb hts hown X h6 0 wlR_0 rfl 2 (by decide) (by decide +kernel) (v := .ref (bd 2)) rfl dX6_meets_9 ?_
  refine lv_iload_n hx hb dX6_meets_12 rfl (lv_at hl 2 rfl) ?_
  refine xa_iald hx hb X 2 wlR_2 dX6_meets_13 hf (fun v2 hf => ?_)
  refine lv_iload_n hx hb dX6_meets_14 rfl (lv_at hl 3 rfl) ?_
  refine lv_isub hx hb dX6_meets_15 ?_
  refine lv_istore (lv' := [(5, .int (v2 - x2)), (4, .int (v1 + x2)), (0, .ref (bd 0)), (1, .int x1), (2, .int x2), (3, .int x3)]) hx hb dX6_meets_16 hl (by decide) rfl (fun ls hl => ?_)
  refine lv_aload_n hx hb dX6_meets_18 rfl (lv_at hl 2 rfl) ?_
  refine lv_iload hx hb dX6_meets_19 (lv_at hl 1 rfl) ?_
  refine lv_iload hx hb dX6_meets_21 (lv_at hl 0 rfl) ?_
  refine lv_iload_n hx hb dX6_meets_23 rfl (lv_at hl 5 rfl) ?_
  refine xb hf (fun v3 hv hf => ?_)
  refine xc_S1 (rest := [.int (v2 - x2), .int (v1 + x2), .ref (bd 0)]) ⟨hx, hb, hml, hown, hts⟩ (mX6_baseOf hv) (va_cwS 1 hts gX6_meets_X6_baseOf rfl rfl rfl hqX6_baseOf ⟨Nat.le_of_ble_eq_true rfl, Nat.le_of_ble_eq_true rfl⟩) X rfl hl.1 rfl (Nat.le_of_ble_eq_true rfl) dX6_meets_24 ⟨Nat.zero_le _, Nat.zero_le _⟩ (fun H locs X => ?_)
  refine lv_aload_n hx hb dX6_meets_27 rfl (lv_at hl 2 rfl) ?_
  refine xg_f hx hb hts hown X h6 0 wlR_0 rfl 2 (by decide) (by decide +kernel) (v := .ref (bd 2)) rfl dX6_meets_28 ?_
  refine lv_iload_n hx hb dX6_meets_31 rfl (lv_at hl 5 rfl) ?_
  refine xa_iald hx hb X 2 wlR_2 dX6_meets_32 hf (fun v4 hf => ?_)
  refine xb hf (fun v5 hv hf => ?_)
  refine xc_V1 (rest := []) ⟨hx, hb, hml, hown, hts⟩ (mX6_areSame hv) (cwV 4 hts gX6_meets_X6_areSame rfl rfl rfl hqX6_areSame ⟨Nat.le_of_ble_eq_true rfl, Nat.le_of_ble_eq_true rfl⟩) X (va_recv X.1 X.2.1 (ci := 4) (q0 := 0) rfl wlR_0) rfl hl.1 rfl (Nat.le_of_ble_eq_true rfl) dX6_meets_33 ⟨Nat.zero_le _, Nat.zero_le _⟩ (fun H locs X => ?_)
  refine xr_if_eq (tgt := 41) hx hb dX6_meets_36 rfl hf (fun hf => ?_) (fun hf => ?_)
  · refine lv_aload_n hx hb dX6_meets_41 rfl (lv_at hl 2 rfl) ?_
    refine lv_iload_n hx hb dX6_meets_42 rfl (lv_at hl 5 rfl) ?_
    refine xb hf (fun v6 hv hf => ?_)
    refine xc_S1 (rest := [.ref (bd 0)]) ⟨hx, hb, hml, hown, hts⟩ (mX6_baseOf hv) (va_cwS 1 hts gX6_meets_X6_baseOf rfl rfl rfl hqX6_baseOf ⟨Nat.le_of_ble_eq_true rfl, Nat.le_of_ble_eq_true rfl⟩) X rfl hl.1 rfl (Nat.le_of_ble_eq_true rfl) dX6_meets_43 ⟨Nat.zero_le _, Nat.zero_le _⟩ (fun H locs X => ?_)
    refine lv_aload_n hx hb dX6_meets_46 rfl (lv_at hl 2 rfl) ?_
    refine xg_f hx hb hts hown X h6 0 wlR_0 rfl 2 (by decide) (by decide +kernel) (v := .ref (bd 2)) rfl dX6_meets_47 ?_
    refine lv_iload_n hx hb dX6_meets_50 rfl (lv_at hl 5 rfl) ?_
    refine xa_iald hx hb X 2 wlR_2 dX6_meets_51 hf (fun v7 hf => ?_)
    refine lv_iload hx hb dX6_meets_52 (lv_at hl 1 rfl) ?_
    refine lv_iload hx hb dX6_meets_54 (lv_at hl 0 rfl) ?_
    refine lv_iconst (v := (0 : Int32)) hx hb dX6_meets_56 rfl ?_
    refine xb hf (fun v8 hv hf => ?_)
    refine xc_V1 (rest := []) ⟨hx, hb, hml, hown, hts⟩ (mX6_standsAt hv) (cwV 5 hts gX6_meets_X6_standsAt rfl rfl rfl hqX6_standsAt ⟨Nat.le_of_ble_eq_true rfl, Nat.le_of_ble_eq_true rfl⟩) X (va_recv X.1 X.2.1 (ci := 4) (q0 := 0) rfl wlR_0) rfl hl.1 rfl (Nat.le_of_ble_eq_true rfl) dX6_meets_57 ⟨Nat.zero_le _, Nat.zero_le _⟩ (fun H locs X => ?_)
    refine xr_if_eq (tgt := 79) hx hb dX6_meets_60 rfl hf (fun hf => ?_) (fun hf => ?_)
    · refine lv_aload_n hx hb dX6_meets_79 rfl (lv_at hl 2 rfl) ?_
      refine lv_iload hx hb dX6_meets_80 (lv_at hl 1 rfl) ?_
      refine lv_iload hx hb dX6_meets_82 (lv_at hl 0 rfl) ?_
      refine lv_iload_n hx hb dX6_meets_84 rfl (lv_at hl 5 rfl) ?_
      refine xb hf (fun v9 hv hf => ?_)
      refine xc_S1 (rest := [.int (v2 - x2), .int (v1 + x2), .ref (bd 0)]) ⟨hx, hb, hml, hown, hts⟩ (mX6_baseOf hv) (va_cwS 1 hts gX6_meets_X6_baseOf rfl rfl rfl hqX6_baseOf ⟨Nat.le_of_ble_eq_true rfl, Nat.le_of_ble_eq_true rfl⟩) X rfl hl.1 rfl (Nat.le_of_ble_eq_true rfl) dX6_meets_85 ⟨Nat.zero_le _, Nat.zero_le _⟩ (fun H locs X => ?_)
      refine lv_aload_n hx hb dX6_meets_88 rfl (lv_at hl 2 rfl) ?_
      refine xg_f hx hb hts hown X h6 0 wlR_0 rfl 2 (by decide) (by decide +kernel) (v := .ref (bd 2)) rfl dX6_meets_89 ?_
      refine lv_iload_n hx hb dX6_meets_92 rfl (lv_at hl 5 rfl) ?_
      refine xa_iald hx hb X 2 wlR_2 dX6_meets_93 hf (fun v10 hf => ?_)
      refine lv_iconst (v := (0 : Int32)) hx hb dX6_meets_94 rfl ?_
      refine xb hf (fun v11 hv hf => ?_)
      refine xc_V1 (rest := []) ⟨hx, hb, hml, hown, hts⟩ (mX6_standsAt hv) (cwV 5 hts gX6_meets_X6_standsAt rfl rfl rfl hqX6_standsAt ⟨Nat.le_of_ble_eq_true rfl, Nat.le_of_ble_eq_true rfl⟩) X (va_recv X.1 X.2.1 (ci := 4) (q0 := 0) rfl wlR_0) rfl hl.1 rfl (Nat.le_of_ble_eq_true rfl) dX6_meets_95 ⟨Nat.zero_le _, Nat.zero_le _⟩ (fun H locs X => ?_)
      refine xr_if_eq (tgt := 116) hx hb dX6_meets_98 rfl hf (fun hf => ?_) (fun hf => ?_)
      · refine lv_iconst (v := (0 : Int32)) hx hb dX6_meets_116 rfl ?_
        cases hf
        exact xe_z hx hb hr hlocks X rfl dX6_meets_117
      · refine lv_aload_n hx hb dX6_meets_101 rfl (lv_at hl 2 rfl) ?_
        refine xg_f hx hb hts hown X h6 0 wlR_0 rfl 4 (by decide) (by decide +kernel) (v := .ref (bd 4)) rfl dX6_meets_102 ?_
        refine lv_iload hx hb dX6_meets_105 (lv_at hl 1 rfl) ?_
        refine lv_aload_n hx hb dX6_meets_107 rfl (lv_at hl 2 rfl) ?_
        refine xg_f hx hb hts hown X h6 0 wlR_0 rfl 2 (by decide) (by decide +kernel) (v := .ref (bd 2)) rfl dX6_meets_108 ?_
        refine lv_iload_n hx hb dX6_meets_111 rfl (lv_at hl 5 rfl) ?_
        refine xa_iald hx hb X 2 wlR_2 dX6_meets_112 hf (fun v12 hf => ?_)
        refine lv_iadd hx hb dX6_meets_113 ?_
        refine lv_iconst (v := (1 : Int32)) hx hb dX6_meets_114 rfl ?_
        refine xa_zast hx hb X 4 wlR_4 wlR_s_op dX6_meets_115 hf (fun g13 H locs hf X => ?_)
        refine lv_iconst (v := (0 : Int32)) hx hb dX6_meets_116 rfl ?_
        cases hf
        exact xe_z hx hb hr hlocks X rfl dX6_meets_117
    · refine lv_aload_n hx hb dX6_meets_63 rfl (lv_at hl 2 rfl) ?_
      refine xg_f hx hb hts hown X h6 0 wlR_0 rfl 4 (by decide) (by decide +kernel) (v := .ref (bd 4)) rfl dX6_meets_64 ?_
      refine lv_iload_n hx hb dX6_meets_67 rfl (lv_at hl 5 rfl) ?_
      refine xb hf (fun v14 hv hf => ?_)
      refine xc_S1 (rest := [.ref (bd 4)]) ⟨hx, hb, hml, hown, hts⟩ (mX6_baseOf hv) (va_cwS 1 hts gX6_meets_X6_baseOf rfl rfl rfl hqX6_baseOf ⟨Nat.le_of_ble_eq_true rfl, Nat.le_of_ble_eq_true rfl⟩) X rfl hl.1 rfl (Nat.le_of_ble_eq_true rfl) dX6_meets_68 ⟨Nat.zero_le _, Nat.zero_le _⟩ (fun H locs X => ?_)
      refine lv_iload hx hb dX6_meets_71 (lv_at hl 0 rfl) ?_
      refine lv_iadd hx hb dX6_meets_73 ?_
      refine lv_iconst (v := (1 : Int32)) hx hb dX6_meets_74 rfl ?_
      refine xa_zast hx hb X 4 wlR_4 wlR_s_op dX6_meets_75 hf (fun g15 H locs hf X => ?_)
      refine lv_goto (tgt := 116) hx hb dX6_meets_76 rfl ?_
      refine lv_iconst (v := (0 : Int32)) hx hb dX6_meets_116 rfl ?_
      cases hf
      exact xe_z hx hb hr hlocks X rfl dX6_meets_117
  · refine lv_iconst (v := (1 : Int32)) hx hb dX6_meets_39 rfl ?_
    cases hf
    exact xe_z hx hb hr hlocks X rfl dX6_meets_40
set_option maxRecDepth 100000 in
set_option maxHeartbeats 4000000 in
theorem mX6_meetsAny {l : Launch} {dd : va_G} {cy : Nat → ClassId} {bd : Nat → Nat} {A : Nat → Prop} {fu : Nat} {th : Int32} {ce : Nat → Int32} {sz : Nat → Int32} {wy : Nat → Int64} {op : Nat → Int32} {x1 : Int32} {x2 : Int32} {x3 : Int32} {rv : Int32} {opo : Nat → Int32} (hf : fX6_meetsAny fu ce sz op x1 x2 x3 = some (rv, opo)) : Met l yX6_meetsAny wsX6_meetsAny { frames := 3, cells := 0, slots := 0, locals := 76 } (va_Pc [.ref (bd 0), .int x1, .int x2, .int x3] (IW dd cy A (wlR bd cy th ce sz wy op))) (QX dd cy A (some (.int rv)) (wlR bd cy th ce sz wy opo)) 0 0 A := by
  refine Met.ofW (cc := cX6_meetsAny) (maxL := 7) (ret := some .boolean) (by decide) rfl ?_
  intro p e s m args below meth c s₁ B hml hv
  obtain ⟨hav, hI⟩ := hv
  have hx := B.exec
  have hb := B.bytes
  have hr := B.returns
  have hts := atoms_spec (ws := wsX6_meetsAny) B.pre
  have hown : s.vm.findClass RX6 = some m.cls := findClass_of_methodNamed B.named
  have hlocks := B.notSynchronized
  have X := XW.of hI
  refine xe_in hav (Nat.le_of_ble_eq_true rfl) rfl (fun ls hl => ?_)
  have w28 : ∀ (y1 : Int32) (y2 : Int32) (y3 : Int32) (y4 : Int32) (y5 : Int32) (k6 : Int32 → Int32 → (Nat → Int32) → Option (Int32 × (Nat → Int32))) (hk6 : ∀ (zy4 : Int32) (zy5 : Int32) (zop : Nat → Int32), k6 zy4 zy5 zop = some (rv, opo) → ∀ (H : Heap) (locs : List Loc) (ls : Array Slot), XW dd cy A s (wlR bd cy th ce sz wy zop) H locs → lv_has ls 7 [(0, .ref (bd 0)), (1, .int y1), (2, .int y2), (3, .int y3), (4, .int zy4), (5, .int zy5)] → W p l e (headSpec wsX6_meetsAny { frames := 3, cells := 0, slots := 0, locals := 76 }).room s m args below meth c H locs 0 0 (MQ below (QX dd cy A (some (.int rv)) (wlR bd cy th ce sz wy opo)) args s 0 0 A) (F0 m 6 ls [])) (s0 : Int32) (op : Nat → Int32), fX6_meetsAny_28 fu ce sz y1 y2 y3 y4 y5 k6 s0 op = some (rv, opo) → ∀ (H : Heap) (locs : List Loc) (ls : Array Slot), XW dd cy A s (wlR bd cy th ce sz wy op) H locs → lv_has ls 7 [(0, .ref (bd 0)), (1, .int y1), (2, .int y2), (3, .int y3), (4, .int y4), (5, .int y5)] → W p l e (headSpec wsX6_meetsAny { frames := 3, cells := 0, slots := 0, locals := 76 }).room s m args below meth c H locs 0 0 (MQ below (QX dd cy A (some (.int rv)) (wlR bd cy th ce sz wy opo)) args s 0 0 A) (F0 m 28 ls [.int s0]) := by
    intro y1 y2 y3 y4 y5 k6 hk6 s0 op hf H locs ls X hl
    rw [fX6_meetsAny_28] at hf
    refine lv_istore (lv' := [(6, .int s0), (0, .ref (bd 0)), (1, .int y1), (2, .int y2), (3, .int y3), (4, .int y4), (5, .int y5)]) hx hb dX6_meetsAny_28 hl (by decide) rfl (fun ls hl => ?_)
    refine lv_iload hx hb dX6_meetsAny_30 (lv_at hl 5 rfl) ?_
    refine xr_if_ne (tgt := 61) hx hb dX6_meetsAny_32 rfl hf (fun hf => ?_) (fun hf => ?_)
    · refine lv_iconst (v := (1 : Int32)) hx hb dX6_meetsAny_61 rfl ?_
      refine lv_goto (tgt := 66) hx hb dX6_meetsAny_62 rfl ?_
      refine lv_istore (lv' := [(4, .int (1 : Int32)), (6, .int s0), (0, .ref (bd 0)), (1, .int y1), (2, .int y2), (3, .int y3), (5, .int y5)]) hx hb dX6_meetsAny_66 hl (by decide) rfl (fun ls hl => ?_)
      refine lv_iinc (v := (y5 + 1)) (lv' := [(5, .int (y5 + 1)), (4, .int (1 : Int32)), (6, .int s0), (0, .ref (bd 0)), (1, .int y1), (2, .int y2), (3, .int y3)]) hx hb dX6_meetsAny_68 hl (k := 6) rfl ii_1 (by decide) rfl (fun ls hl => ?_)
      refine lv_goto (tgt := 6) hx hb dX6_meetsAny_71 rfl ?_
      exact hk6 (1 : Int32) (y5 + 1) op hf _ _ _ X (lv_sub hl [3, 4, 5, 6, 1, 0] rfl)
    · refine lv_aload_n hx hb dX6_meetsAny_35 rfl (lv_at hl 1 rfl) ?_
      refine lv_iload_n hx hb dX6_meetsAny_36 rfl (lv_at hl 2 rfl) ?_
      refine lv_iload hx hb dX6_meetsAny_37 (lv_at hl 6 rfl) ?_
      refine xb hf (fun v1 hv hf => ?_)
      refine xc_V1 (rest := []) ⟨hx, hb, hml, hown, hts⟩ (mX6_isOf hv) (cwV 2 hts gX6_meetsAny_X6_isOf rfl rfl rfl hqX6_isOf ⟨Nat.le_of_ble_eq_true rfl, Nat.le_of_ble_eq_true rfl⟩) X (va_recv X.1 X.2.1 (ci := 4) (q0 := 0) rfl wlR_0) rfl hl.1 rfl (Nat.le_of_ble_eq_true rfl) dX6_meetsAny_39 ⟨Nat.zero_le _, Nat.zero_le _⟩ (fun H locs X => ?_)
      refine xr_if_eq (tgt := 65) hx hb dX6_meetsAny_42 rfl hf (fun hf => ?_) (fun hf => ?_)
      · refine lv_iconst (v := (0 : Int32)) hx hb dX6_meetsAny_65 rfl ?_
        refine lv_istore (lv' := [(4, .int (0 : Int32)), (6, .int s0), (0, .ref (bd 0)), (1, .int y1), (2, .int y2), (3, .int y3), (5, .int y5)]) hx hb dX6_meetsAny_66 hl (by decide) rfl (fun ls hl => ?_)
        refine lv_iinc (v := (y5 + 1)) (lv' := [(5, .int (y5 + 1)), (4, .int (0 : Int32)), (6, .int s0), (0, .ref (bd 0)), (1, .int y1), (2, .int y2), (3, .int y3)]) hx hb dX6_meetsAny_68 hl (k := 6) rfl ii_1 (by decide) rfl (fun ls hl => ?_)
        refine lv_goto (tgt := 6) hx hb dX6_meetsAny_71 rfl ?_
        exact hk6 (0 : Int32) (y5 + 1) op hf _ _ _ X (lv_sub hl [3, 4, 5, 6, 1, 0] rfl)
      · refine lv_iload hx hb dX6_meetsAny_45 (lv_at hl 0 rfl) ?_
        refine xr_if_ne (tgt := 65) hx hb dX6_meetsAny_47 rfl hf (fun hf => ?_) (fun hf => ?_)
        · refine lv_iconst (v := (0 : Int32)) hx hb dX6_meetsAny_65 rfl ?_
          refine lv_istore (lv' := [(4, .int (0 : Int32)), (6, .int s0), (0, .ref (bd 0)), (1, .int y1), (2, .int y2), (3, .int y3), (5, .int y5)]) hx hb dX6_meetsAny_66 hl (by decide) rfl (fun ls hl => ?_)
          refine lv_iinc (v := (y5 + 1)) (lv' := [(5, .int (y5 + 1)), (4, .int (0 : Int32)), (6, .int s0), (0, .ref (bd 0)), (1, .int y1), (2, .int y2), (3, .int y3)]) hx hb dX6_meetsAny_68 hl (k := 6) rfl ii_1 (by decide) rfl (fun ls hl => ?_)
          refine lv_goto (tgt := 6) hx hb dX6_meetsAny_71 rfl ?_
          exact hk6 (0 : Int32) (y5 + 1) op hf _ _ _ X (lv_sub hl [3, 4, 5, 6, 1, 0] rfl)
        · refine lv_aload_n hx hb dX6_meetsAny_50 rfl (lv_at hl 1 rfl) ?_
          refine lv_iload_n hx hb dX6_meetsAny_51 rfl (lv_at hl 3 rfl) ?_
          refine lv_iload_n hx hb dX6_meetsAny_52 rfl (lv_at hl 4 rfl) ?_
          refine lv_iload hx hb dX6_meetsAny_53 (lv_at hl 6 rfl) ?_
          refine xb hf (fun v2 hv hf => ?_)
          refine xc_V1 (rest := []) ⟨hx, hb, hml, hown, hts⟩ (mX6_meets hv) (cwV 3 hts gX6_meetsAny_X6_meets rfl rfl rfl hqX6_meets ⟨Nat.le_of_ble_eq_true rfl, Nat.le_of_ble_eq_true rfl⟩) X (va_recv X.1 X.2.1 (ci := 4) (q0 := 0) rfl wlR_0) rfl hl.1 rfl (Nat.le_of_ble_eq_true rfl) dX6_meetsAny_55 ⟨Nat.zero_le _, Nat.zero_le _⟩ (fun H locs X => ?_)
          refine xr_if_eq (tgt := 65) hx hb dX6_meetsAny_58 rfl hf (fun hf => ?_) (fun hf => ?_)
          · refine lv_iconst (v := (0 : Int32)) hx hb dX6_meetsAny_65 rfl ?_
            refine lv_istore (lv' := [(4, .int (0 : Int32)), (6, .int s0), (0, .ref (bd 0)), (1, .int y1), (2, .int y2), (3, .int y3), (5, .int y5)]) hx hb dX6_meetsAny_66 hl (by decide) rfl (fun ls hl => ?_)
            refine lv_iinc (v := (y5 + 1)) (lv' := [(5, .int (y5 + 1)), (4, .int (0 : Int32)), (6, .int s0), (0, .ref (bd 0)), (1, .int y1), (2, .int y2), (3, .int y3)]) hx hb dX6_meetsAny_68 hl (k := 6) rfl ii_1 (by decide) rfl (fun ls hl => ?_)
            refine lv_goto (tgt := 6) hx hb dX6_meetsAny_71 rfl ?_
            exact hk6 (0 : Int32) (y5 + 1) v2.2 hf _ _ _ X (lv_sub hl [3, 4, 5, 6, 1, 0] rfl)
          · refine lv_iconst (v := (1 : Int32)) hx hb dX6_meetsAny_61 rfl ?_
            refine lv_goto (tgt := 66) hx hb dX6_meetsAny_62 rfl ?_
            refine lv_istore (lv' := [(4, .int (1 : Int32)), (6, .int s0), (0, .ref (bd 0)), (1, .int y1), (2, .int y2), (3, .int y3), (5, .int y5)]) hx hb dX6_meetsAny_66 hl (by decide) rfl (fun ls hl => ?_)
            refine lv_iinc (v := (y5 + 1)) (lv' := [(5, .int (y5 + 1)), (4, .int (1 : Int32)), (6, .int s0), (0, .ref (bd 0)), (1, .int y1), (2, .int y2), (3, .int y3)]) hx hb dX6_meetsAny_68 hl (k := 6) rfl ii_1 (by decide) rfl (fun ls hl => ?_)
            refine lv_goto (tgt := 6) hx hb dX6_meetsAny_71 rfl ?_
            exact hk6 (1 : Int32) (y5 + 1) v2.2 hf _ _ _ X (lv_sub hl [3, 4, 5, 6, 1, 0] rfl)
  have w27 : ∀ (y1 : Int32) (y2 : Int32) (y3 : Int32) (y4 : Int32) (y5 : Int32) (k6 : Int32 → Int32 → (Nat → Int32) → Option (Int32 × (Nat → Int32))) (hk6 : ∀ (zy4 : Int32) (zy5 : Int32) (zop : Nat → Int32), k6 zy4 zy5 zop = some (rv, opo) → ∀ (H : Heap) (locs : List Loc) (ls : Array Slot), XW dd cy A s (wlR bd cy th ce sz wy zop) H locs → lv_has ls 7 [(0, .ref (bd 0)), (1, .int y1), (2, .int y2), (3, .int y3), (4, .int zy4), (5, .int zy5)] → W p l e (headSpec wsX6_meetsAny { frames := 3, cells := 0, slots := 0, locals := 76 }).room s m args below meth c H locs 0 0 (MQ below (QX dd cy A (some (.int rv)) (wlR bd cy th ce sz wy opo)) args s 0 0 A) (F0 m 6 ls [])) (op : Nat → Int32), fX6_meetsAny_27 fu ce sz y1 y2 y3 y4 y5 k6 op = some (rv, opo) → ∀ (H : Heap) (locs : List Loc) (ls : Array Slot), XW dd cy A s (wlR bd cy th ce sz wy op) H locs → lv_has ls 7 [(0, .ref (bd 0)), (1, .int y1), (2, .int y2), (3, .int y3), (4, .int y4), (5, .int y5)] → W p l e (headSpec wsX6_meetsAny { frames := 3, cells := 0, slots := 0, locals := 76 }).room s m args below meth c H locs 0 0 (MQ below (QX dd cy A (some (.int rv)) (wlR bd cy th ce sz wy opo)) args s 0 0 A) (F0 m 27 ls []) := by
    intro y1 y2 y3 y4 y5 k6 hk6 op hf H locs ls X hl
    rw [fX6_meetsAny_27] at hf
    refine lv_iconst (v := (0 : Int32)) hx hb dX6_meetsAny_27 rfl ?_
    exact w28 y1 y2 y3 y4 y5 _ hk6 (0 : Int32) op hf _ _ _ X (lv_sub hl [0, 1, 2, 3, 4, 5] rfl)
  have w6 : ∀ (y1 : Int32) (y2 : Int32) (y3 : Int32) (n : Nat) (y4 : Int32) (y5 : Int32) (op : Nat → Int32), fX6_meetsAny_6 fu ce sz y1 y2 y3 n y4 y5 op = some (rv, opo) → ∀ (H : Heap) (locs : List Loc) (ls : Array Slot), XW dd cy A s (wlR bd cy th ce sz wy op) H locs → lv_has ls 7 [(0, .ref (bd 0)), (1, .int y1), (2, .int y2), (3, .int y3), (4, .int y4), (5, .int y5)] → W p l e (headSpec wsX6_meetsAny { frames := 3, cells := 0, slots := 0, locals := 76 }).room s m args below meth c H locs 0 0 (MQ below (QX dd cy A (some (.int rv)) (wlR bd cy th ce sz wy opo)) args s 0 0 A) (F0 m 6 ls []) := by
    intro y1 y2 y3 n
    induction n with
    | zero => intro y4 y5 op hf; exact absurd hf (by simp [fX6_meetsAny_6])
    | succ n ih =>
      intro y4 y5 op hf H locs ls X hl
      rw [fX6_meetsAny_6] at hf
      refine lv_iload hx hb dX6_meetsAny_6 (lv_at hl 5 rfl) ?_
      refine lv_bipush (v := (6 : Int32)) hx hb dX6_meetsAny_8 rfl ?_
      refine xr_icmp_ge (tgt := 74) hx hb dX6_meetsAny_10 rfl hf (fun hf => ?_) (fun hf => ?_)
      · refine lv_iload hx hb dX6_meetsAny_74 (lv_at hl 4 rfl) ?_
        refine xb hf (fun z9 hz hf => ?_)
        obtain ⟨hn, rfl⟩ := ckZ_some hz
        cases hf
        exact xe_z hx hb hr hlocks X hn dX6_meetsAny_76
      · refine lv_iload_n hx hb dX6_meetsAny_13 rfl (lv_at hl 3 rfl) ?_
        refine xr_if_ne (tgt := 27) hx hb dX6_meetsAny_14 rfl hf (fun hf => ?_) (fun hf => ?_)
        · exact w27 y1 y2 y3 y4 y5 _ ih op hf _ _ _ X (lv_sub hl [0, 1, 2, 3, 4, 5] rfl)
        · refine lv_iload hx hb dX6_meetsAny_17 (lv_at hl 5 rfl) ?_
          refine lv_iload_n hx hb dX6_meetsAny_19 rfl (lv_at hl 2 rfl) ?_
          refine xr_icmp_ne (tgt := 27) hx hb dX6_meetsAny_20 rfl hf (fun hf => ?_) (fun hf => ?_)
          · exact w27 y1 y2 y3 y4 y5 _ ih op hf _ _ _ X (lv_sub hl [0, 1, 2, 3, 4, 5] rfl)
          · refine lv_iconst (v := (1 : Int32)) hx hb dX6_meetsAny_23 rfl ?_
            refine lv_goto (tgt := 28) hx hb dX6_meetsAny_24 rfl ?_
            exact w28 y1 y2 y3 y4 y5 _ ih (1 : Int32) op hf _ _ _ X (lv_sub hl [0, 1, 2, 3, 4, 5] rfl)
  rw [fX6_meetsAny] at hf
  refine lv_iconst (v := (0 : Int32)) hx hb dX6_meetsAny_0 rfl ?_
  refine lv_istore (lv' := [(4, .int (0 : Int32)), (0, .ref (bd 0)), (1, .int x1), (2, .int x2), (3, .int x3)]) hx hb dX6_meetsAny_1 hl (by decide) rfl (fun ls hl => ?_)
  refine lv_iconst (v := (0 : Int32)) hx hb dX6_meetsAny_3 rfl ?_
  refine lv_istore (lv' := [(5, .int (0 : Int32)), (4, .int (0 : Int32)), (0, .ref (bd 0)), (1, .int x1), (2, .int x2), (3, .int x3)]) hx hb dX6_meetsAny_4 hl (by decide) rfl (fun ls hl => ?_)
  exact w6 x1 x2 x3 fu (0 : Int32) (0 : Int32) op hf _ _ _ X (lv_sub hl [2, 3, 4, 5, 1, 0] rfl)
set_option maxRecDepth 100000 in
set_option maxHeartbeats 4000000 in
theorem mX6_openMany {l : Launch} {dd : va_G} {cy : Nat → ClassId} {bd : Nat → Nat} {A : Nat → Prop} {fu : Nat} {th : Int32} {ce : Nat → Int32} {sz : Nat → Int32} {wy : Nat → Int64} {op : Nat → Int32} {rv : Int32} (hf : fX6_openMany fu op = some rv) : Met l yX6_openMany wsX6_openMany { frames := 0, cells := 0, slots := 0, locals := 0 } (va_Pc [.ref (bd 0)] (IW dd cy A (wlR bd cy th ce sz wy op))) (QX dd cy A (some (.int rv)) (wlR bd cy th ce sz wy op)) 0 0 A := by
  refine Met.ofW (cc := cX6_openMany) (maxL := 3) (ret := some .int) (by decide) rfl ?_
  intro p e s m args below meth c s₁ B hml hv
  obtain ⟨hav, hI⟩ := hv
  have hx := B.exec
  have hb := B.bytes
  have hr := B.returns
  have hts := atoms_spec (ws := wsX6_openMany) B.pre
  have hown : s.vm.findClass RX6 = some m.cls := findClass_of_methodNamed B.named
  have hlocks := B.notSynchronized
  have X := XW.of hI
  have h6 : ∀ w ∈ wsX60, w ∈ wsX6_openMany := by decide +kernel
  refine xe_in hav (Nat.le_of_ble_eq_true rfl) rfl (fun ls hl => ?_)
  have w4 : ∀ (n : Nat) (y1 : Int32) (y2 : Int32), fX6_openMany_4 fu op n y1 y2 = some rv → ∀ (H : Heap) (locs : List Loc) (ls : Array Slot), XW dd cy A s (wlR bd cy th ce sz wy op) H locs → lv_has ls 3 [(0, .ref (bd 0)), (1, .int y1), (2, .int y2)] → W p l e (headSpec wsX6_openMany { frames := 0, cells := 0, slots := 0, locals := 0 }).room s m args below meth c H locs 0 0 (MQ below (QX dd cy A (some (.int rv)) (wlR bd cy th ce sz wy op)) args s 0 0 A) (F0 m 4 ls []) := by
    intro n
    induction n with
    | zero => intro y1 y2 hf; exact absurd hf (by simp [fX6_openMany_4])
    | succ n ih =>
      intro y1 y2 hf H locs ls X hl
      rw [fX6_openMany_4] at hf
      refine lv_iload_n hx hb dX6_openMany_4 rfl (lv_at hl 2 rfl) ?_
      refine lv_sipush (v := (360 : Int32)) hx hb dX6_openMany_5 rfl ?_
      refine xr_icmp_ge (tgt := 34) hx hb dX6_openMany_8 rfl hf (fun hf => ?_) (fun hf => ?_)
      · refine lv_iload_n hx hb dX6_openMany_34 rfl (lv_at hl 1 rfl) ?_
        cases hf
        exact xe_i hx hb hr hlocks X dX6_openMany_35
      · refine lv_iload_n hx hb dX6_openMany_11 rfl (lv_at hl 1 rfl) ?_
        refine lv_aload_n hx hb dX6_openMany_12 rfl (lv_at hl 0 rfl) ?_
        refine xg_f hx hb hts hown X h6 0 wlR_0 rfl 4 (by decide) (by decide +kernel) (v := .ref (bd 4)) rfl dX6_openMany_13 ?_
        refine lv_iload_n hx hb dX6_openMany_16 rfl (lv_at hl 2 rfl) ?_
        refine xa_zald hx hb X 4 wlR_4 dX6_openMany_17 hf (fun v1 hf => ?_)
        refine xr_if_eq (tgt := 25) hx hb dX6_openMany_18 rfl hf (fun hf => ?_) (fun hf => ?_)
        · refine lv_iconst (v := (0 : Int32)) hx hb dX6_openMany_25 rfl ?_
          refine lv_iadd hx hb dX6_openMany_26 ?_
          refine lv_istore_n (lv' := [(1, .int (y1 + (0 : Int32))), (0, .ref (bd 0)), (2, .int y2)]) hx hb dX6_openMany_27 rfl hl (by decide) rfl (fun ls hl => ?_)
          refine lv_iinc (v := (y2 + 1)) (lv' := [(2, .int (y2 + 1)), (1, .int (y1 + (0 : Int32))), (0, .ref (bd 0))]) hx hb dX6_openMany_28 hl (k := 2) rfl ii_1 (by decide) rfl (fun ls hl => ?_)
          refine lv_goto (tgt := 4) hx hb dX6_openMany_31 rfl ?_
          exact ih (y1 + (0 : Int32)) (y2 + 1) hf _ _ _ X (lv_sub hl [2, 1, 0] rfl)
        · refine lv_iconst (v := (1 : Int32)) hx hb dX6_openMany_21 rfl ?_
          refine lv_goto (tgt := 26) hx hb dX6_openMany_22 rfl ?_
          refine lv_iadd hx hb dX6_openMany_26 ?_
          refine lv_istore_n (lv' := [(1, .int (y1 + (1 : Int32))), (0, .ref (bd 0)), (2, .int y2)]) hx hb dX6_openMany_27 rfl hl (by decide) rfl (fun ls hl => ?_)
          refine lv_iinc (v := (y2 + 1)) (lv' := [(2, .int (y2 + 1)), (1, .int (y1 + (1 : Int32))), (0, .ref (bd 0))]) hx hb dX6_openMany_28 hl (k := 2) rfl ii_1 (by decide) rfl (fun ls hl => ?_)
          refine lv_goto (tgt := 4) hx hb dX6_openMany_31 rfl ?_
          exact ih (y1 + (1 : Int32)) (y2 + 1) hf _ _ _ X (lv_sub hl [2, 1, 0] rfl)
  rw [fX6_openMany] at hf
  refine lv_iconst (v := (0 : Int32)) hx hb dX6_openMany_0 rfl ?_
  refine lv_istore_n (lv' := [(1, .int (0 : Int32)), (0, .ref (bd 0))]) hx hb dX6_openMany_1 rfl hl (by decide) rfl (fun ls hl => ?_)
  refine lv_iconst (v := (0 : Int32)) hx hb dX6_openMany_2 rfl ?_
  refine lv_istore_n (lv' := [(2, .int (0 : Int32)), (1, .int (0 : Int32)), (0, .ref (bd 0))]) hx hb dX6_openMany_3 rfl hl (by decide) rfl (fun ls hl => ?_)
  exact w4 fu (0 : Int32) (0 : Int32) hf _ _ _ X (lv_sub hl [2, 1, 0] rfl)
set_option maxRecDepth 100000 in
set_option maxHeartbeats 4000000 in
theorem mX6_isFree {l : Launch} {dd : va_G} {cy : Nat → ClassId} {bd : Nat → Nat} {A : Nat → Prop} {fu : Nat} {th : Int32} {ce : Nat → Int32} {sz : Nat → Int32} {wy : Nat → Int64} {op : Nat → Int32} {x1 : Int32} {rv : Int32} {tho : Int32} {opo : Nat → Int32} (hf : fX6_isFree fu th ce sz op x1 = some (rv, tho, opo)) : Met l yX6_isFree wsX6_isFree { frames := 4, cells := 0, slots := 0, locals := 102 } (va_Pc [.ref (bd 0), .int x1] (IW dd cy A (wlR bd cy th ce sz wy op))) (QX dd cy A (some (.int rv)) (wlR bd cy tho ce sz wy opo)) 0 0 A := by
  refine Met.ofW (cc := cX6_isFree) (maxL := 5) (ret := some .boolean) (by decide) rfl ?_
  intro p e s m args below meth c s₁ B hml hv
  obtain ⟨hav, hI⟩ := hv
  have hx := B.exec
  have hb := B.bytes
  have hr := B.returns
  have hts := atoms_spec (ws := wsX6_isFree) B.pre
  have hown : s.vm.findClass RX6 = some m.cls := findClass_of_methodNamed B.named
  have hlocks := B.notSynchronized
  have X := XW.of hI
  have h6 : ∀ w ∈ wsX60, w ∈ wsX6_isFree := by decide +kernel
  refine xe_in hav (Nat.le_of_ble_eq_true rfl) rfl (fun ls hl => ?_)
  have w116 : ∀ (y1 : Int32) (y3 : Int32) (k96 : Int32 → Int32 → Int32 → (Nat → Int32) → Option (Int32 × Int32 × (Nat → Int32))) (hk96 : ∀ (zy2 : Int32) (zy3 : Int32) (zth : Int32) (zop : Nat → Int32), k96 zy2 zy3 zth zop = some (rv, tho, opo) → ∀ (H : Heap) (locs : List Loc) (ls : Array Slot), XW dd cy A s (wlR bd cy zth ce sz wy zop) H locs → lv_has ls 5 [(0, .ref (bd 0)), (1, .int y1), (2, .int zy2), (3, .int zy3)] → W p l e (headSpec wsX6_isFree { frames := 4, cells := 0, slots := 0, locals := 102 }).room s m args below meth c H locs 0 0 (MQ below (QX dd cy A (some (.int rv)) (wlR bd cy tho ce sz wy opo)) args s 0 0 A) (F0 m 96 ls [])) (n : Nat) (y2 : Int32) (y4 : Int32) (th : Int32) (op : Nat → Int32), fX6_isFree_116 fu ce sz y1 y3 k96 n y2 y4 th op = some (rv, tho, opo) → ∀ (H : Heap) (locs : List Loc) (ls : Array Slot), XW dd cy A s (wlR bd cy th ce sz wy op) H locs → lv_has ls 5 [(0, .ref (bd 0)), (1, .int y1), (2, .int y2), (3, .int y3), (4, .int y4)] → W p l e (headSpec wsX6_isFree { frames := 4, cells := 0, slots := 0, locals := 102 }).room s m args below meth c H locs 0 0 (MQ below (QX dd cy A (some (.int rv)) (wlR bd cy tho ce sz wy opo)) args s 0 0 A) (F0 m 116 ls []) := by
    intro y1 y3 k96 hk96 n
    induction n with
    | zero => intro y2 y4 th op hf; exact absurd hf (by simp [fX6_isFree_116])
    | succ n ih =>
      intro y2 y4 th op hf H locs ls X hl
      rw [fX6_isFree_116] at hf
      refine lv_iload hx hb dX6_isFree_116 (lv_at hl 4 rfl) ?_
      refine lv_sipush (v := (360 : Int32)) hx hb dX6_isFree_118 rfl ?_
      refine xr_icmp_ge (tgt := 168) hx hb dX6_isFree_121 rfl hf (fun hf => ?_) (fun hf => ?_)
      · refine lv_goto (tgt := 96) hx hb dX6_isFree_168 rfl ?_
        exact hk96 y2 y3 th op hf _ _ _ X (lv_sub hl [0, 1, 2, 3] rfl)
      · refine lv_iload_n hx hb dX6_isFree_124 rfl (lv_at hl 2 rfl) ?_
        refine xr_if_ne (tgt := 156) hx hb dX6_isFree_125 rfl hf (fun hf => ?_) (fun hf => ?_)
        · refine lv_iconst (v := (1 : Int32)) hx hb dX6_isFree_156 rfl ?_
          refine lv_goto (tgt := 161) hx hb dX6_isFree_157 rfl ?_
          refine lv_istore_n (lv' := [(2, .int (1 : Int32)), (0, .ref (bd 0)), (1, .int y1), (3, .int y3), (4, .int y4)]) hx hb dX6_isFree_161 rfl hl (by decide) rfl (fun ls hl => ?_)
          refine lv_iinc (v := (y4 + 1)) (lv' := [(4, .int (y4 + 1)), (2, .int (1 : Int32)), (0, .ref (bd 0)), (1, .int y1), (3, .int y3)]) hx hb dX6_isFree_162 hl (k := 4) rfl ii_1 (by decide) rfl (fun ls hl => ?_)
          refine lv_goto (tgt := 116) hx hb dX6_isFree_165 rfl ?_
          exact ih (1 : Int32) (y4 + 1) th op hf _ _ _ X (lv_sub hl [2, 3, 1, 4, 0] rfl)
        · refine lv_aload_n hx hb dX6_isFree_128 rfl (lv_at hl 0 rfl) ?_
          refine xg_f hx hb hts hown X h6 0 wlR_0 rfl 4 (by decide) (by decide +kernel) (v := .ref (bd 4)) rfl dX6_isFree_129 ?_
          refine lv_iload hx hb dX6_isFree_132 (lv_at hl 4 rfl) ?_
          refine xa_zald hx hb X 4 wlR_4 dX6_isFree_134 hf (fun v5 hf => ?_)
          refine xr_if_eq (tgt := 160) hx hb dX6_isFree_135 rfl hf (fun hf => ?_) (fun hf => ?_)
          · refine lv_iconst (v := (0 : Int32)) hx hb dX6_isFree_160 rfl ?_
            refine lv_istore_n (lv' := [(2, .int (0 : Int32)), (0, .ref (bd 0)), (1, .int y1), (3, .int y3), (4, .int y4)]) hx hb dX6_isFree_161 rfl hl (by decide) rfl (fun ls hl => ?_)
            refine lv_iinc (v := (y4 + 1)) (lv' := [(4, .int (y4 + 1)), (2, .int (0 : Int32)), (0, .ref (bd 0)), (1, .int y1), (3, .int y3)]) hx hb dX6_isFree_162 hl (k := 4) rfl ii_1 (by decide) rfl (fun ls hl => ?_)
            refine lv_goto (tgt := 116) hx hb dX6_isFree_165 rfl ?_
            exact ih (0 : Int32) (y4 + 1) th op hf _ _ _ X (lv_sub hl [2, 3, 1, 4, 0] rfl)
          · refine lv_aload_n hx hb dX6_isFree_138 rfl (lv_at hl 0 rfl) ?_
            refine lv_iload_n hx hb dX6_isFree_139 rfl (lv_at hl 1 rfl) ?_
            refine lv_iload hx hb dX6_isFree_140 (lv_at hl 4 rfl) ?_
            refine lv_bipush (v := (60 : Int32)) hx hb dX6_isFree_142 rfl ?_
            refine xr_idiv hx hb dX6_isFree_144 hf (fun v6 hf => ?_)
            refine lv_iload hx hb dX6_isFree_145 (lv_at hl 4 rfl) ?_
            refine lv_bipush (v := (60 : Int32)) hx hb dX6_isFree_147 rfl ?_
            refine xr_irem hx hb dX6_isFree_149 hf (fun v7 hf => ?_)
            refine xb hf (fun v8 hv hf => ?_)
            refine xc_V1 (rest := []) ⟨hx, hb, hml, hown, hts⟩ (mX6_meetsAny hv) (cwV 3 hts gX6_isFree_X6_meetsAny rfl rfl rfl hqX6_meetsAny ⟨Nat.le_of_ble_eq_true rfl, Nat.le_of_ble_eq_true rfl⟩) X (va_recv X.1 X.2.1 (ci := 4) (q0 := 0) rfl wlR_0) rfl hl.1 rfl (Nat.le_of_ble_eq_true rfl) dX6_isFree_150 ⟨Nat.zero_le _, Nat.zero_le _⟩ (fun H locs X => ?_)
            refine xr_if_eq (tgt := 160) hx hb dX6_isFree_153 rfl hf (fun hf => ?_) (fun hf => ?_)
            · refine lv_iconst (v := (0 : Int32)) hx hb dX6_isFree_160 rfl ?_
              refine lv_istore_n (lv' := [(2, .int (0 : Int32)), (0, .ref (bd 0)), (1, .int y1), (3, .int y3), (4, .int y4)]) hx hb dX6_isFree_161 rfl hl (by decide) rfl (fun ls hl => ?_)
              refine lv_iinc (v := (y4 + 1)) (lv' := [(4, .int (y4 + 1)), (2, .int (0 : Int32)), (0, .ref (bd 0)), (1, .int y1), (3, .int y3)]) hx hb dX6_isFree_162 hl (k := 4) rfl ii_1 (by decide) rfl (fun ls hl => ?_)
              refine lv_goto (tgt := 116) hx hb dX6_isFree_165 rfl ?_
              exact ih (0 : Int32) (y4 + 1) th v8.2 hf _ _ _ X (lv_sub hl [2, 3, 1, 4, 0] rfl)
            · refine lv_iconst (v := (1 : Int32)) hx hb dX6_isFree_156 rfl ?_
              refine lv_goto (tgt := 161) hx hb dX6_isFree_157 rfl ?_
              refine lv_istore_n (lv' := [(2, .int (1 : Int32)), (0, .ref (bd 0)), (1, .int y1), (3, .int y3), (4, .int y4)]) hx hb dX6_isFree_161 rfl hl (by decide) rfl (fun ls hl => ?_)
              refine lv_iinc (v := (y4 + 1)) (lv' := [(4, .int (y4 + 1)), (2, .int (1 : Int32)), (0, .ref (bd 0)), (1, .int y1), (3, .int y3)]) hx hb dX6_isFree_162 hl (k := 4) rfl ii_1 (by decide) rfl (fun ls hl => ?_)
              refine lv_goto (tgt := 116) hx hb dX6_isFree_165 rfl ?_
              exact ih (1 : Int32) (y4 + 1) th v8.2 hf _ _ _ X (lv_sub hl [2, 3, 1, 4, 0] rfl)
  have w96 : ∀ (y1 : Int32) (n : Nat) (y2 : Int32) (y3 : Int32) (th : Int32) (op : Nat → Int32), fX6_isFree_96 fu ce sz y1 n y2 y3 th op = some (rv, tho, opo) → ∀ (H : Heap) (locs : List Loc) (ls : Array Slot), XW dd cy A s (wlR bd cy th ce sz wy op) H locs → lv_has ls 5 [(0, .ref (bd 0)), (1, .int y1), (2, .int y2), (3, .int y3)] → W p l e (headSpec wsX6_isFree { frames := 4, cells := 0, slots := 0, locals := 102 }).room s m args below meth c H locs 0 0 (MQ below (QX dd cy A (some (.int rv)) (wlR bd cy tho ce sz wy opo)) args s 0 0 A) (F0 m 96 ls []) := by
    intro y1 n
    induction n with
    | zero => intro y2 y3 th op hf; exact absurd hf (by simp [fX6_isFree_96])
    | succ n ih =>
      intro y2 y3 th op hf H locs ls X hl
      rw [fX6_isFree_96] at hf
      refine lv_iload_n hx hb dX6_isFree_96 rfl (lv_at hl 2 rfl) ?_
      refine xr_if_ne (tgt := 171) hx hb dX6_isFree_97 rfl hf (fun hf => ?_) (fun hf => ?_)
      · refine lv_iload_n hx hb dX6_isFree_171 rfl (lv_at hl 2 rfl) ?_
        refine xr_if_ne (tgt := 179) hx hb dX6_isFree_172 rfl hf (fun hf => ?_) (fun hf => ?_)
        · refine lv_iconst (v := (0 : Int32)) hx hb dX6_isFree_179 rfl ?_
          cases hf
          exact xe_z hx hb hr hlocks X rfl dX6_isFree_180
        · refine lv_iconst (v := (1 : Int32)) hx hb dX6_isFree_175 rfl ?_
          refine lv_goto (tgt := 180) hx hb dX6_isFree_176 rfl ?_
          cases hf
          exact xe_z hx hb hr hlocks X rfl dX6_isFree_180
      · refine lv_iload_n hx hb dX6_isFree_100 rfl (lv_at hl 3 rfl) ?_
        refine lv_aload_n hx hb dX6_isFree_101 rfl (lv_at hl 0 rfl) ?_
        refine xb hf (fun v3 hv hf => ?_)
        refine xc_V1 (rest := [.int y3]) ⟨hx, hb, hml, hown, hts⟩ (mX6_openMany hv) (cwV 0 hts gX6_isFree_X6_openMany rfl rfl rfl hqX6_openMany ⟨Nat.le_of_ble_eq_true rfl, Nat.le_of_ble_eq_true rfl⟩) X (va_recv X.1 X.2.1 (ci := 4) (q0 := 0) rfl wlR_0) rfl hl.1 rfl (Nat.le_of_ble_eq_true rfl) dX6_isFree_102 ⟨Nat.zero_le _, Nat.zero_le _⟩ (fun H locs X => ?_)
        refine xr_icmp_eq (tgt := 171) hx hb dX6_isFree_105 rfl hf (fun hf => ?_) (fun hf => ?_)
        · refine lv_iload_n hx hb dX6_isFree_171 rfl (lv_at hl 2 rfl) ?_
          refine xr_if_ne (tgt := 179) hx hb dX6_isFree_172 rfl hf (fun hf => ?_) (fun hf => ?_)
          · refine lv_iconst (v := (0 : Int32)) hx hb dX6_isFree_179 rfl ?_
            cases hf
            exact xe_z hx hb hr hlocks X rfl dX6_isFree_180
          · refine lv_iconst (v := (1 : Int32)) hx hb dX6_isFree_175 rfl ?_
            refine lv_goto (tgt := 180) hx hb dX6_isFree_176 rfl ?_
            cases hf
            exact xe_z hx hb hr hlocks X rfl dX6_isFree_180
        · refine lv_aload_n hx hb dX6_isFree_108 rfl (lv_at hl 0 rfl) ?_
          refine xb hf (fun v4 hv hf => ?_)
          refine xc_V1 (rest := []) ⟨hx, hb, hml, hown, hts⟩ (mX6_openMany hv) (cwV 0 hts gX6_isFree_X6_openMany rfl rfl rfl hqX6_openMany ⟨Nat.le_of_ble_eq_true rfl, Nat.le_of_ble_eq_true rfl⟩) X (va_recv X.1 X.2.1 (ci := 4) (q0 := 0) rfl wlR_0) rfl hl.1 rfl (Nat.le_of_ble_eq_true rfl) dX6_isFree_109 ⟨Nat.zero_le _, Nat.zero_le _⟩ (fun H locs X => ?_)
          refine lv_istore_n (lv' := [(3, .int v4), (0, .ref (bd 0)), (1, .int y1), (2, .int y2)]) hx hb dX6_isFree_112 rfl hl (by decide) rfl (fun ls hl => ?_)
          refine lv_iconst (v := (0 : Int32)) hx hb dX6_isFree_113 rfl ?_
          refine lv_istore (lv' := [(4, .int (0 : Int32)), (3, .int v4), (0, .ref (bd 0)), (1, .int y1), (2, .int y2)]) hx hb dX6_isFree_114 hl (by decide) rfl (fun ls hl => ?_)
          exact w116 y1 v4 _ ih fu y2 (0 : Int32) th op hf _ _ _ X (lv_sub hl [2, 3, 4, 1, 0] rfl)
  have w53 : ∀ (y1 : Int32) (n : Nat) (y2 : Int32) (y3 : Int32) (th : Int32) (op : Nat → Int32), fX6_isFree_53 fu ce sz y1 n y2 y3 th op = some (rv, tho, opo) → ∀ (H : Heap) (locs : List Loc) (ls : Array Slot), XW dd cy A s (wlR bd cy th ce sz wy op) H locs → lv_has ls 5 [(0, .ref (bd 0)), (1, .int y1), (2, .int y2), (3, .int y3)] → W p l e (headSpec wsX6_isFree { frames := 4, cells := 0, slots := 0, locals := 102 }).room s m args below meth c H locs 0 0 (MQ below (QX dd cy A (some (.int rv)) (wlR bd cy tho ce sz wy opo)) args s 0 0 A) (F0 m 53 ls []) := by
    intro y1 n
    induction n with
    | zero => intro y2 y3 th op hf; exact absurd hf (by simp [fX6_isFree_53])
    | succ n ih =>
      intro y2 y3 th op hf H locs ls X hl
      rw [fX6_isFree_53] at hf
      refine lv_iload_n hx hb dX6_isFree_53 rfl (lv_at hl 3 rfl) ?_
      refine lv_bipush (v := (6 : Int32)) hx hb dX6_isFree_54 rfl ?_
      refine xr_icmp_ge (tgt := 94) hx hb dX6_isFree_56 rfl hf (fun hf => ?_) (fun hf => ?_)
      · refine lv_iconst (v := (-1 : Int32)) hx hb dX6_isFree_94 rfl ?_
        refine lv_istore_n (lv' := [(3, .int (-1 : Int32)), (0, .ref (bd 0)), (1, .int y1), (2, .int y2)]) hx hb dX6_isFree_95 rfl hl (by decide) rfl (fun ls hl => ?_)
        exact w96 y1 fu y2 (-1 : Int32) th op hf _ _ _ X (lv_sub hl [1, 2, 3, 0] rfl)
      · refine lv_iload_n hx hb dX6_isFree_59 rfl (lv_at hl 2 rfl) ?_
        refine xr_if_ne (tgt := 82) hx hb dX6_isFree_60 rfl hf (fun hf => ?_) (fun hf => ?_)
        · refine lv_iconst (v := (1 : Int32)) hx hb dX6_isFree_82 rfl ?_
          refine lv_goto (tgt := 87) hx hb dX6_isFree_83 rfl ?_
          refine lv_istore_n (lv' := [(2, .int (1 : Int32)), (0, .ref (bd 0)), (1, .int y1), (3, .int y3)]) hx hb dX6_isFree_87 rfl hl (by decide) rfl (fun ls hl => ?_)
          refine lv_iinc (v := (y3 + 1)) (lv' := [(3, .int (y3 + 1)), (2, .int (1 : Int32)), (0, .ref (bd 0)), (1, .int y1)]) hx hb dX6_isFree_88 hl (k := 3) rfl ii_1 (by decide) rfl (fun ls hl => ?_)
          refine lv_goto (tgt := 53) hx hb dX6_isFree_91 rfl ?_
          exact ih (1 : Int32) (y3 + 1) th op hf _ _ _ X (lv_sub hl [2, 3, 1, 0] rfl)
        · refine lv_aload_n hx hb dX6_isFree_63 rfl (lv_at hl 0 rfl) ?_
          refine lv_iload_n hx hb dX6_isFree_64 rfl (lv_at hl 1 rfl) ?_
          refine lv_iload_n hx hb dX6_isFree_65 rfl (lv_at hl 3 rfl) ?_
          refine xb hf (fun v9 hv hf => ?_)
          refine xc_V1 (rest := []) ⟨hx, hb, hml, hown, hts⟩ (mX6_isOf hv) (cwV 2 hts gX6_isFree_X6_isOf rfl rfl rfl hqX6_isOf ⟨Nat.le_of_ble_eq_true rfl, Nat.le_of_ble_eq_true rfl⟩) X (va_recv X.1 X.2.1 (ci := 4) (q0 := 0) rfl wlR_0) rfl hl.1 rfl (Nat.le_of_ble_eq_true rfl) dX6_isFree_66 ⟨Nat.zero_le _, Nat.zero_le _⟩ (fun H locs X => ?_)
          refine xr_if_eq (tgt := 86) hx hb dX6_isFree_69 rfl hf (fun hf => ?_) (fun hf => ?_)
          · refine lv_iconst (v := (0 : Int32)) hx hb dX6_isFree_86 rfl ?_
            refine lv_istore_n (lv' := [(2, .int (0 : Int32)), (0, .ref (bd 0)), (1, .int y1), (3, .int y3)]) hx hb dX6_isFree_87 rfl hl (by decide) rfl (fun ls hl => ?_)
            refine lv_iinc (v := (y3 + 1)) (lv' := [(3, .int (y3 + 1)), (2, .int (0 : Int32)), (0, .ref (bd 0)), (1, .int y1)]) hx hb dX6_isFree_88 hl (k := 3) rfl ii_1 (by decide) rfl (fun ls hl => ?_)
            refine lv_goto (tgt := 53) hx hb dX6_isFree_91 rfl ?_
            exact ih (0 : Int32) (y3 + 1) th op hf _ _ _ X (lv_sub hl [2, 3, 1, 0] rfl)
          · refine lv_aload_n hx hb dX6_isFree_72 rfl (lv_at hl 0 rfl) ?_
            refine lv_iload_n hx hb dX6_isFree_73 rfl (lv_at hl 1 rfl) ?_
            refine lv_iload_n hx hb dX6_isFree_74 rfl (lv_at hl 3 rfl) ?_
            refine lv_iconst (v := (0 : Int32)) hx hb dX6_isFree_75 rfl ?_
            refine xb hf (fun v10 hv hf => ?_)
            refine xc_V1 (rest := []) ⟨hx, hb, hml, hown, hts⟩ (mX6_meetsAny hv) (cwV 3 hts gX6_isFree_X6_meetsAny rfl rfl rfl hqX6_meetsAny ⟨Nat.le_of_ble_eq_true rfl, Nat.le_of_ble_eq_true rfl⟩) X (va_recv X.1 X.2.1 (ci := 4) (q0 := 0) rfl wlR_0) rfl hl.1 rfl (Nat.le_of_ble_eq_true rfl) dX6_isFree_76 ⟨Nat.zero_le _, Nat.zero_le _⟩ (fun H locs X => ?_)
            refine xr_if_eq (tgt := 86) hx hb dX6_isFree_79 rfl hf (fun hf => ?_) (fun hf => ?_)
            · refine lv_iconst (v := (0 : Int32)) hx hb dX6_isFree_86 rfl ?_
              refine lv_istore_n (lv' := [(2, .int (0 : Int32)), (0, .ref (bd 0)), (1, .int y1), (3, .int y3)]) hx hb dX6_isFree_87 rfl hl (by decide) rfl (fun ls hl => ?_)
              refine lv_iinc (v := (y3 + 1)) (lv' := [(3, .int (y3 + 1)), (2, .int (0 : Int32)), (0, .ref (bd 0)), (1, .int y1)]) hx hb dX6_isFree_88 hl (k := 3) rfl ii_1 (by decide) rfl (fun ls hl => ?_)
              refine lv_goto (tgt := 53) hx hb dX6_isFree_91 rfl ?_
              exact ih (0 : Int32) (y3 + 1) th v10.2 hf _ _ _ X (lv_sub hl [2, 3, 1, 0] rfl)
            · refine lv_iconst (v := (1 : Int32)) hx hb dX6_isFree_82 rfl ?_
              refine lv_goto (tgt := 87) hx hb dX6_isFree_83 rfl ?_
              refine lv_istore_n (lv' := [(2, .int (1 : Int32)), (0, .ref (bd 0)), (1, .int y1), (3, .int y3)]) hx hb dX6_isFree_87 rfl hl (by decide) rfl (fun ls hl => ?_)
              refine lv_iinc (v := (y3 + 1)) (lv' := [(3, .int (y3 + 1)), (2, .int (1 : Int32)), (0, .ref (bd 0)), (1, .int y1)]) hx hb dX6_isFree_88 hl (k := 3) rfl ii_1 (by decide) rfl (fun ls hl => ?_)
              refine lv_goto (tgt := 53) hx hb dX6_isFree_91 rfl ?_
              exact ih (1 : Int32) (y3 + 1) th v10.2 hf _ _ _ X (lv_sub hl [2, 3, 1, 0] rfl)
  have w31 : ∀ (y1 : Int32) (y2 : Int32) (n : Nat) (y3 : Int32) (th : Int32) (op : Nat → Int32), fX6_isFree_31 fu ce sz y1 y2 n y3 th op = some (rv, tho, opo) → ∀ (H : Heap) (locs : List Loc) (ls : Array Slot), XW dd cy A s (wlR bd cy th ce sz wy op) H locs → lv_has ls 5 [(0, .ref (bd 0)), (1, .int y1), (2, .int y2), (3, .int y3)] → W p l e (headSpec wsX6_isFree { frames := 4, cells := 0, slots := 0, locals := 102 }).room s m args below meth c H locs 0 0 (MQ below (QX dd cy A (some (.int rv)) (wlR bd cy tho ce sz wy opo)) args s 0 0 A) (F0 m 31 ls []) := by
    intro y1 y2 n
    induction n with
    | zero => intro y3 th op hf; exact absurd hf (by simp [fX6_isFree_31])
    | succ n ih =>
      intro y3 th op hf H locs ls X hl
      rw [fX6_isFree_31] at hf
      refine lv_iload_n hx hb dX6_isFree_31 rfl (lv_at hl 3 rfl) ?_
      refine lv_sipush (v := (360 : Int32)) hx hb dX6_isFree_32 rfl ?_
      refine xr_icmp_ge (tgt := 51) hx hb dX6_isFree_35 rfl hf (fun hf => ?_) (fun hf => ?_)
      · refine lv_iconst (v := (0 : Int32)) hx hb dX6_isFree_51 rfl ?_
        refine lv_istore_n (lv' := [(3, .int (0 : Int32)), (0, .ref (bd 0)), (1, .int y1), (2, .int y2)]) hx hb dX6_isFree_52 rfl hl (by decide) rfl (fun ls hl => ?_)
        exact w53 y1 fu y2 (0 : Int32) th op hf _ _ _ X (lv_sub hl [1, 2, 3, 0] rfl)
      · refine lv_aload_n hx hb dX6_isFree_38 rfl (lv_at hl 0 rfl) ?_
        refine xg_f hx hb hts hown X h6 0 wlR_0 rfl 4 (by decide) (by decide +kernel) (v := .ref (bd 4)) rfl dX6_isFree_39 ?_
        refine lv_iload_n hx hb dX6_isFree_42 rfl (lv_at hl 3 rfl) ?_
        refine lv_iconst (v := (0 : Int32)) hx hb dX6_isFree_43 rfl ?_
        refine xa_zast hx hb X 4 wlR_4 wlR_s_op dX6_isFree_44 hf (fun g11 H locs hf X => ?_)
        refine lv_iinc (v := (y3 + 1)) (lv' := [(3, .int (y3 + 1)), (0, .ref (bd 0)), (1, .int y1), (2, .int y2)]) hx hb dX6_isFree_45 hl (k := 3) rfl ii_1 (by decide) rfl (fun ls hl => ?_)
        refine lv_goto (tgt := 31) hx hb dX6_isFree_48 rfl ?_
        exact ih (y3 + 1) th g11 hf _ _ _ X (lv_sub hl [1, 2, 3, 0] rfl)
  have w18 : ∀ (y1 : Int32) (s0 : Int32) (th : Int32) (op : Nat → Int32), fX6_isFree_18 fu ce sz y1 s0 th op = some (rv, tho, opo) → ∀ (H : Heap) (locs : List Loc) (ls : Array Slot), XW dd cy A s (wlR bd cy th ce sz wy op) H locs → lv_has ls 5 [(0, .ref (bd 0)), (1, .int y1)] → W p l e (headSpec wsX6_isFree { frames := 4, cells := 0, slots := 0, locals := 102 }).room s m args below meth c H locs 0 0 (MQ below (QX dd cy A (some (.int rv)) (wlR bd cy tho ce sz wy opo)) args s 0 0 A) (F0 m 18 ls [.int s0, .ref (bd 0)]) := by
    intro y1 s0 th op hf H locs ls X hl
    rw [fX6_isFree_18] at hf
    refine lv_iconst (v := (1 : Int32)) hx hb dX6_isFree_18 rfl ?_
    refine xb hf (fun v2 hv hf => ?_)
    refine xc_V1 (rest := []) ⟨hx, hb, hml, hown, hts⟩ (mX6_isThrown hv) (cwV 2 hts gX6_isFree_X6_isThrown rfl rfl rfl hqX6_isThrown ⟨Nat.le_of_ble_eq_true rfl, Nat.le_of_ble_eq_true rfl⟩) X (va_recv X.1 X.2.1 (ci := 4) (q0 := 0) rfl wlR_0) rfl hl.1 rfl (Nat.le_of_ble_eq_true rfl) dX6_isFree_19 ⟨Nat.zero_le _, Nat.zero_le _⟩ (fun H locs X => ?_)
    refine xr_if_eq (tgt := 27) hx hb dX6_isFree_22 rfl hf (fun hf => ?_) (fun hf => ?_)
    · refine lv_iconst (v := (0 : Int32)) hx hb dX6_isFree_27 rfl ?_
      refine lv_istore_n (lv' := [(2, .int (0 : Int32)), (0, .ref (bd 0)), (1, .int y1)]) hx hb dX6_isFree_28 rfl hl (by decide) rfl (fun ls hl => ?_)
      refine lv_iconst (v := (0 : Int32)) hx hb dX6_isFree_29 rfl ?_
      refine lv_istore_n (lv' := [(3, .int (0 : Int32)), (2, .int (0 : Int32)), (0, .ref (bd 0)), (1, .int y1)]) hx hb dX6_isFree_30 rfl hl (by decide) rfl (fun ls hl => ?_)
      exact w31 y1 (0 : Int32) fu (0 : Int32) v2.2 op hf _ _ _ X (lv_sub hl [2, 3, 1, 0] rfl)
    · refine lv_iconst (v := (0 : Int32)) hx hb dX6_isFree_25 rfl ?_
      cases hf
      exact xe_z hx hb hr hlocks X rfl dX6_isFree_26
  rw [fX6_isFree] at hf
  refine lv_aload_n hx hb dX6_isFree_0 rfl (lv_at hl 0 rfl) ?_
  refine lv_iload_n hx hb dX6_isFree_1 rfl (lv_at hl 1 rfl) ?_
  refine lv_i2l (v := (x1.toInt64)) hx hb dX6_isFree_2 rfl ?_
  refine lv_lconst (v := (0 : Int64)) hx hb dX6_isFree_3 rfl ?_
  refine lv_ldc2 (v := (63 : Int64)) hx hb hown (hts (.constantLong RX6 148 (63)) (by decide +kernel)) dX6_isFree_4 ?_
  refine xb hf (fun v1 hv hf => ?_)
  refine xc_S1 (rest := [.ref (bd 0)]) ⟨hx, hb, hml, hown, hts⟩ (mX6_isIn hv) (va_cwS 3 hts gX6_isFree_X6_isIn rfl rfl rfl hqX6_isIn ⟨Nat.le_of_ble_eq_true rfl, Nat.le_of_ble_eq_true rfl⟩) X rfl hl.1 rfl (Nat.le_of_ble_eq_true rfl) dX6_isFree_7 ⟨Nat.zero_le _, Nat.zero_le _⟩ (fun H locs X => ?_)
  refine xr_if_ne (tgt := 17) hx hb dX6_isFree_10 rfl hf (fun hf => ?_) (fun hf => ?_)
  · refine lv_iconst (v := (0 : Int32)) hx hb dX6_isFree_17 rfl ?_
    exact w18 x1 (0 : Int32) th op hf _ _ _ X (lv_sub hl [0, 1] rfl)
  · refine lv_iconst (v := (1 : Int32)) hx hb dX6_isFree_13 rfl ?_
    refine lv_goto (tgt := 18) hx hb dX6_isFree_14 rfl ?_
    exact w18 x1 (1 : Int32) th op hf _ _ _ X (lv_sub hl [0, 1] rfl)
set_option maxRecDepth 100000 in
set_option maxHeartbeats 4000000 in
theorem mX6_rootShare {l : Launch} {dd : va_G} {cy : Nat → ClassId} {bd : Nat → Nat} {A : Nat → Prop} {fu : Nat} {th : Int32} {ce : Nat → Int32} {sz : Nat → Int32} {wy : Nat → Int64} {op : Nat → Int32} {x1 : Int32} {rv : UInt32} {tho : Int32} (hf : fX6_rootShare fu th ce sz x1 = some (rv, tho)) : Met l yX6_rootShare wsX6_rootShare { frames := 3, cells := 0, slots := 0, locals := 71 } (va_Pc [.ref (bd 0), .int x1] (IW dd cy A (wlR bd cy th ce sz wy op))) (QX dd cy A (some (.float rv)) (wlR bd cy tho ce sz wy op)) 0 0 A := by
  refine Met.ofW (cc := cX6_rootShare) (maxL := 2) (ret := some .float) (by decide) rfl ?_
  intro p e s m args below meth c s₁ B hml hv
  obtain ⟨hav, hI⟩ := hv
  have hx := B.exec
  have hb := B.bytes
  have hr := B.returns
  have hts := atoms_spec (ws := wsX6_rootShare) B.pre
  have hown : s.vm.findClass RX6 = some m.cls := findClass_of_methodNamed B.named
  have hlocks := B.notSynchronized
  have X := XW.of hI
  have h6 : ∀ w ∈ wsX60, w ∈ wsX6_rootShare := by decide +kernel
  refine xe_in hav (Nat.le_of_ble_eq_true rfl) rfl (fun ls hl => ?_)
  have w23 : ∀ (y1 : Int32) (s0 : Int32) (th : Int32), fX6_rootShare_23 fu ce sz y1 s0 th = some (rv, tho) → ∀ (H : Heap) (locs : List Loc) (ls : Array Slot), XW dd cy A s (wlR bd cy th ce sz wy op) H locs → lv_has ls 2 [(0, .ref (bd 0)), (1, .int y1)] → W p l e (headSpec wsX6_rootShare { frames := 3, cells := 0, slots := 0, locals := 71 }).room s m args below meth c H locs 0 0 (MQ below (QX dd cy A (some (.float rv)) (wlR bd cy tho ce sz wy op)) args s 0 0 A) (F0 m 23 ls [.int s0, .ref (bd 0)]) := by
    intro y1 s0 th hf H locs ls X hl
    rw [fX6_rootShare_23] at hf
    refine lv_iconst (v := (2 : Int32)) hx hb dX6_rootShare_23 rfl ?_
    refine xb hf (fun v3 hv hf => ?_)
    refine xc_V1 (rest := []) ⟨hx, hb, hml, hown, hts⟩ (mX6_isThrown hv) (cwV 2 hts gX6_rootShare_X6_isThrown rfl rfl rfl hqX6_isThrown ⟨Nat.le_of_ble_eq_true rfl, Nat.le_of_ble_eq_true rfl⟩) X (va_recv X.1 X.2.1 (ci := 4) (q0 := 0) rfl wlR_0) rfl hl.1 rfl (Nat.le_of_ble_eq_true rfl) dX6_rootShare_24 ⟨Nat.zero_le _, Nat.zero_le _⟩ (fun H locs X => ?_)
    refine xr_if_eq (tgt := 32) hx hb dX6_rootShare_27 rfl hf (fun hf => ?_) (fun hf => ?_)
    · refine lv_aload_n hx hb dX6_rootShare_32 rfl (lv_at hl 0 rfl) ?_
      refine lv_iload_n hx hb dX6_rootShare_33 rfl (lv_at hl 1 rfl) ?_
      refine xb hf (fun v4 hv hf => ?_)
      refine xc_V1 (rest := []) ⟨hx, hb, hml, hown, hts⟩ (mX6_rootOf hv) (cwV 1 hts gX6_rootShare_X6_rootOf rfl rfl rfl hqX6_rootOf ⟨Nat.le_of_ble_eq_true rfl, Nat.le_of_ble_eq_true rfl⟩) X (va_recv X.1 X.2.1 (ci := 4) (q0 := 0) rfl wlR_0) rfl hl.1 rfl (Nat.le_of_ble_eq_true rfl) dX6_rootShare_34 ⟨Nat.zero_le _, Nat.zero_le _⟩ (fun H locs X => ?_)
      refine lv_i2f hx hb dX6_rootShare_37 ?_
      refine lv_aload_n hx hb dX6_rootShare_38 rfl (lv_at hl 0 rfl) ?_
      refine xg_f hx hb hts hown X h6 0 wlR_0 rfl 2 (by decide) (by decide +kernel) (v := .ref (bd 2)) rfl dX6_rootShare_39 ?_
      refine lv_iload_n hx hb dX6_rootShare_42 rfl (lv_at hl 1 rfl) ?_
      refine xa_iald hx hb X 2 wlR_2 dX6_rootShare_43 hf (fun v5 hf => ?_)
      refine lv_i2f hx hb dX6_rootShare_44 ?_
      refine xr_fdiv hx hb dX6_rootShare_45 hf (fun v6 hf => ?_)
      cases hf
      exact xe_f hx hb hr hlocks X dX6_rootShare_46
    · refine lv_fconst0 hx hb dX6_rootShare_30 ?_
      cases hf
      exact xe_f hx hb hr hlocks X dX6_rootShare_31
  rw [fX6_rootShare] at hf
  refine lv_aload_n hx hb dX6_rootShare_0 rfl (lv_at hl 0 rfl) ?_
  refine lv_iload_n hx hb dX6_rootShare_1 rfl (lv_at hl 1 rfl) ?_
  refine xb hf (fun v1 hv hf => ?_)
  refine xc_V1 (rest := []) ⟨hx, hb, hml, hown, hts⟩ (mX6_isNo hv) (cwV 1 hts gX6_rootShare_X6_isNo rfl rfl rfl hqX6_isNo ⟨Nat.le_of_ble_eq_true rfl, Nat.le_of_ble_eq_true rfl⟩) X (va_recv X.1 X.2.1 (ci := 4) (q0 := 0) rfl wlR_0) rfl hl.1 rfl (Nat.le_of_ble_eq_true rfl) dX6_rootShare_2 ⟨Nat.zero_le _, Nat.zero_le _⟩ (fun H locs X => ?_)
  refine xr_if_ne (tgt := 30) hx hb dX6_rootShare_5 rfl hf (fun hf => ?_) (fun hf => ?_)
  · refine lv_fconst0 hx hb dX6_rootShare_30 ?_
    cases hf
    exact xe_f hx hb hr hlocks X dX6_rootShare_31
  · refine lv_aload_n hx hb dX6_rootShare_8 rfl (lv_at hl 0 rfl) ?_
    refine lv_aload_n hx hb dX6_rootShare_9 rfl (lv_at hl 0 rfl) ?_
    refine xg_f hx hb hts hown X h6 0 wlR_0 rfl 2 (by decide) (by decide +kernel) (v := .ref (bd 2)) rfl dX6_rootShare_10 ?_
    refine lv_iload_n hx hb dX6_rootShare_13 rfl (lv_at hl 1 rfl) ?_
    refine xa_iald hx hb X 2 wlR_2 dX6_rootShare_14 hf (fun v2 hf => ?_)
    refine xr_if_ne (tgt := 22) hx hb dX6_rootShare_15 rfl hf (fun hf => ?_) (fun hf => ?_)
    · refine lv_iconst (v := (0 : Int32)) hx hb dX6_rootShare_22 rfl ?_
      exact w23 x1 (0 : Int32) v1.2 hf _ _ _ X (lv_sub hl [0, 1] rfl)
    · refine lv_iconst (v := (1 : Int32)) hx hb dX6_rootShare_18 rfl ?_
      refine lv_goto (tgt := 23) hx hb dX6_rootShare_19 rfl ?_
      exact w23 x1 (1 : Int32) v1.2 hf _ _ _ X (lv_sub hl [0, 1] rfl)
set_option maxRecDepth 100000 in
set_option maxHeartbeats 4000000 in
theorem mX6_meanPeriod {l : Launch} {dd : va_G} {cy : Nat → ClassId} {bd : Nat → Nat} {A : Nat → Prop} {fu : Nat} {th : Int32} {ce : Nat → Int32} {sz : Nat → Int32} {wy : Nat → Int64} {op : Nat → Int32} {x1 : Int32} {rv : UInt64} {tho : Int32} (hf : fX6_meanPeriod fu th ce sz x1 = some (rv, tho)) : Met l yX6_meanPeriod wsX6_meanPeriod { frames := 3, cells := 0, slots := 0, locals := 72 } (va_Pc [.ref (bd 0), .int x1] (IW dd cy A (wlR bd cy th ce sz wy op))) (QX dd cy A (some (.double rv)) (wlR bd cy tho ce sz wy op)) 0 0 A := by
  refine Met.ofW (cc := cX6_meanPeriod) (maxL := 4) (ret := some .double) (by decide) rfl ?_
  intro p e s m args below meth c s₁ B hml hv
  obtain ⟨hav, hI⟩ := hv
  have hx := B.exec
  have hb := B.bytes
  have hr := B.returns
  have hts := atoms_spec (ws := wsX6_meanPeriod) B.pre
  have hown : s.vm.findClass RX6 = some m.cls := findClass_of_methodNamed B.named
  have hlocks := B.notSynchronized
  have X := XW.of hI
  have h6 : ∀ w ∈ wsX60, w ∈ wsX6_meanPeriod := by decide +kernel
  refine xe_in hav (Nat.le_of_ble_eq_true rfl) rfl (fun ls hl => ?_)
  have w36 : ∀ (y1 : Int32) (n : Nat) (y2 : Int32) (y3 : Int32) (th : Int32), fX6_meanPeriod_36 fu ce sz y1 n y2 y3 th = some (rv, tho) → ∀ (H : Heap) (locs : List Loc) (ls : Array Slot), XW dd cy A s (wlR bd cy th ce sz wy op) H locs → lv_has ls 4 [(0, .ref (bd 0)), (1, .int y1), (2, .int y2), (3, .int y3)] → W p l e (headSpec wsX6_meanPeriod { frames := 3, cells := 0, slots := 0, locals := 72 }).room s m args below meth c H locs 0 0 (MQ below (QX dd cy A (some (.double rv)) (wlR bd cy tho ce sz wy op)) args s 0 0 A) (F0 m 36 ls []) := by
    intro y1 n
    induction n with
    | zero => intro y2 y3 th hf; exact absurd hf (by simp [fX6_meanPeriod_36])
    | succ n ih =>
      intro y2 y3 th hf H locs ls X hl
      rw [fX6_meanPeriod_36] at hf
      refine lv_iload_n hx hb dX6_meanPeriod_36 rfl (lv_at hl 3 rfl) ?_
      refine lv_aload_n hx hb dX6_meanPeriod_37 rfl (lv_at hl 0 rfl) ?_
      refine xg_f hx hb hts hown X h6 0 wlR_0 rfl 2 (by decide) (by decide +kernel) (v := .ref (bd 2)) rfl dX6_meanPeriod_38 ?_
      refine lv_iload_n hx hb dX6_meanPeriod_41 rfl (lv_at hl 1 rfl) ?_
      refine xa_iald hx hb X 2 wlR_2 dX6_meanPeriod_42 hf (fun v4 hf => ?_)
      refine xr_icmp_gt (tgt := 69) hx hb dX6_meanPeriod_43 rfl hf (fun hf => ?_) (fun hf => ?_)
      · refine lv_iload_n hx hb dX6_meanPeriod_69 rfl (lv_at hl 2 rfl) ?_
        refine lv_i2d hx hb dX6_meanPeriod_70 ?_
        refine lv_aload_n hx hb dX6_meanPeriod_71 rfl (lv_at hl 0 rfl) ?_
        refine lv_iload_n hx hb dX6_meanPeriod_72 rfl (lv_at hl 1 rfl) ?_
        refine xb hf (fun v5 hv hf => ?_)
        refine xc_V1 (rest := [.double (FP.i2d y2)]) ⟨hx, hb, hml, hown, hts⟩ (mX6_periodsOf hv) (cwV 1 hts gX6_meanPeriod_X6_periodsOf rfl rfl rfl hqX6_periodsOf ⟨Nat.le_of_ble_eq_true rfl, Nat.le_of_ble_eq_true rfl⟩) X (va_recv X.1 X.2.1 (ci := 4) (q0 := 0) rfl wlR_0) rfl hl.1 rfl (Nat.le_of_ble_eq_true rfl) dX6_meanPeriod_73 ⟨Nat.zero_le _, Nat.zero_le _⟩ (fun H locs X => ?_)
        refine lv_i2d hx hb dX6_meanPeriod_76 ?_
        refine xr_ddiv hx hb dX6_meanPeriod_77 hf (fun v6 hf => ?_)
        cases hf
        exact xe_d hx hb hr hlocks X dX6_meanPeriod_78
      · refine lv_iload_n hx hb dX6_meanPeriod_46 rfl (lv_at hl 2 rfl) ?_
        refine lv_aload_n hx hb dX6_meanPeriod_47 rfl (lv_at hl 0 rfl) ?_
        refine lv_iload_n hx hb dX6_meanPeriod_48 rfl (lv_at hl 1 rfl) ?_
        refine lv_iload_n hx hb dX6_meanPeriod_49 rfl (lv_at hl 3 rfl) ?_
        refine xb hf (fun v7 hv hf => ?_)
        refine xc_V1 (rest := [.int y2]) ⟨hx, hb, hml, hown, hts⟩ (mX6_isPeriod hv) (cwV 2 hts gX6_meanPeriod_X6_isPeriod rfl rfl rfl hqX6_isPeriod ⟨Nat.le_of_ble_eq_true rfl, Nat.le_of_ble_eq_true rfl⟩) X (va_recv X.1 X.2.1 (ci := 4) (q0 := 0) rfl wlR_0) rfl hl.1 rfl (Nat.le_of_ble_eq_true rfl) dX6_meanPeriod_50 ⟨Nat.zero_le _, Nat.zero_le _⟩ (fun H locs X => ?_)
        refine xr_if_eq (tgt := 60) hx hb dX6_meanPeriod_53 rfl hf (fun hf => ?_) (fun hf => ?_)
        · refine lv_iconst (v := (0 : Int32)) hx hb dX6_meanPeriod_60 rfl ?_
          refine lv_iadd hx hb dX6_meanPeriod_61 ?_
          refine lv_istore_n (lv' := [(2, .int (y2 + (0 : Int32))), (0, .ref (bd 0)), (1, .int y1), (3, .int y3)]) hx hb dX6_meanPeriod_62 rfl hl (by decide) rfl (fun ls hl => ?_)
          refine lv_iinc (v := (y3 + 1)) (lv' := [(3, .int (y3 + 1)), (2, .int (y2 + (0 : Int32))), (0, .ref (bd 0)), (1, .int y1)]) hx hb dX6_meanPeriod_63 hl (k := 3) rfl ii_1 (by decide) rfl (fun ls hl => ?_)
          refine lv_goto (tgt := 36) hx hb dX6_meanPeriod_66 rfl ?_
          exact ih (y2 + (0 : Int32)) (y3 + 1) th hf _ _ _ X (lv_sub hl [2, 3, 1, 0] rfl)
        · refine lv_iload_n hx hb dX6_meanPeriod_56 rfl (lv_at hl 3 rfl) ?_
          refine lv_goto (tgt := 61) hx hb dX6_meanPeriod_57 rfl ?_
          refine lv_iadd hx hb dX6_meanPeriod_61 ?_
          refine lv_istore_n (lv' := [(2, .int (y2 + y3)), (0, .ref (bd 0)), (1, .int y1), (3, .int y3)]) hx hb dX6_meanPeriod_62 rfl hl (by decide) rfl (fun ls hl => ?_)
          refine lv_iinc (v := (y3 + 1)) (lv' := [(3, .int (y3 + 1)), (2, .int (y2 + y3)), (0, .ref (bd 0)), (1, .int y1)]) hx hb dX6_meanPeriod_63 hl (k := 3) rfl ii_1 (by decide) rfl (fun ls hl => ?_)
          refine lv_goto (tgt := 36) hx hb dX6_meanPeriod_66 rfl ?_
          exact ih (y2 + y3) (y3 + 1) th hf _ _ _ X (lv_sub hl [2, 3, 1, 0] rfl)
  have w23 : ∀ (y1 : Int32) (s0 : Int32) (th : Int32), fX6_meanPeriod_23 fu ce sz y1 s0 th = some (rv, tho) → ∀ (H : Heap) (locs : List Loc) (ls : Array Slot), XW dd cy A s (wlR bd cy th ce sz wy op) H locs → lv_has ls 4 [(0, .ref (bd 0)), (1, .int y1)] → W p l e (headSpec wsX6_meanPeriod { frames := 3, cells := 0, slots := 0, locals := 72 }).room s m args below meth c H locs 0 0 (MQ below (QX dd cy A (some (.double rv)) (wlR bd cy tho ce sz wy op)) args s 0 0 A) (F0 m 23 ls [.int s0, .ref (bd 0)]) := by
    intro y1 s0 th hf H locs ls X hl
    rw [fX6_meanPeriod_23] at hf
    refine lv_iconst (v := (2 : Int32)) hx hb dX6_meanPeriod_23 rfl ?_
    refine xb hf (fun v3 hv hf => ?_)
    refine xc_V1 (rest := []) ⟨hx, hb, hml, hown, hts⟩ (mX6_isThrown hv) (cwV 2 hts gX6_meanPeriod_X6_isThrown rfl rfl rfl hqX6_isThrown ⟨Nat.le_of_ble_eq_true rfl, Nat.le_of_ble_eq_true rfl⟩) X (va_recv X.1 X.2.1 (ci := 4) (q0 := 0) rfl wlR_0) rfl hl.1 rfl (Nat.le_of_ble_eq_true rfl) dX6_meanPeriod_24 ⟨Nat.zero_le _, Nat.zero_le _⟩ (fun H locs X => ?_)
    refine xr_if_eq (tgt := 32) hx hb dX6_meanPeriod_27 rfl hf (fun hf => ?_) (fun hf => ?_)
    · refine lv_iconst (v := (0 : Int32)) hx hb dX6_meanPeriod_32 rfl ?_
      refine lv_istore_n (lv' := [(2, .int (0 : Int32)), (0, .ref (bd 0)), (1, .int y1)]) hx hb dX6_meanPeriod_33 rfl hl (by decide) rfl (fun ls hl => ?_)
      refine lv_iconst (v := (1 : Int32)) hx hb dX6_meanPeriod_34 rfl ?_
      refine lv_istore_n (lv' := [(3, .int (1 : Int32)), (2, .int (0 : Int32)), (0, .ref (bd 0)), (1, .int y1)]) hx hb dX6_meanPeriod_35 rfl hl (by decide) rfl (fun ls hl => ?_)
      exact w36 y1 fu (0 : Int32) (1 : Int32) v3.2 hf _ _ _ X (lv_sub hl [2, 3, 1, 0] rfl)
    · refine lv_dconst0 hx hb dX6_meanPeriod_30 ?_
      cases hf
      exact xe_d hx hb hr hlocks X dX6_meanPeriod_31
  rw [fX6_meanPeriod] at hf
  refine lv_aload_n hx hb dX6_meanPeriod_0 rfl (lv_at hl 0 rfl) ?_
  refine lv_iload_n hx hb dX6_meanPeriod_1 rfl (lv_at hl 1 rfl) ?_
  refine xb hf (fun v1 hv hf => ?_)
  refine xc_V1 (rest := []) ⟨hx, hb, hml, hown, hts⟩ (mX6_isNo hv) (cwV 1 hts gX6_meanPeriod_X6_isNo rfl rfl rfl hqX6_isNo ⟨Nat.le_of_ble_eq_true rfl, Nat.le_of_ble_eq_true rfl⟩) X (va_recv X.1 X.2.1 (ci := 4) (q0 := 0) rfl wlR_0) rfl hl.1 rfl (Nat.le_of_ble_eq_true rfl) dX6_meanPeriod_2 ⟨Nat.zero_le _, Nat.zero_le _⟩ (fun H locs X => ?_)
  refine xr_if_ne (tgt := 30) hx hb dX6_meanPeriod_5 rfl hf (fun hf => ?_) (fun hf => ?_)
  · refine lv_dconst0 hx hb dX6_meanPeriod_30 ?_
    cases hf
    exact xe_d hx hb hr hlocks X dX6_meanPeriod_31
  · refine lv_aload_n hx hb dX6_meanPeriod_8 rfl (lv_at hl 0 rfl) ?_
    refine lv_aload_n hx hb dX6_meanPeriod_9 rfl (lv_at hl 0 rfl) ?_
    refine xg_f hx hb hts hown X h6 0 wlR_0 rfl 2 (by decide) (by decide +kernel) (v := .ref (bd 2)) rfl dX6_meanPeriod_10 ?_
    refine lv_iload_n hx hb dX6_meanPeriod_13 rfl (lv_at hl 1 rfl) ?_
    refine xa_iald hx hb X 2 wlR_2 dX6_meanPeriod_14 hf (fun v2 hf => ?_)
    refine xr_if_ne (tgt := 22) hx hb dX6_meanPeriod_15 rfl hf (fun hf => ?_) (fun hf => ?_)
    · refine lv_iconst (v := (0 : Int32)) hx hb dX6_meanPeriod_22 rfl ?_
      exact w23 x1 (0 : Int32) v1.2 hf _ _ _ X (lv_sub hl [0, 1] rfl)
    · refine lv_iconst (v := (1 : Int32)) hx hb dX6_meanPeriod_18 rfl ?_
      refine lv_goto (tgt := 23) hx hb dX6_meanPeriod_19 rfl ?_
      exact w23 x1 (1 : Int32) v1.2 hf _ _ _ X (lv_sub hl [0, 1] rfl)
set_option maxRecDepth 100000 in
set_option maxHeartbeats 4000000 in
theorem mX6_checksum {l : Launch} {dd : va_G} {cy : Nat → ClassId} {bd : Nat → Nat} {A : Nat → Prop} {fu : Nat} {th : Int32} {ce : Nat → Int32} {sz : Nat → Int32} {wy : Nat → Int64} {op : Nat → Int32} {rv : Int64} {tho : Int32} (hf : fX6_checksum fu th ce sz = some (rv, tho)) : Met l yX6_checksum wsX6_checksum { frames := 3, cells := 0, slots := 0, locals := 72 } (va_Pc [.ref (bd 0)] (IW dd cy A (wlR bd cy th ce sz wy op))) (QX dd cy A (some (.long rv)) (wlR bd cy tho ce sz wy op)) 0 0 A := by
  refine Met.ofW (cc := cX6_checksum) (maxL := 4) (ret := some .long) (by decide) rfl ?_
  intro p e s m args below meth c s₁ B hml hv
  obtain ⟨hav, hI⟩ := hv
  have hx := B.exec
  have hb := B.bytes
  have hr := B.returns
  have hts := atoms_spec (ws := wsX6_checksum) B.pre
  have hown : s.vm.findClass RX6 = some m.cls := findClass_of_methodNamed B.named
  have hlocks := B.notSynchronized
  have X := XW.of hI
  have h6 : ∀ w ∈ wsX60, w ∈ wsX6_checksum := by decide +kernel
  refine xe_in hav (Nat.le_of_ble_eq_true rfl) rfl (fun ls hl => ?_)
  have w11 : ∀ (n : Nat) (y1 : Int64) (y3 : Int32) (th : Int32), fX6_checksum_11 fu ce sz n y1 y3 th = some (rv, tho) → ∀ (H : Heap) (locs : List Loc) (ls : Array Slot), XW dd cy A s (wlR bd cy th ce sz wy op) H locs → lv_has ls 4 [(0, .ref (bd 0)), (1, .long y1), (3, .int y3)] → W p l e (headSpec wsX6_checksum { frames := 3, cells := 0, slots := 0, locals := 72 }).room s m args below meth c H locs 0 0 (MQ below (QX dd cy A (some (.long rv)) (wlR bd cy tho ce sz wy op)) args s 0 0 A) (F0 m 11 ls []) := by
    intro n
    induction n with
    | zero => intro y1 y3 th hf; exact absurd hf (by simp [fX6_checksum_11])
    | succ n ih =>
      intro y1 y3 th hf H locs ls X hl
      rw [fX6_checksum_11] at hf
      refine lv_iload_n hx hb dX6_checksum_11 rfl (lv_at hl 2 rfl) ?_
      refine lv_bipush (v := (6 : Int32)) hx hb dX6_checksum_12 rfl ?_
      refine xr_icmp_ge (tgt := 64) hx hb dX6_checksum_14 rfl hf (fun hf => ?_) (fun hf => ?_)
      · refine lv_lload_n hx hb dX6_checksum_64 rfl (lv_at hl 1 rfl) ?_
        cases hf
        exact xe_l hx hb hr hlocks X dX6_checksum_65
      · refine lv_ldc2 (v := (31 : Int64)) hx hb hown (hts (.constantLong RX6 165 (31)) (by decide +kernel)) dX6_checksum_17 ?_
        refine lv_lload_n hx hb dX6_checksum_20 rfl (lv_at hl 1 rfl) ?_
        refine lv_lmul hx hb dX6_checksum_21 ?_
        refine lv_aload_n hx hb dX6_checksum_22 rfl (lv_at hl 0 rfl) ?_
        refine xg_f hx hb hts hown X h6 0 wlR_0 rfl 2 (by decide) (by decide +kernel) (v := .ref (bd 2)) rfl dX6_checksum_23 ?_
        refine lv_iload_n hx hb dX6_checksum_26 rfl (lv_at hl 2 rfl) ?_
        refine xa_iald hx hb X 2 wlR_2 dX6_checksum_27 hf (fun v1 hf => ?_)
        refine lv_i2l (v := (v1.toInt64)) hx hb dX6_checksum_28 rfl ?_
        refine lv_ladd hx hb dX6_checksum_29 ?_
        refine lv_lstore_n (lv' := [(1, .long (((31 : Int64) * y1) + (v1.toInt64))), (0, .ref (bd 0)), (3, .int y3)]) hx hb dX6_checksum_30 rfl hl (by decide) rfl (fun ls hl => ?_)
        refine lv_ldc2 (v := (31 : Int64)) hx hb hown (hts (.constantLong RX6 165 (31)) (by decide +kernel)) dX6_checksum_31 ?_
        refine lv_lload_n hx hb dX6_checksum_34 rfl (lv_at hl 0 rfl) ?_
        refine lv_lmul hx hb dX6_checksum_35 ?_
        refine lv_aload_n hx hb dX6_checksum_36 rfl (lv_at hl 1 rfl) ?_
        refine lv_iconst (v := (0 : Int32)) hx hb dX6_checksum_37 rfl ?_
        refine lv_iload_n hx hb dX6_checksum_38 rfl (lv_at hl 2 rfl) ?_
        refine xb hf (fun v2 hv hf => ?_)
        refine xc_V1 (rest := [.long ((31 : Int64) * (((31 : Int64) * y1) + (v1.toInt64)))]) ⟨hx, hb, hml, hown, hts⟩ (mX6_behind hv) (cwV 2 hts gX6_checksum_X6_behind rfl rfl rfl hqX6_behind ⟨Nat.le_of_ble_eq_true rfl, Nat.le_of_ble_eq_true rfl⟩) X (va_recv X.1 X.2.1 (ci := 4) (q0 := 0) rfl wlR_0) rfl hl.1 rfl (Nat.le_of_ble_eq_true rfl) dX6_checksum_39 ⟨Nat.zero_le _, Nat.zero_le _⟩ (fun H locs X => ?_)
        refine lv_i2l (v := (v2.toInt64)) hx hb dX6_checksum_42 rfl ?_
        refine lv_ladd hx hb dX6_checksum_43 ?_
        refine lv_lstore_n (lv' := [(1, .long (((31 : Int64) * (((31 : Int64) * y1) + (v1.toInt64))) + (v2.toInt64))), (0, .ref (bd 0)), (3, .int y3)]) hx hb dX6_checksum_44 rfl hl (by decide) rfl (fun ls hl => ?_)
        refine lv_ldc2 (v := (31 : Int64)) hx hb hown (hts (.constantLong RX6 165 (31)) (by decide +kernel)) dX6_checksum_45 ?_
        refine lv_lload_n hx hb dX6_checksum_48 rfl (lv_at hl 0 rfl) ?_
        refine lv_lmul hx hb dX6_checksum_49 ?_
        refine lv_aload_n hx hb dX6_checksum_50 rfl (lv_at hl 1 rfl) ?_
        refine lv_iload_n hx hb dX6_checksum_51 rfl (lv_at hl 2 rfl) ?_
        refine xb hf (fun v3 hv hf => ?_)
        refine xc_V1 (rest := [.long ((31 : Int64) * (((31 : Int64) * (((31 : Int64) * y1) + (v1.toInt64))) + (v2.toInt64)))]) ⟨hx, hb, hml, hown, hts⟩ (mX6_periodsOf hv) (cwV 1 hts gX6_checksum_X6_periodsOf rfl rfl rfl hqX6_periodsOf ⟨Nat.le_of_ble_eq_true rfl, Nat.le_of_ble_eq_true rfl⟩) X (va_recv X.1 X.2.1 (ci := 4) (q0 := 0) rfl wlR_0) rfl hl.1 rfl (Nat.le_of_ble_eq_true rfl) dX6_checksum_52 ⟨Nat.zero_le _, Nat.zero_le _⟩ (fun H locs X => ?_)
        refine lv_i2l (v := (v3.toInt64)) hx hb dX6_checksum_55 rfl ?_
        refine lv_ladd hx hb dX6_checksum_56 ?_
        refine lv_lstore_n (lv' := [(1, .long (((31 : Int64) * (((31 : Int64) * (((31 : Int64) * y1) + (v1.toInt64))) + (v2.toInt64))) + (v3.toInt64))), (0, .ref (bd 0)), (3, .int y3)]) hx hb dX6_checksum_57 rfl hl (by decide) rfl (fun ls hl => ?_)
        refine lv_iinc (v := (y3 + 1)) (lv' := [(3, .int (y3 + 1)), (1, .long (((31 : Int64) * (((31 : Int64) * (((31 : Int64) * y1) + (v1.toInt64))) + (v2.toInt64))) + (v3.toInt64))), (0, .ref (bd 0))]) hx hb dX6_checksum_58 hl (k := 2) rfl ii_1 (by decide) rfl (fun ls hl => ?_)
        refine lv_goto (tgt := 11) hx hb dX6_checksum_61 rfl ?_
        exact ih (((31 : Int64) * (((31 : Int64) * (((31 : Int64) * y1) + (v1.toInt64))) + (v2.toInt64))) + (v3.toInt64)) (y3 + 1) th hf _ _ _ X (lv_sub hl [2, 1, 0] rfl)
  rw [fX6_checksum] at hf
  refine lv_aload_n hx hb dX6_checksum_0 rfl (lv_at hl 0 rfl) ?_
  refine lv_iconst (v := (0 : Int32)) hx hb dX6_checksum_1 rfl ?_
  refine xp_f hx hb hts hown X h6 tyX6_ok nmX6 0 wlR_0 rfl 0 (by decide) rfl (by decide +kernel) (by decide +kernel) (Nat.le_of_ble_eq_true rfl) (wlR_s_th (0 : Int32)) dX6_checksum_2 (fun H locs X => ?_)
  refine lv_ldc2 (v := (7 : Int64)) hx hb hown (hts (.constantLong RX6 163 (7)) (by decide +kernel)) dX6_checksum_5 ?_
  refine lv_lstore_n (lv' := [(1, .long (7 : Int64)), (0, .ref (bd 0))]) hx hb dX6_checksum_8 rfl hl (by decide) rfl (fun ls hl => ?_)
  refine lv_iconst (v := (0 : Int32)) hx hb dX6_checksum_9 rfl ?_
  refine lv_istore_n (lv' := [(3, .int (0 : Int32)), (1, .long (7 : Int64)), (0, .ref (bd 0))]) hx hb dX6_checksum_10 rfl hl (by decide) rfl (fun ls hl => ?_)
  exact w11 fu (7 : Int64) (0 : Int32) (0 : Int32) hf _ _ _ X (lv_sub hl [2, 1, 0] rfl)
set_option maxRecDepth 100000 in
set_option maxHeartbeats 4000000 in
theorem mX6_isTrue {l : Launch} {dd : va_G} {cy : Nat → ClassId} {bd : Nat → Nat} {A : Nat → Prop} {th : Int32} {ce : Nat → Int32} {sz : Nat → Int32} {wy : Nat → Int64} {op : Nat → Int32} {rv : Int32} {tho : Int32} (hf : fX6_isTrue th = some (rv, tho)) : Met l yX6_isTrue wsX6_isTrue { frames := 0, cells := 0, slots := 0, locals := 0 } (va_Pc [.ref (bd 0)] (IW dd cy A (wlR bd cy th ce sz wy op))) (QX dd cy A (some (.int rv)) (wlR bd cy tho ce sz wy op)) 0 0 A := by
  refine Met.ofW (cc := cX6_isTrue) (maxL := 1) (ret := some .boolean) (by decide) rfl ?_
  intro p e s m args below meth c s₁ B hml hv
  obtain ⟨hav, hI⟩ := hv
  have hx := B.exec
  have hb := B.bytes
  have hr := B.returns
  have hts := atoms_spec (ws := wsX6_isTrue) B.pre
  have hown : s.vm.findClass RX6 = some m.cls := findClass_of_methodNamed B.named
  have hlocks := B.notSynchronized
  have X := XW.of hI
  have h6 : ∀ w ∈ wsX60, w ∈ wsX6_isTrue := by decide +kernel
  refine xe_in hav (Nat.le_of_ble_eq_true rfl) rfl (fun ls hl => ?_)
  rw [fX6_isTrue] at hf
  refine lv_aload_n hx hb dX6_isTrue_0 rfl (lv_at hl 0 rfl) ?_
  refine lv_iconst (v := (0 : Int32)) hx hb dX6_isTrue_1 rfl ?_
  refine xp_f hx hb hts hown X h6 tyX6_ok nmX6 0 wlR_0 rfl 0 (by decide) rfl (by decide +kernel) (by decide +kernel) (Nat.le_of_ble_eq_true rfl) (wlR_s_th (0 : Int32)) dX6_isTrue_2 (fun H locs X => ?_)
  refine lv_iconst (v := (1 : Int32)) hx hb dX6_isTrue_5 rfl ?_
  cases hf
  exact xe_z hx hb hr hlocks X rfl dX6_isTrue_6
