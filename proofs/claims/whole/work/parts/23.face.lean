set_option maxRecDepth 100000 in
set_option maxHeartbeats 4000000 in
theorem mX5_textOf {l : Launch} {dd : va_G} {cy : Nat → ClassId} {ad : Nat → Nat} {A : Nat → Prop} {ts : Nat → Int32} {tc : Nat → Nat → Int32} {rk : Nat → Int32} {pl : Nat → Int32} {ru : Nat → Int64} {sl : Nat → Int32} {bg : Nat → Int32} {kn : Nat → Int64} {rm : Int32} {ol : Nat → Int64} {od : Nat → UInt64} {x1 : Int32} {rv : Nat} (hf : fX5_textOf x1 = some (.ok rv)) : Met l yX5_textOf wsX5_textOf { frames := 0, cells := 0, slots := 0, locals := 0 } (va_Pc [.ref (ad 14), .int x1] (IW dd cy A (wlC ad cy ts tc rk pl ru sl bg kn rm ol od))) (QX dd cy A (some (.ref (ad rv))) (wlC ad cy ts tc rk pl ru sl bg kn rm ol od)) 0 0 A := by
  refine Met.ofW (cc := cX5_textOf) (maxL := 2) (ret := some (.object "Rootsong$Text")) (by decide) rfl ?_
  intro p e s m args below meth c s₁ B hml hv
  obtain ⟨hav, hI⟩ := hv
  have hx := B.exec
  have hb := B.bytes
  have hr := B.returns
  have hts := atoms_spec (ws := wsX5_textOf) B.pre
  have hown : s.vm.findClass RX5 = some m.cls := findClass_of_methodNamed B.named
  have hlocks := B.notSynchronized
  have X := XW.of hI
  have h5 : ∀ w ∈ wsX50, w ∈ wsX5_textOf := by decide +kernel
  refine xe_in hav (Nat.le_of_ble_eq_true rfl) rfl (fun ls hl => ?_)
  rw [fX5_textOf] at hf
  refine lv_iload_n hx hb dX5_textOf_0 rfl (lv_at hl 1 rfl) ?_
  refine xr_if_lt (tgt := 10) hx hb dX5_textOf_1 rfl hf (fun hf => ?_) (fun hf => ?_)
  · cases hf
  · refine lv_iload_n hx hb dX5_textOf_4 rfl (lv_at hl 1 rfl) ?_
    refine lv_bipush (v := (6 : Int32)) hx hb dX5_textOf_5 rfl ?_
    refine xr_icmp_lt (tgt := 20) hx hb dX5_textOf_7 rfl hf (fun hf => ?_) (fun hf => ?_)
    · refine lv_aload_n hx hb dX5_textOf_20 rfl (lv_at hl 0 rfl) ?_
      refine xg_f hx hb hts hown X h5 14 wlC_14 rfl 0 (by decide) (by decide +kernel) (v := .ref (ad 15)) rfl dX5_textOf_21 ?_
      refine lv_iload_n hx hb dX5_textOf_24 rfl (lv_at hl 1 rfl) ?_
      refine xa_text hx hb X wlC_15 dX5_textOf_25 hf (fun a1 ha1 hf => ?_)
      cases hf
      exact xe_a hx hb hr hlocks X dX5_textOf_26
    · cases hf
set_option maxRecDepth 100000 in
set_option maxHeartbeats 4000000 in
theorem eX5_textOf {l : Launch} {dd : va_G} {cy : Nat → ClassId} {ad : Nat → Nat} {A : Nat → Prop} {ts : Nat → Int32} {tc : Nat → Nat → Int32} {rk : Nat → Int32} {pl : Nat → Int32} {ru : Nat → Int64} {sl : Nat → Int32} {bg : Nat → Int32} {kn : Nat → Int64} {rm : Int32} {ol : Nat → Int64} {od : Nat → UInt64} {x1 : Int32} {E9 : String} (htr : l.stackTraces = false) (hf : fX5_textOf x1 = some (.error E9)) : vx_Met l yX5_textOf wsX5_textOf { frames := 6, cells := 1, slots := 6, locals := 100 } (va_Pc [.ref (ad 14), .int x1] (IT dd cy A (wlC ad cy ts tc rk pl ru sl bg kn rm ol od))) (fun _ _ _ _ => False) (XE dd cy A E9 (wlC ad cy ts tc rk pl ru sl bg kn rm ol od)) 1 6 A := by
  refine vx_ofW (cc := cX5_textOf) (maxL := 2) (ret := some (.object "Rootsong$Text")) (by decide) rfl ?_
  intro p e s m args below meth c s₁ B hml hexc hv
  obtain ⟨hav, hI, hT⟩ := hv
  have hx := B.exec
  have hb := B.bytes
  have hr := B.returns
  have hts := atoms_spec (ws := wsX5_textOf) B.pre
  have hown : s.vm.findClass RX5 = some m.cls := findClass_of_methodNamed B.named
  have hlocks := B.notSynchronized
  have X := XW.of hI
  have h5 : ∀ w ∈ wsX50, w ∈ wsX5_textOf := by decide +kernel
  refine xe_in hav (Nat.le_of_ble_eq_true rfl) rfl (fun ls hl => ?_)
  rw [fX5_textOf] at hf
  refine lv_iload_n hx hb dX5_textOf_0 rfl (lv_at hl 1 rfl) ?_
  refine xr_if_lt (tgt := 10) hx hb dX5_textOf_1 rfl hf (fun hf => ?_) (fun hf => ?_)
  · cases hf
    exact xt_throw (rest := []) (text := "no such slot") hx hb htr hown hts hT X (by decide +kernel) (by decide +kernel) (by decide +kernel) (by decide +kernel) (by decide +kernel) (by decide +kernel) th_hn_93 th_hot_89_93 (hl.1.trans hml.symm) dX5_textOf_10 dX5_textOf_13 dX5_textOf_14 dX5_textOf_16 dX5_textOf_19 hexc (Nat.le_of_ble_eq_true rfl) (Nat.le_of_ble_eq_true rfl) (Nat.le_of_ble_eq_true rfl) (Nat.le_of_ble_eq_true rfl) hlocks
  · refine lv_iload_n hx hb dX5_textOf_4 rfl (lv_at hl 1 rfl) ?_
    refine lv_bipush (v := (6 : Int32)) hx hb dX5_textOf_5 rfl ?_
    refine xr_icmp_lt (tgt := 20) hx hb dX5_textOf_7 rfl hf (fun hf => ?_) (fun hf => ?_)
    · refine lv_aload_n hx hb dX5_textOf_20 rfl (lv_at hl 0 rfl) ?_
      refine xg_f hx hb hts hown X h5 14 wlC_14 rfl 0 (by decide) (by decide +kernel) (v := .ref (ad 15)) rfl dX5_textOf_21 ?_
      refine lv_iload_n hx hb dX5_textOf_24 rfl (lv_at hl 1 rfl) ?_
      refine xa_text hx hb X wlC_15 dX5_textOf_25 hf (fun a1 ha1 hf => ?_)
      cases hf
    · cases hf
      exact xt_throw (rest := []) (text := "no such slot") hx hb htr hown hts hT X (by decide +kernel) (by decide +kernel) (by decide +kernel) (by decide +kernel) (by decide +kernel) (by decide +kernel) th_hn_93 th_hot_89_93 (hl.1.trans hml.symm) dX5_textOf_10 dX5_textOf_13 dX5_textOf_14 dX5_textOf_16 dX5_textOf_19 hexc (Nat.le_of_ble_eq_true rfl) (Nat.le_of_ble_eq_true rfl) (Nat.le_of_ble_eq_true rfl) (Nat.le_of_ble_eq_true rfl) hlocks
set_option maxRecDepth 100000 in
set_option maxHeartbeats 4000000 in
theorem mX5_requireSign {l : Launch} {dd : va_G} {cy : Nat → ClassId} {ad : Nat → Nat} {A : Nat → Prop} {ts : Nat → Int32} {tc : Nat → Nat → Int32} {rk : Nat → Int32} {pl : Nat → Int32} {ru : Nat → Int64} {sl : Nat → Int32} {bg : Nat → Int32} {kn : Nat → Int64} {rm : Int32} {ol : Nat → Int64} {od : Nat → UInt64} {x0 : Int32} (hf : fX5_requireSign x0 = some (.ok ())) : Met l yX5_requireSign wsX5_requireSign { frames := 0, cells := 0, slots := 0, locals := 0 } (va_Pc [.int x0] (IW dd cy A (wlC ad cy ts tc rk pl ru sl bg kn rm ol od))) (QX dd cy A none (wlC ad cy ts tc rk pl ru sl bg kn rm ol od)) 0 0 A := by
  refine Met.ofW (cc := cX5_requireSign) (maxL := 1) (ret := none) (by decide) rfl ?_
  intro p e s m args below meth c s₁ B hml hv
  obtain ⟨hav, hI⟩ := hv
  have hx := B.exec
  have hb := B.bytes
  have hr := B.returns
  have hts := atoms_spec (ws := wsX5_requireSign) B.pre
  have hown : s.vm.findClass RX5 = some m.cls := findClass_of_methodNamed B.named
  have hlocks := B.notSynchronized
  have X := XW.of hI
  refine xe_in hav (Nat.le_of_ble_eq_true rfl) rfl (fun ls hl => ?_)
  rw [fX5_requireSign] at hf
  refine lv_iload_n hx hb dX5_requireSign_0 rfl (lv_at hl 0 rfl) ?_
  refine lv_bipush (v := (32 : Int32)) hx hb dX5_requireSign_1 rfl ?_
  refine xr_icmp_lt (tgt := 12) hx hb dX5_requireSign_3 rfl hf (fun hf => ?_) (fun hf => ?_)
  · cases hf
  · refine lv_iload_n hx hb dX5_requireSign_6 rfl (lv_at hl 0 rfl) ?_
    refine lv_bipush (v := (126 : Int32)) hx hb dX5_requireSign_7 rfl ?_
    refine xr_icmp_le (tgt := 22) hx hb dX5_requireSign_9 rfl hf (fun hf => ?_) (fun hf => ?_)
    · cases hf
      exact xe_v hx hb hr hlocks X dX5_requireSign_22
    · cases hf
set_option maxRecDepth 100000 in
set_option maxHeartbeats 4000000 in
theorem eX5_requireSign {l : Launch} {dd : va_G} {cy : Nat → ClassId} {ad : Nat → Nat} {A : Nat → Prop} {ts : Nat → Int32} {tc : Nat → Nat → Int32} {rk : Nat → Int32} {pl : Nat → Int32} {ru : Nat → Int64} {sl : Nat → Int32} {bg : Nat → Int32} {kn : Nat → Int64} {rm : Int32} {ol : Nat → Int64} {od : Nat → UInt64} {x0 : Int32} {E9 : String} (htr : l.stackTraces = false) (hf : fX5_requireSign x0 = some (.error E9)) : vx_Met l yX5_requireSign wsX5_requireSign { frames := 6, cells := 1, slots := 6, locals := 100 } (va_Pc [.int x0] (IT dd cy A (wlC ad cy ts tc rk pl ru sl bg kn rm ol od))) (fun _ _ _ _ => False) (XE dd cy A E9 (wlC ad cy ts tc rk pl ru sl bg kn rm ol od)) 1 6 A := by
  refine vx_ofW (cc := cX5_requireSign) (maxL := 1) (ret := none) (by decide) rfl ?_
  intro p e s m args below meth c s₁ B hml hexc hv
  obtain ⟨hav, hI, hT⟩ := hv
  have hx := B.exec
  have hb := B.bytes
  have hr := B.returns
  have hts := atoms_spec (ws := wsX5_requireSign) B.pre
  have hown : s.vm.findClass RX5 = some m.cls := findClass_of_methodNamed B.named
  have hlocks := B.notSynchronized
  have X := XW.of hI
  refine xe_in hav (Nat.le_of_ble_eq_true rfl) rfl (fun ls hl => ?_)
  rw [fX5_requireSign] at hf
  refine lv_iload_n hx hb dX5_requireSign_0 rfl (lv_at hl 0 rfl) ?_
  refine lv_bipush (v := (32 : Int32)) hx hb dX5_requireSign_1 rfl ?_
  refine xr_icmp_lt (tgt := 12) hx hb dX5_requireSign_3 rfl hf (fun hf => ?_) (fun hf => ?_)
  · cases hf
    exact xt_throw (rest := []) (text := "a sign's code is not 32 to 126") hx hb htr hown hts hT X (by decide +kernel) (by decide +kernel) (by decide +kernel) (by decide +kernel) (by decide +kernel) (by decide +kernel) th_hn_57 th_hot_53_57 (hl.1.trans hml.symm) dX5_requireSign_12 dX5_requireSign_15 dX5_requireSign_16 dX5_requireSign_18 dX5_requireSign_21 hexc (Nat.le_of_ble_eq_true rfl) (Nat.le_of_ble_eq_true rfl) (Nat.le_of_ble_eq_true rfl) (Nat.le_of_ble_eq_true rfl) hlocks
  · refine lv_iload_n hx hb dX5_requireSign_6 rfl (lv_at hl 0 rfl) ?_
    refine lv_bipush (v := (126 : Int32)) hx hb dX5_requireSign_7 rfl ?_
    refine xr_icmp_le (tgt := 22) hx hb dX5_requireSign_9 rfl hf (fun hf => ?_) (fun hf => ?_)
    · cases hf
    · cases hf
      exact xt_throw (rest := []) (text := "a sign's code is not 32 to 126") hx hb htr hown hts hT X (by decide +kernel) (by decide +kernel) (by decide +kernel) (by decide +kernel) (by decide +kernel) (by decide +kernel) th_hn_57 th_hot_53_57 (hl.1.trans hml.symm) dX5_requireSign_12 dX5_requireSign_15 dX5_requireSign_16 dX5_requireSign_18 dX5_requireSign_21 hexc (Nat.le_of_ble_eq_true rfl) (Nat.le_of_ble_eq_true rfl) (Nat.le_of_ble_eq_true rfl) (Nat.le_of_ble_eq_true rfl) hlocks
set_option maxRecDepth 100000 in
set_option maxHeartbeats 4000000 in
theorem mX5_requireRoom {l : Launch} {dd : va_G} {cy : Nat → ClassId} {ad : Nat → Nat} {A : Nat → Prop} {ts : Nat → Int32} {tc : Nat → Nat → Int32} {rk : Nat → Int32} {pl : Nat → Int32} {ru : Nat → Int64} {sl : Nat → Int32} {bg : Nat → Int32} {kn : Nat → Int64} {rm : Int32} {ol : Nat → Int64} {od : Nat → UInt64} {x0 : Int64} (hf : fX5_requireRoom x0 = some (.ok ())) : Met l yX5_requireRoom wsX5_requireRoom { frames := 0, cells := 0, slots := 0, locals := 0 } (va_Pc [.long x0] (IW dd cy A (wlC ad cy ts tc rk pl ru sl bg kn rm ol od))) (QX dd cy A none (wlC ad cy ts tc rk pl ru sl bg kn rm ol od)) 0 0 A := by
  refine Met.ofW (cc := cX5_requireRoom) (maxL := 2) (ret := none) (by decide) rfl ?_
  intro p e s m args below meth c s₁ B hml hv
  obtain ⟨hav, hI⟩ := hv
  have hx := B.exec
  have hb := B.bytes
  have hr := B.returns
  have hts := atoms_spec (ws := wsX5_requireRoom) B.pre
  have hown : s.vm.findClass RX5 = some m.cls := findClass_of_methodNamed B.named
  have hlocks := B.notSynchronized
  have X := XW.of hI
  refine xe_in hav (Nat.le_of_ble_eq_true rfl) rfl (fun ls hl => ?_)
  rw [fX5_requireRoom] at hf
  refine lv_lload_n hx hb dX5_requireRoom_0 rfl (lv_at hl 0 rfl) ?_
  refine lv_ldc2 (v := (60 : Int64)) hx hb hown (hts (.constantLong RX5 250 (60)) (by decide +kernel)) dX5_requireRoom_1 ?_
  refine W.lcmp hx hb dX5_requireRoom_4 ?_
  refine xr_if_le (tgt := 18) hx hb dX5_requireRoom_5 rfl hf (fun hf => ?_) (fun hf => ?_)
  · cases hf
    exact xe_v hx hb hr hlocks X dX5_requireRoom_18
  · cases hf
set_option maxRecDepth 100000 in
set_option maxHeartbeats 4000000 in
theorem eX5_requireRoom {l : Launch} {dd : va_G} {cy : Nat → ClassId} {ad : Nat → Nat} {A : Nat → Prop} {ts : Nat → Int32} {tc : Nat → Nat → Int32} {rk : Nat → Int32} {pl : Nat → Int32} {ru : Nat → Int64} {sl : Nat → Int32} {bg : Nat → Int32} {kn : Nat → Int64} {rm : Int32} {ol : Nat → Int64} {od : Nat → UInt64} {x0 : Int64} {E9 : String} (htr : l.stackTraces = false) (hf : fX5_requireRoom x0 = some (.error E9)) : vx_Met l yX5_requireRoom wsX5_requireRoom { frames := 6, cells := 1, slots := 6, locals := 100 } (va_Pc [.long x0] (IT dd cy A (wlC ad cy ts tc rk pl ru sl bg kn rm ol od))) (fun _ _ _ _ => False) (XE dd cy A E9 (wlC ad cy ts tc rk pl ru sl bg kn rm ol od)) 1 6 A := by
  refine vx_ofW (cc := cX5_requireRoom) (maxL := 2) (ret := none) (by decide) rfl ?_
  intro p e s m args below meth c s₁ B hml hexc hv
  obtain ⟨hav, hI, hT⟩ := hv
  have hx := B.exec
  have hb := B.bytes
  have hr := B.returns
  have hts := atoms_spec (ws := wsX5_requireRoom) B.pre
  have hown : s.vm.findClass RX5 = some m.cls := findClass_of_methodNamed B.named
  have hlocks := B.notSynchronized
  have X := XW.of hI
  refine xe_in hav (Nat.le_of_ble_eq_true rfl) rfl (fun ls hl => ?_)
  rw [fX5_requireRoom] at hf
  refine lv_lload_n hx hb dX5_requireRoom_0 rfl (lv_at hl 0 rfl) ?_
  refine lv_ldc2 (v := (60 : Int64)) hx hb hown (hts (.constantLong RX5 250 (60)) (by decide +kernel)) dX5_requireRoom_1 ?_
  refine W.lcmp hx hb dX5_requireRoom_4 ?_
  refine xr_if_le (tgt := 18) hx hb dX5_requireRoom_5 rfl hf (fun hf => ?_) (fun hf => ?_)
  · cases hf
  · cases hf
    exact xt_throw (rest := []) (text := "more than 60 signs") hx hb htr hown hts hT X (by decide +kernel) (by decide +kernel) (by decide +kernel) (by decide +kernel) (by decide +kernel) (by decide +kernel) th_hn_256 th_hot_252_256 (hl.1.trans hml.symm) dX5_requireRoom_8 dX5_requireRoom_11 dX5_requireRoom_12 dX5_requireRoom_14 dX5_requireRoom_17 hexc (Nat.le_of_ble_eq_true rfl) (Nat.le_of_ble_eq_true rfl) (Nat.le_of_ble_eq_true rfl) (Nat.le_of_ble_eq_true rfl) hlocks
set_option maxRecDepth 100000 in
set_option maxHeartbeats 4000000 in
theorem mX5_type {l : Launch} {dd : va_G} {cy : Nat → ClassId} {ad : Nat → Nat} {A : Nat → Prop} {ts : Nat → Int32} {tc : Nat → Nat → Int32} {rk : Nat → Int32} {pl : Nat → Int32} {ru : Nat → Int64} {sl : Nat → Int32} {bg : Nat → Int32} {kn : Nat → Int64} {rm : Int32} {ol : Nat → Int64} {od : Nat → UInt64} {x1 : Int32} {x2 : Int32} {rv : Int32} {tso : Nat → Int32} {tco : Nat → Nat → Int32} (hf : fX5_type ts tc x1 x2 = some (.ok rv, tso, tco)) : Met l yX5_type wsX5_type { frames := 1, cells := 0, slots := 0, locals := 21 } (va_Pc [.ref (ad 14), .int x1, .int x2] (IW dd cy A (wlC ad cy ts tc rk pl ru sl bg kn rm ol od))) (QX dd cy A (some (.int rv)) (wlC ad cy tso tco rk pl ru sl bg kn rm ol od)) 0 0 A := by
  refine Met.ofW (cc := cX5_type) (maxL := 4) (ret := some .int) (by decide) rfl ?_
  intro p e s m args below meth c s₁ B hml hv
  obtain ⟨hav, hI⟩ := hv
  have hx := B.exec
  have hb := B.bytes
  have hr := B.returns
  have hts := atoms_spec (ws := wsX5_type) B.pre
  have hown : s.vm.findClass RX5 = some m.cls := findClass_of_methodNamed B.named
  have hlocks := B.notSynchronized
  have X := XW.of hI
  refine xe_in hav (Nat.le_of_ble_eq_true rfl) rfl (fun ls hl => ?_)
  rw [fX5_type] at hf
  refine lv_aload_n hx hb dX5_type_0 rfl (lv_at hl 0 rfl) ?_
  refine lv_iload_n hx hb dX5_type_1 rfl (lv_at hl 1 rfl) ?_
  refine xb hf (fun v1 hv1 hf => ?_)
  refine exb_c hf (fun e9 h9 hf => ?_) (fun r2 h9 hf => ?_)
  · cases hf
  · have hr2 : r2 < 7 := fX5_textOf_lt (exo_s hv1 h9)
    refine xc_V1 (rest := []) ⟨hx, hb, hml, hown, hts⟩ (mX5_textOf (exo_s hv1 h9)) (cwV 1 hts gX5_type_X5_textOf rfl rfl rfl hqX5_textOf ⟨Nat.le_of_ble_eq_true rfl, Nat.le_of_ble_eq_true rfl⟩) X (va_recv X.1 X.2.1 (ci := 1) (q0 := 14) rfl wlC_14) rfl hl.1 rfl (Nat.le_of_ble_eq_true rfl) dX5_type_2 ⟨Nat.zero_le _, Nat.zero_le _⟩ (fun H locs X => ?_)
    refine lv_astore_n (lv' := [(3, .ref (ad r2)), (0, .ref (ad 14)), (1, .int x1), (2, .int x2)]) hx hb dX5_type_5 rfl hl (by decide) rfl (fun ls hl => ?_)
    refine lv_iload_n hx hb dX5_type_6 rfl (lv_at hl 3 rfl) ?_
    refine xb hf (fun v3 hv3 hf => ?_)
    refine exb_c hf (fun e9 h9 hf => ?_) (fun r4 h9 hf => ?_)
    · cases hf
    · refine xc_S0 (rest := []) ⟨hx, hb, hml, hown, hts⟩ (mX5_requireSign (exo_s hv3 h9)) (va_cwS 1 hts gX5_type_X5_requireSign rfl rfl rfl hqX5_requireSign ⟨Nat.le_of_ble_eq_true rfl, Nat.le_of_ble_eq_true rfl⟩) X rfl hl.1 rfl (Nat.le_of_ble_eq_true rfl) dX5_type_7 ⟨Nat.zero_le _, Nat.zero_le _⟩ (fun H locs X => ?_)
      refine lv_aload_n hx hb dX5_type_10 rfl (lv_at hl 0 rfl) ?_
      refine xb hf (fun v5 hv hf => ?_)
      refine xc_V1 (rest := []) ⟨hx, hb, hml, hown, hts⟩ (mX4_size hr2 hv) (cwV 0 hts gX5_type_X4_size rfl rfl rfl hqX4_size ⟨Nat.le_of_ble_eq_true rfl, Nat.le_of_ble_eq_true rfl⟩) X (va_recv X.1 X.2.1 (ci := 0) (q0 := r2) rfl (wlC_t hr2)) rfl hl.1 rfl (Nat.le_of_ble_eq_true rfl) dX5_type_11 ⟨Nat.zero_le _, Nat.zero_le _⟩ (fun H locs X => ?_)
      refine lv_iconst (v := (1 : Int32)) hx hb dX5_type_14 rfl ?_
      refine lv_iadd hx hb dX5_type_15 ?_
      refine lv_i2l (v := ((v5 + (1 : Int32)).toInt64)) hx hb dX5_type_16 rfl ?_
      refine xb hf (fun v6 hv6 hf => ?_)
      refine exb_c hf (fun e9 h9 hf => ?_) (fun r7 h9 hf => ?_)
      · cases hf
      · refine xc_S0 (rest := []) ⟨hx, hb, hml, hown, hts⟩ (mX5_requireRoom (exo_s hv6 h9)) (va_cwS 1 hts gX5_type_X5_requireRoom rfl rfl rfl hqX5_requireRoom ⟨Nat.le_of_ble_eq_true rfl, Nat.le_of_ble_eq_true rfl⟩) X rfl hl.1 rfl (Nat.le_of_ble_eq_true rfl) dX5_type_17 ⟨Nat.zero_le _, Nat.zero_le _⟩ (fun H locs X => ?_)
        refine lv_aload_n hx hb dX5_type_20 rfl (lv_at hl 0 rfl) ?_
        refine lv_iload_n hx hb dX5_type_21 rfl (lv_at hl 3 rfl) ?_
        refine xb hf (fun v8 hv hf => ?_)
        refine xc_V0 (rest := []) ⟨hx, hb, hml, hown, hts⟩ (mX4_add hr2 hv) (cwV 1 hts gX5_type_X4_add rfl rfl rfl hqX4_add ⟨Nat.le_of_ble_eq_true rfl, Nat.le_of_ble_eq_true rfl⟩) X (va_recv X.1 X.2.1 (ci := 0) (q0 := r2) rfl (wlC_t hr2)) rfl hl.1 rfl (Nat.le_of_ble_eq_true rfl) dX5_type_22 ⟨Nat.zero_le _, Nat.zero_le _⟩ (fun H locs X => ?_)
        refine lv_aload_n hx hb dX5_type_25 rfl (lv_at hl 0 rfl) ?_
        refine xb hf (fun v9 hv hf => ?_)
        refine xc_V1 (rest := []) ⟨hx, hb, hml, hown, hts⟩ (mX4_size hr2 hv) (cwV 0 hts gX5_type_X4_size rfl rfl rfl hqX4_size ⟨Nat.le_of_ble_eq_true rfl, Nat.le_of_ble_eq_true rfl⟩) X (va_recv X.1 X.2.1 (ci := 0) (q0 := r2) rfl (wlC_t hr2)) rfl hl.1 rfl (Nat.le_of_ble_eq_true rfl) dX5_type_26 ⟨Nat.zero_le _, Nat.zero_le _⟩ (fun H locs X => ?_)
        cases hf
        exact xe_i hx hb hr hlocks X dX5_type_29
set_option maxRecDepth 100000 in
set_option maxHeartbeats 4000000 in
theorem eX5_type {l : Launch} {dd : va_G} {cy : Nat → ClassId} {ad : Nat → Nat} {A : Nat → Prop} {ts : Nat → Int32} {tc : Nat → Nat → Int32} {rk : Nat → Int32} {pl : Nat → Int32} {ru : Nat → Int64} {sl : Nat → Int32} {bg : Nat → Int32} {kn : Nat → Int64} {rm : Int32} {ol : Nat → Int64} {od : Nat → UInt64} {x1 : Int32} {x2 : Int32} {E9 : String} {tso : Nat → Int32} {tco : Nat → Nat → Int32} (htr : l.stackTraces = false) (hf : fX5_type ts tc x1 x2 = some (.error E9, tso, tco)) : vx_Met l yX5_type wsX5_type { frames := 7, cells := 1, slots := 6, locals := 121 } (va_Pc [.ref (ad 14), .int x1, .int x2] (IT dd cy A (wlC ad cy ts tc rk pl ru sl bg kn rm ol od))) (fun _ _ _ _ => False) (XE dd cy A E9 (wlC ad cy tso tco rk pl ru sl bg kn rm ol od)) 1 6 A := by
  refine vx_ofW (cc := cX5_type) (maxL := 4) (ret := some .int) (by decide) rfl ?_
  intro p e s m args below meth c s₁ B hml hexc hv
  obtain ⟨hav, hI, hT⟩ := hv
  have hx := B.exec
  have hb := B.bytes
  have hr := B.returns
  have hts := atoms_spec (ws := wsX5_type) B.pre
  have hown : s.vm.findClass RX5 = some m.cls := findClass_of_methodNamed B.named
  have hlocks := B.notSynchronized
  have X := XW.of hI
  refine xe_in hav (Nat.le_of_ble_eq_true rfl) rfl (fun ls hl => ?_)
  rw [fX5_type] at hf
  refine lv_aload_n hx hb dX5_type_0 rfl (lv_at hl 0 rfl) ?_
  refine lv_iload_n hx hb dX5_type_1 rfl (lv_at hl 1 rfl) ?_
  refine xb hf (fun v1 hv1 hf => ?_)
  refine exb_c hf (fun e9 h9 hf => ?_) (fun r2 h9 hf => ?_)
  · cases hf
    exact xt_V (rest := []) ⟨hx, hb, hml, hown, hts⟩ (eX5_textOf htr (exo_s hv1 h9)) (cwV 1 hts gX5_type_X5_textOf rfl rfl rfl hqX5_textOf ⟨Nat.le_of_ble_eq_true rfl, Nat.le_of_ble_eq_true rfl⟩) X hT (va_recv X.1 X.2.1 (ci := 1) (q0 := 14) rfl wlC_14) rfl hl.1 rfl (Nat.le_of_ble_eq_true rfl) dX5_type_2 ⟨Nat.le_of_ble_eq_true rfl, Nat.le_of_ble_eq_true rfl⟩ hexc hlocks
  · have hr2 : r2 < 7 := fX5_textOf_lt (exo_s hv1 h9)
    refine xc_V1 (rest := []) ⟨hx, hb, hml, hown, hts⟩ (mX5_textOf (exo_s hv1 h9)) (cwV 1 hts gX5_type_X5_textOf rfl rfl rfl hqX5_textOf ⟨Nat.le_of_ble_eq_true rfl, Nat.le_of_ble_eq_true rfl⟩) X (va_recv X.1 X.2.1 (ci := 1) (q0 := 14) rfl wlC_14) rfl hl.1 rfl (Nat.le_of_ble_eq_true rfl) dX5_type_2 ⟨Nat.zero_le _, Nat.zero_le _⟩ (fun H locs X => ?_)
    refine lv_astore_n (lv' := [(3, .ref (ad r2)), (0, .ref (ad 14)), (1, .int x1), (2, .int x2)]) hx hb dX5_type_5 rfl hl (by decide) rfl (fun ls hl => ?_)
    refine lv_iload_n hx hb dX5_type_6 rfl (lv_at hl 3 rfl) ?_
    refine xb hf (fun v3 hv3 hf => ?_)
    refine exb_c hf (fun e9 h9 hf => ?_) (fun r4 h9 hf => ?_)
    · cases hf
      exact xt_S (rest := []) ⟨hx, hb, hml, hown, hts⟩ (eX5_requireSign htr (exo_s hv3 h9)) (va_cwS 1 hts gX5_type_X5_requireSign rfl rfl rfl hqX5_requireSign ⟨Nat.le_of_ble_eq_true rfl, Nat.le_of_ble_eq_true rfl⟩) X hT rfl hl.1 rfl (Nat.le_of_ble_eq_true rfl) dX5_type_7 ⟨Nat.le_of_ble_eq_true rfl, Nat.le_of_ble_eq_true rfl⟩ hexc hlocks
    · refine xc_S0 (rest := []) ⟨hx, hb, hml, hown, hts⟩ (mX5_requireSign (exo_s hv3 h9)) (va_cwS 1 hts gX5_type_X5_requireSign rfl rfl rfl hqX5_requireSign ⟨Nat.le_of_ble_eq_true rfl, Nat.le_of_ble_eq_true rfl⟩) X rfl hl.1 rfl (Nat.le_of_ble_eq_true rfl) dX5_type_7 ⟨Nat.zero_le _, Nat.zero_le _⟩ (fun H locs X => ?_)
      refine lv_aload_n hx hb dX5_type_10 rfl (lv_at hl 0 rfl) ?_
      refine xb hf (fun v5 hv hf => ?_)
      refine xc_V1 (rest := []) ⟨hx, hb, hml, hown, hts⟩ (mX4_size hr2 hv) (cwV 0 hts gX5_type_X4_size rfl rfl rfl hqX4_size ⟨Nat.le_of_ble_eq_true rfl, Nat.le_of_ble_eq_true rfl⟩) X (va_recv X.1 X.2.1 (ci := 0) (q0 := r2) rfl (wlC_t hr2)) rfl hl.1 rfl (Nat.le_of_ble_eq_true rfl) dX5_type_11 ⟨Nat.zero_le _, Nat.zero_le _⟩ (fun H locs X => ?_)
      refine lv_iconst (v := (1 : Int32)) hx hb dX5_type_14 rfl ?_
      refine lv_iadd hx hb dX5_type_15 ?_
      refine lv_i2l (v := ((v5 + (1 : Int32)).toInt64)) hx hb dX5_type_16 rfl ?_
      refine xb hf (fun v6 hv6 hf => ?_)
      refine exb_c hf (fun e9 h9 hf => ?_) (fun r7 h9 hf => ?_)
      · cases hf
        exact xt_S (rest := []) ⟨hx, hb, hml, hown, hts⟩ (eX5_requireRoom htr (exo_s hv6 h9)) (va_cwS 1 hts gX5_type_X5_requireRoom rfl rfl rfl hqX5_requireRoom ⟨Nat.le_of_ble_eq_true rfl, Nat.le_of_ble_eq_true rfl⟩) X hT rfl hl.1 rfl (Nat.le_of_ble_eq_true rfl) dX5_type_17 ⟨Nat.le_of_ble_eq_true rfl, Nat.le_of_ble_eq_true rfl⟩ hexc hlocks
      · refine xc_S0 (rest := []) ⟨hx, hb, hml, hown, hts⟩ (mX5_requireRoom (exo_s hv6 h9)) (va_cwS 1 hts gX5_type_X5_requireRoom rfl rfl rfl hqX5_requireRoom ⟨Nat.le_of_ble_eq_true rfl, Nat.le_of_ble_eq_true rfl⟩) X rfl hl.1 rfl (Nat.le_of_ble_eq_true rfl) dX5_type_17 ⟨Nat.zero_le _, Nat.zero_le _⟩ (fun H locs X => ?_)
        refine lv_aload_n hx hb dX5_type_20 rfl (lv_at hl 0 rfl) ?_
        refine lv_iload_n hx hb dX5_type_21 rfl (lv_at hl 3 rfl) ?_
        refine xb hf (fun v8 hv hf => ?_)
        refine xc_V0 (rest := []) ⟨hx, hb, hml, hown, hts⟩ (mX4_add hr2 hv) (cwV 1 hts gX5_type_X4_add rfl rfl rfl hqX4_add ⟨Nat.le_of_ble_eq_true rfl, Nat.le_of_ble_eq_true rfl⟩) X (va_recv X.1 X.2.1 (ci := 0) (q0 := r2) rfl (wlC_t hr2)) rfl hl.1 rfl (Nat.le_of_ble_eq_true rfl) dX5_type_22 ⟨Nat.zero_le _, Nat.zero_le _⟩ (fun H locs X => ?_)
        refine lv_aload_n hx hb dX5_type_25 rfl (lv_at hl 0 rfl) ?_
        refine xb hf (fun v9 hv hf => ?_)
        refine xc_V1 (rest := []) ⟨hx, hb, hml, hown, hts⟩ (mX4_size hr2 hv) (cwV 0 hts gX5_type_X4_size rfl rfl rfl hqX4_size ⟨Nat.le_of_ble_eq_true rfl, Nat.le_of_ble_eq_true rfl⟩) X (va_recv X.1 X.2.1 (ci := 0) (q0 := r2) rfl (wlC_t hr2)) rfl hl.1 rfl (Nat.le_of_ble_eq_true rfl) dX5_type_26 ⟨Nat.zero_le _, Nat.zero_le _⟩ (fun H locs X => ?_)
        cases hf
set_option maxRecDepth 100000 in
set_option maxHeartbeats 4000000 in
theorem mX5_typeMore {l : Launch} {dd : va_G} {cy : Nat → ClassId} {ad : Nat → Nat} {A : Nat → Prop} {fu : Nat} {ts : Nat → Int32} {tc : Nat → Nat → Int32} {rk : Nat → Int32} {pl : Nat → Int32} {ru : Nat → Int64} {sl : Nat → Int32} {bg : Nat → Int32} {kn : Nat → Int64} {rm : Int32} {ol : Nat → Int64} {od : Nat → UInt64} {x1 : Int32} {x2 : Int32} {x3 : Int32} {x4 : Int32} {x5 : Int32} {x6 : Int32} {x7 : Int32} {x8 : Int32} {rv : Int32} {tso : Nat → Int32} {tco : Nat → Nat → Int32} (hf : fX5_typeMore fu ts tc x1 x2 x3 x4 x5 x6 x7 x8 = some (.ok rv, tso, tco)) : Met l yX5_typeMore wsX5_typeMore { frames := 2, cells := 0, slots := 0, locals := 45 } (va_Pc [.ref (ad 14), .int x1, .int x2, .int x3, .int x4, .int x5, .int x6, .int x7, .int x8] (IW dd cy A (wlC ad cy ts tc rk pl ru sl bg kn rm ol od))) (QX dd cy A (some (.int rv)) (wlC ad cy tso tco rk pl ru sl bg kn rm ol od)) 0 0 A := by
  refine Met.ofW (cc := cX5_typeMore) (maxL := 11) (ret := some .int) (by decide) rfl ?_
  intro p e s m args below meth c s₁ B hml hv
  obtain ⟨hav, hI⟩ := hv
  have hx := B.exec
  have hb := B.bytes
  have hr := B.returns
  have hts := atoms_spec (ws := wsX5_typeMore) B.pre
  have hown : s.vm.findClass RX5 = some m.cls := findClass_of_methodNamed B.named
  have hlocks := B.notSynchronized
  have X := XW.of hI
  have h5 : ∀ w ∈ wsX50, w ∈ wsX5_typeMore := by decide +kernel
  refine xe_in hav (Nat.le_of_ble_eq_true rfl) rfl (fun ls hl => ?_)
  have w91 : ∀ (y2 : Int32) (t9 : Nat) (ht9 : t9 < 7) (n : Nat) (y10 : Int32) (ts : Nat → Int32) (tc : Nat → Nat → Int32), fX5_typeMore_91 fu y2 t9 n y10 ts tc = some (.ok rv, tso, tco) → ∀ (H : Heap) (locs : List Loc) (ls : Array Slot), XW dd cy A s (wlC ad cy ts tc rk pl ru sl bg kn rm ol od) H locs → lv_has ls 11 [(0, .ref (ad 14)), (2, .int y2), (9, .ref (ad t9)), (10, .int y10)] → W p l e (headSpec wsX5_typeMore { frames := 2, cells := 0, slots := 0, locals := 45 }).room s m args below meth c H locs 0 0 (MQ below (QX dd cy A (some (.int rv)) (wlC ad cy tso tco rk pl ru sl bg kn rm ol od)) args s 0 0 A) (F0 m 91 ls []) := by
    intro y2 t9 ht9 n
    induction n with
    | zero => intro y10 ts tc hf; exact absurd hf (by simp [fX5_typeMore_91])
    | succ n ih =>
      intro y10 ts tc hf H locs ls X hl
      rw [fX5_typeMore_91] at hf
      refine lv_iload hx hb dX5_typeMore_91 (lv_at hl 3 rfl) ?_
      refine lv_iload_n hx hb dX5_typeMore_93 rfl (lv_at hl 1 rfl) ?_
      refine xr_icmp_ge (tgt := 115) hx hb dX5_typeMore_94 rfl hf (fun hf => ?_) (fun hf => ?_)
      · refine lv_aload hx hb dX5_typeMore_115 (lv_at hl 2 rfl) ?_
        refine xb hf (fun v10 hv hf => ?_)
        refine xc_V1 (rest := []) ⟨hx, hb, hml, hown, hts⟩ (mX4_size ht9 hv) (cwV 0 hts gX5_typeMore_X4_size rfl rfl rfl hqX4_size ⟨Nat.le_of_ble_eq_true rfl, Nat.le_of_ble_eq_true rfl⟩) X (va_recv X.1 X.2.1 (ci := 0) (q0 := t9) rfl (wlC_t ht9)) rfl hl.1 rfl (Nat.le_of_ble_eq_true rfl) dX5_typeMore_117 ⟨Nat.zero_le _, Nat.zero_le _⟩ (fun H locs X => ?_)
        refine lv_iload_n hx hb dX5_typeMore_120 rfl (lv_at hl 1 rfl) ?_
        refine lv_iadd hx hb dX5_typeMore_121 ?_
        refine lv_i2l (v := ((v10 + y2).toInt64)) hx hb dX5_typeMore_122 rfl ?_
        refine xb hf (fun v11 hv11 hf => ?_)
        refine exb_c hf (fun e9 h9 hf => ?_) (fun r12 h9 hf => ?_)
        · cases hf
        · refine xc_S0 (rest := []) ⟨hx, hb, hml, hown, hts⟩ (mX5_requireRoom (exo_s hv11 h9)) (va_cwS 1 hts gX5_typeMore_X5_requireRoom rfl rfl rfl hqX5_requireRoom ⟨Nat.le_of_ble_eq_true rfl, Nat.le_of_ble_eq_true rfl⟩) X rfl hl.1 rfl (Nat.le_of_ble_eq_true rfl) dX5_typeMore_123 ⟨Nat.zero_le _, Nat.zero_le _⟩ (fun H locs X => ?_)
          refine lv_aload hx hb dX5_typeMore_126 (lv_at hl 2 rfl) ?_
          refine lv_aload_n hx hb dX5_typeMore_128 rfl (lv_at hl 0 rfl) ?_
          refine xg_f hx hb hts hown X h5 14 wlC_14 rfl 1 (by decide) (by decide +kernel) (v := .ref (ad 6)) rfl dX5_typeMore_129 ?_
          refine lv_iconst (v := (0 : Int32)) hx hb dX5_typeMore_132 rfl ?_
          refine lv_iload_n hx hb dX5_typeMore_133 rfl (lv_at hl 1 rfl) ?_
          refine xb hf (fun v13 hv hf => ?_)
          refine xc_V0 (rest := []) ⟨hx, hb, hml, hown, hts⟩ (mX4_addPart ht9 (by decide) hv) (cwV 3 hts gX5_typeMore_X4_addPart rfl rfl rfl hqX4_addPart ⟨Nat.le_of_ble_eq_true rfl, Nat.le_of_ble_eq_true rfl⟩) X (va_recv X.1 X.2.1 (ci := 0) (q0 := t9) rfl (wlC_t ht9)) rfl hl.1 rfl (Nat.le_of_ble_eq_true rfl) dX5_typeMore_134 ⟨Nat.zero_le _, Nat.zero_le _⟩ (fun H locs X => ?_)
          refine lv_aload hx hb dX5_typeMore_137 (lv_at hl 2 rfl) ?_
          refine xb hf (fun v14 hv hf => ?_)
          refine xc_V1 (rest := []) ⟨hx, hb, hml, hown, hts⟩ (mX4_size ht9 hv) (cwV 0 hts gX5_typeMore_X4_size rfl rfl rfl hqX4_size ⟨Nat.le_of_ble_eq_true rfl, Nat.le_of_ble_eq_true rfl⟩) X (va_recv X.1 X.2.1 (ci := 0) (q0 := t9) rfl (wlC_t ht9)) rfl hl.1 rfl (Nat.le_of_ble_eq_true rfl) dX5_typeMore_139 ⟨Nat.zero_le _, Nat.zero_le _⟩ (fun H locs X => ?_)
          cases hf
          exact xe_i hx hb hr hlocks X dX5_typeMore_142
      · refine lv_aload_n hx hb dX5_typeMore_97 rfl (lv_at hl 0 rfl) ?_
        refine xg_f hx hb hts hown X h5 14 wlC_14 rfl 1 (by decide) (by decide +kernel) (v := .ref (ad 6)) rfl dX5_typeMore_98 ?_
        refine lv_iload hx hb dX5_typeMore_101 (lv_at hl 3 rfl) ?_
        refine xb hf (fun v15 hv hf => ?_)
        refine xc_V1 (rest := []) ⟨hx, hb, hml, hown, hts⟩ (mX4_signOn (by decide) hv) (cwV 1 hts gX5_typeMore_X4_signOn rfl rfl rfl hqX4_signOn ⟨Nat.le_of_ble_eq_true rfl, Nat.le_of_ble_eq_true rfl⟩) X (va_recv X.1 X.2.1 (ci := 0) (q0 := 6) rfl (wlC_t (by decide))) rfl hl.1 rfl (Nat.le_of_ble_eq_true rfl) dX5_typeMore_103 ⟨Nat.zero_le _, Nat.zero_le _⟩ (fun H locs X => ?_)
        refine xb hf (fun v16 hv16 hf => ?_)
        refine exb_c hf (fun e9 h9 hf => ?_) (fun r17 h9 hf => ?_)
        · cases hf
        · refine xc_S0 (rest := []) ⟨hx, hb, hml, hown, hts⟩ (mX5_requireSign (exo_s hv16 h9)) (va_cwS 1 hts gX5_typeMore_X5_requireSign rfl rfl rfl hqX5_requireSign ⟨Nat.le_of_ble_eq_true rfl, Nat.le_of_ble_eq_true rfl⟩) X rfl hl.1 rfl (Nat.le_of_ble_eq_true rfl) dX5_typeMore_106 ⟨Nat.zero_le _, Nat.zero_le _⟩ (fun H locs X => ?_)
          refine lv_iinc (v := (y10 + 1)) (lv' := [(10, .int (y10 + 1)), (0, .ref (ad 14)), (2, .int y2), (9, .ref (ad t9))]) hx hb dX5_typeMore_109 hl (k := 3) rfl ii_1 (by decide) rfl (fun ls hl => ?_)
          refine lv_goto (tgt := 91) hx hb dX5_typeMore_112 rfl ?_
          exact ih (y10 + 1) ts tc hf _ _ _ X (lv_sub hl [1, 2, 3, 0] rfl)
  rw [fX5_typeMore] at hf
  refine lv_aload_n hx hb dX5_typeMore_0 rfl (lv_at hl 0 rfl) ?_
  refine lv_iload_n hx hb dX5_typeMore_1 rfl (lv_at hl 1 rfl) ?_
  refine xb hf (fun v1 hv1 hf => ?_)
  refine exb_c hf (fun e9 h9 hf => ?_) (fun r2 h9 hf => ?_)
  · cases hf
  · have hr2 : r2 < 7 := fX5_textOf_lt (exo_s hv1 h9)
    refine xc_V1 (rest := []) ⟨hx, hb, hml, hown, hts⟩ (mX5_textOf (exo_s hv1 h9)) (cwV 1 hts gX5_typeMore_X5_textOf rfl rfl rfl hqX5_textOf ⟨Nat.le_of_ble_eq_true rfl, Nat.le_of_ble_eq_true rfl⟩) X (va_recv X.1 X.2.1 (ci := 1) (q0 := 14) rfl wlC_14) rfl hl.1 rfl (Nat.le_of_ble_eq_true rfl) dX5_typeMore_2 ⟨Nat.zero_le _, Nat.zero_le _⟩ (fun H locs X => ?_)
    refine lv_astore (lv' := [(9, .ref (ad r2)), (0, .ref (ad 14)), (1, .int x1), (2, .int x2), (3, .int x3), (4, .int x4), (5, .int x5), (6, .int x6), (7, .int x7), (8, .int x8)]) hx hb dX5_typeMore_5 hl (by decide) rfl (fun ls hl => ?_)
    refine lv_iload_n hx hb dX5_typeMore_7 rfl (lv_at hl 3 rfl) ?_
    refine lv_iconst (v := (1 : Int32)) hx hb dX5_typeMore_8 rfl ?_
    refine xr_icmp_lt (tgt := 18) hx hb dX5_typeMore_9 rfl hf (fun hf => ?_) (fun hf => ?_)
    · cases hf
    · refine lv_iload_n hx hb dX5_typeMore_12 rfl (lv_at hl 3 rfl) ?_
      refine lv_bipush (v := (6 : Int32)) hx hb dX5_typeMore_13 rfl ?_
      refine xr_icmp_le (tgt := 28) hx hb dX5_typeMore_15 rfl hf (fun hf => ?_) (fun hf => ?_)
      · refine lv_aload_n hx hb dX5_typeMore_28 rfl (lv_at hl 1 rfl) ?_
        refine xg_f hx hb hts hown X h5 14 wlC_14 rfl 1 (by decide) (by decide +kernel) (v := .ref (ad 6)) rfl dX5_typeMore_29 ?_
        refine xb hf (fun v3 hv hf => ?_)
        refine xc_V0 (rest := []) ⟨hx, hb, hml, hown, hts⟩ (mX4_clear (by decide) hv) (cwV 0 hts gX5_typeMore_X4_clear rfl rfl rfl hqX4_clear ⟨Nat.le_of_ble_eq_true rfl, Nat.le_of_ble_eq_true rfl⟩) X (va_recv X.1 X.2.1 (ci := 0) (q0 := 6) rfl (wlC_t (by decide))) rfl hl.1 rfl (Nat.le_of_ble_eq_true rfl) dX5_typeMore_32 ⟨Nat.zero_le _, Nat.zero_le _⟩ (fun H locs X => ?_)
        refine lv_aload_n hx hb dX5_typeMore_35 rfl (lv_at hl 1 rfl) ?_
        refine xg_f hx hb hts hown X h5 14 wlC_14 rfl 1 (by decide) (by decide +kernel) (v := .ref (ad 6)) rfl dX5_typeMore_36 ?_
        refine lv_iload_n hx hb dX5_typeMore_39 rfl (lv_at hl 4 rfl) ?_
        refine xb hf (fun v4 hv hf => ?_)
        refine xc_V0 (rest := []) ⟨hx, hb, hml, hown, hts⟩ (mX4_add (by decide) hv) (cwV 1 hts gX5_typeMore_X4_add rfl rfl rfl hqX4_add ⟨Nat.le_of_ble_eq_true rfl, Nat.le_of_ble_eq_true rfl⟩) X (va_recv X.1 X.2.1 (ci := 0) (q0 := 6) rfl (wlC_t (by decide))) rfl hl.1 rfl (Nat.le_of_ble_eq_true rfl) dX5_typeMore_40 ⟨Nat.zero_le _, Nat.zero_le _⟩ (fun H locs X => ?_)
        refine lv_aload_n hx hb dX5_typeMore_43 rfl (lv_at hl 1 rfl) ?_
        refine xg_f hx hb hts hown X h5 14 wlC_14 rfl 1 (by decide) (by decide +kernel) (v := .ref (ad 6)) rfl dX5_typeMore_44 ?_
        refine lv_iload hx hb dX5_typeMore_47 (lv_at hl 5 rfl) ?_
        refine xb hf (fun v5 hv hf => ?_)
        refine xc_V0 (rest := []) ⟨hx, hb, hml, hown, hts⟩ (mX4_add (by decide) hv) (cwV 1 hts gX5_typeMore_X4_add rfl rfl rfl hqX4_add ⟨Nat.le_of_ble_eq_true rfl, Nat.le_of_ble_eq_true rfl⟩) X (va_recv X.1 X.2.1 (ci := 0) (q0 := 6) rfl (wlC_t (by decide))) rfl hl.1 rfl (Nat.le_of_ble_eq_true rfl) dX5_typeMore_49 ⟨Nat.zero_le _, Nat.zero_le _⟩ (fun H locs X => ?_)
        refine lv_aload_n hx hb dX5_typeMore_52 rfl (lv_at hl 1 rfl) ?_
        refine xg_f hx hb hts hown X h5 14 wlC_14 rfl 1 (by decide) (by decide +kernel) (v := .ref (ad 6)) rfl dX5_typeMore_53 ?_
        refine lv_iload hx hb dX5_typeMore_56 (lv_at hl 6 rfl) ?_
        refine xb hf (fun v6 hv hf => ?_)
        refine xc_V0 (rest := []) ⟨hx, hb, hml, hown, hts⟩ (mX4_add (by decide) hv) (cwV 1 hts gX5_typeMore_X4_add rfl rfl rfl hqX4_add ⟨Nat.le_of_ble_eq_true rfl, Nat.le_of_ble_eq_true rfl⟩) X (va_recv X.1 X.2.1 (ci := 0) (q0 := 6) rfl (wlC_t (by decide))) rfl hl.1 rfl (Nat.le_of_ble_eq_true rfl) dX5_typeMore_58 ⟨Nat.zero_le _, Nat.zero_le _⟩ (fun H locs X => ?_)
        refine lv_aload_n hx hb dX5_typeMore_61 rfl (lv_at hl 1 rfl) ?_
        refine xg_f hx hb hts hown X h5 14 wlC_14 rfl 1 (by decide) (by decide +kernel) (v := .ref (ad 6)) rfl dX5_typeMore_62 ?_
        refine lv_iload hx hb dX5_typeMore_65 (lv_at hl 7 rfl) ?_
        refine xb hf (fun v7 hv hf => ?_)
        refine xc_V0 (rest := []) ⟨hx, hb, hml, hown, hts⟩ (mX4_add (by decide) hv) (cwV 1 hts gX5_typeMore_X4_add rfl rfl rfl hqX4_add ⟨Nat.le_of_ble_eq_true rfl, Nat.le_of_ble_eq_true rfl⟩) X (va_recv X.1 X.2.1 (ci := 0) (q0 := 6) rfl (wlC_t (by decide))) rfl hl.1 rfl (Nat.le_of_ble_eq_true rfl) dX5_typeMore_67 ⟨Nat.zero_le _, Nat.zero_le _⟩ (fun H locs X => ?_)
        refine lv_aload_n hx hb dX5_typeMore_70 rfl (lv_at hl 1 rfl) ?_
        refine xg_f hx hb hts hown X h5 14 wlC_14 rfl 1 (by decide) (by decide +kernel) (v := .ref (ad 6)) rfl dX5_typeMore_71 ?_
        refine lv_iload hx hb dX5_typeMore_74 (lv_at hl 8 rfl) ?_
        refine xb hf (fun v8 hv hf => ?_)
        refine xc_V0 (rest := []) ⟨hx, hb, hml, hown, hts⟩ (mX4_add (by decide) hv) (cwV 1 hts gX5_typeMore_X4_add rfl rfl rfl hqX4_add ⟨Nat.le_of_ble_eq_true rfl, Nat.le_of_ble_eq_true rfl⟩) X (va_recv X.1 X.2.1 (ci := 0) (q0 := 6) rfl (wlC_t (by decide))) rfl hl.1 rfl (Nat.le_of_ble_eq_true rfl) dX5_typeMore_76 ⟨Nat.zero_le _, Nat.zero_le _⟩ (fun H locs X => ?_)
        refine lv_aload_n hx hb dX5_typeMore_79 rfl (lv_at hl 1 rfl) ?_
        refine xg_f hx hb hts hown X h5 14 wlC_14 rfl 1 (by decide) (by decide +kernel) (v := .ref (ad 6)) rfl dX5_typeMore_80 ?_
        refine lv_iload hx hb dX5_typeMore_83 (lv_at hl 9 rfl) ?_
        refine xb hf (fun v9 hv hf => ?_)
        refine xc_V0 (rest := []) ⟨hx, hb, hml, hown, hts⟩ (mX4_add (by decide) hv) (cwV 1 hts gX5_typeMore_X4_add rfl rfl rfl hqX4_add ⟨Nat.le_of_ble_eq_true rfl, Nat.le_of_ble_eq_true rfl⟩) X (va_recv X.1 X.2.1 (ci := 0) (q0 := 6) rfl (wlC_t (by decide))) rfl hl.1 rfl (Nat.le_of_ble_eq_true rfl) dX5_typeMore_85 ⟨Nat.zero_le _, Nat.zero_le _⟩ (fun H locs X => ?_)
        refine lv_iconst (v := (0 : Int32)) hx hb dX5_typeMore_88 rfl ?_
        refine lv_istore (lv' := [(10, .int (0 : Int32)), (9, .ref (ad r2)), (0, .ref (ad 14)), (1, .int x1), (2, .int x2), (3, .int x3), (4, .int x4), (5, .int x5), (6, .int x6), (7, .int x7), (8, .int x8)]) hx hb dX5_typeMore_89 hl (by decide) rfl (fun ls hl => ?_)
        exact w91 x2 r2 hr2 fu (0 : Int32) v9.1 v9.2 hf _ _ _ X (lv_sub hl [2, 4, 1, 0] rfl)
      · cases hf
set_option maxRecDepth 100000 in
set_option maxHeartbeats 4000000 in
theorem eX5_typeMore {l : Launch} {dd : va_G} {cy : Nat → ClassId} {ad : Nat → Nat} {A : Nat → Prop} {fu : Nat} {ts : Nat → Int32} {tc : Nat → Nat → Int32} {rk : Nat → Int32} {pl : Nat → Int32} {ru : Nat → Int64} {sl : Nat → Int32} {bg : Nat → Int32} {kn : Nat → Int64} {rm : Int32} {ol : Nat → Int64} {od : Nat → UInt64} {x1 : Int32} {x2 : Int32} {x3 : Int32} {x4 : Int32} {x5 : Int32} {x6 : Int32} {x7 : Int32} {x8 : Int32} {E9 : String} {tso : Nat → Int32} {tco : Nat → Nat → Int32} (htr : l.stackTraces = false) (hf : fX5_typeMore fu ts tc x1 x2 x3 x4 x5 x6 x7 x8 = some (.error E9, tso, tco)) : vx_Met l yX5_typeMore wsX5_typeMore { frames := 7, cells := 1, slots := 6, locals := 121 } (va_Pc [.ref (ad 14), .int x1, .int x2, .int x3, .int x4, .int x5, .int x6, .int x7, .int x8] (IT dd cy A (wlC ad cy ts tc rk pl ru sl bg kn rm ol od))) (fun _ _ _ _ => False) (XE dd cy A E9 (wlC ad cy tso tco rk pl ru sl bg kn rm ol od)) 1 6 A := by
  refine vx_ofW (cc := cX5_typeMore) (maxL := 11) (ret := some .int) (by decide) rfl ?_
  intro p e s m args below meth c s₁ B hml hexc hv
  obtain ⟨hav, hI, hT⟩ := hv
  have hx := B.exec
  have hb := B.bytes
  have hr := B.returns
  have hts := atoms_spec (ws := wsX5_typeMore) B.pre
  have hown : s.vm.findClass RX5 = some m.cls := findClass_of_methodNamed B.named
  have hlocks := B.notSynchronized
  have X := XW.of hI
  have h5 : ∀ w ∈ wsX50, w ∈ wsX5_typeMore := by decide +kernel
  refine xe_in hav (Nat.le_of_ble_eq_true rfl) rfl (fun ls hl => ?_)
  have w91 : ∀ (y2 : Int32) (t9 : Nat) (ht9 : t9 < 7) (n : Nat) (y10 : Int32) (ts : Nat → Int32) (tc : Nat → Nat → Int32), fX5_typeMore_91 fu y2 t9 n y10 ts tc = some (.error E9, tso, tco) → ∀ (H : Heap) (locs : List Loc) (ls : Array Slot), XW dd cy A s (wlC ad cy ts tc rk pl ru sl bg kn rm ol od) H locs → lv_has ls 11 [(0, .ref (ad 14)), (2, .int y2), (9, .ref (ad t9)), (10, .int y10)] → W p l e (headSpec wsX5_typeMore { frames := 7, cells := 1, slots := 6, locals := 121 }).room s m args below meth c H locs 0 0 (vx_MQ below (fun _ _ _ _ => False) (XE dd cy A E9 (wlC ad cy tso tco rk pl ru sl bg kn rm ol od)) args s 1 6 A) (F0 m 91 ls []) := by
    intro y2 t9 ht9 n
    induction n with
    | zero => intro y10 ts tc hf; exact absurd hf (by simp [fX5_typeMore_91])
    | succ n ih =>
      intro y10 ts tc hf H locs ls X hl
      rw [fX5_typeMore_91] at hf
      refine lv_iload hx hb dX5_typeMore_91 (lv_at hl 3 rfl) ?_
      refine lv_iload_n hx hb dX5_typeMore_93 rfl (lv_at hl 1 rfl) ?_
      refine xr_icmp_ge (tgt := 115) hx hb dX5_typeMore_94 rfl hf (fun hf => ?_) (fun hf => ?_)
      · refine lv_aload hx hb dX5_typeMore_115 (lv_at hl 2 rfl) ?_
        refine xb hf (fun v10 hv hf => ?_)
        refine xc_V1 (rest := []) ⟨hx, hb, hml, hown, hts⟩ (mX4_size ht9 hv) (cwV 0 hts gX5_typeMore_X4_size rfl rfl rfl hqX4_size ⟨Nat.le_of_ble_eq_true rfl, Nat.le_of_ble_eq_true rfl⟩) X (va_recv X.1 X.2.1 (ci := 0) (q0 := t9) rfl (wlC_t ht9)) rfl hl.1 rfl (Nat.le_of_ble_eq_true rfl) dX5_typeMore_117 ⟨Nat.zero_le _, Nat.zero_le _⟩ (fun H locs X => ?_)
        refine lv_iload_n hx hb dX5_typeMore_120 rfl (lv_at hl 1 rfl) ?_
        refine lv_iadd hx hb dX5_typeMore_121 ?_
        refine lv_i2l (v := ((v10 + y2).toInt64)) hx hb dX5_typeMore_122 rfl ?_
        refine xb hf (fun v11 hv11 hf => ?_)
        refine exb_c hf (fun e9 h9 hf => ?_) (fun r12 h9 hf => ?_)
        · cases hf
          exact xt_S (rest := []) ⟨hx, hb, hml, hown, hts⟩ (eX5_requireRoom htr (exo_s hv11 h9)) (va_cwS 1 hts gX5_typeMore_X5_requireRoom rfl rfl rfl hqX5_requireRoom ⟨Nat.le_of_ble_eq_true rfl, Nat.le_of_ble_eq_true rfl⟩) X hT rfl hl.1 rfl (Nat.le_of_ble_eq_true rfl) dX5_typeMore_123 ⟨Nat.le_of_ble_eq_true rfl, Nat.le_of_ble_eq_true rfl⟩ hexc hlocks
        · refine xc_S0 (rest := []) ⟨hx, hb, hml, hown, hts⟩ (mX5_requireRoom (exo_s hv11 h9)) (va_cwS 1 hts gX5_typeMore_X5_requireRoom rfl rfl rfl hqX5_requireRoom ⟨Nat.le_of_ble_eq_true rfl, Nat.le_of_ble_eq_true rfl⟩) X rfl hl.1 rfl (Nat.le_of_ble_eq_true rfl) dX5_typeMore_123 ⟨Nat.zero_le _, Nat.zero_le _⟩ (fun H locs X => ?_)
          refine lv_aload hx hb dX5_typeMore_126 (lv_at hl 2 rfl) ?_
          refine lv_aload_n hx hb dX5_typeMore_128 rfl (lv_at hl 0 rfl) ?_
          refine xg_f hx hb hts hown X h5 14 wlC_14 rfl 1 (by decide) (by decide +kernel) (v := .ref (ad 6)) rfl dX5_typeMore_129 ?_
          refine lv_iconst (v := (0 : Int32)) hx hb dX5_typeMore_132 rfl ?_
          refine lv_iload_n hx hb dX5_typeMore_133 rfl (lv_at hl 1 rfl) ?_
          refine xb hf (fun v13 hv hf => ?_)
          refine xc_V0 (rest := []) ⟨hx, hb, hml, hown, hts⟩ (mX4_addPart ht9 (by decide) hv) (cwV 3 hts gX5_typeMore_X4_addPart rfl rfl rfl hqX4_addPart ⟨Nat.le_of_ble_eq_true rfl, Nat.le_of_ble_eq_true rfl⟩) X (va_recv X.1 X.2.1 (ci := 0) (q0 := t9) rfl (wlC_t ht9)) rfl hl.1 rfl (Nat.le_of_ble_eq_true rfl) dX5_typeMore_134 ⟨Nat.zero_le _, Nat.zero_le _⟩ (fun H locs X => ?_)
          refine lv_aload hx hb dX5_typeMore_137 (lv_at hl 2 rfl) ?_
          refine xb hf (fun v14 hv hf => ?_)
          refine xc_V1 (rest := []) ⟨hx, hb, hml, hown, hts⟩ (mX4_size ht9 hv) (cwV 0 hts gX5_typeMore_X4_size rfl rfl rfl hqX4_size ⟨Nat.le_of_ble_eq_true rfl, Nat.le_of_ble_eq_true rfl⟩) X (va_recv X.1 X.2.1 (ci := 0) (q0 := t9) rfl (wlC_t ht9)) rfl hl.1 rfl (Nat.le_of_ble_eq_true rfl) dX5_typeMore_139 ⟨Nat.zero_le _, Nat.zero_le _⟩ (fun H locs X => ?_)
          cases hf
      · refine lv_aload_n hx hb dX5_typeMore_97 rfl (lv_at hl 0 rfl) ?_
        refine xg_f hx hb hts hown X h5 14 wlC_14 rfl 1 (by decide) (by decide +kernel) (v := .ref (ad 6)) rfl dX5_typeMore_98 ?_
        refine lv_iload hx hb dX5_typeMore_101 (lv_at hl 3 rfl) ?_
        refine xb hf (fun v15 hv hf => ?_)
        refine xc_V1 (rest := []) ⟨hx, hb, hml, hown, hts⟩ (mX4_signOn (by decide) hv) (cwV 1 hts gX5_typeMore_X4_signOn rfl rfl rfl hqX4_signOn ⟨Nat.le_of_ble_eq_true rfl, Nat.le_of_ble_eq_true rfl⟩) X (va_recv X.1 X.2.1 (ci := 0) (q0 := 6) rfl (wlC_t (by decide))) rfl hl.1 rfl (Nat.le_of_ble_eq_true rfl) dX5_typeMore_103 ⟨Nat.zero_le _, Nat.zero_le _⟩ (fun H locs X => ?_)
        refine xb hf (fun v16 hv16 hf => ?_)
        refine exb_c hf (fun e9 h9 hf => ?_) (fun r17 h9 hf => ?_)
        · cases hf
          exact xt_S (rest := []) ⟨hx, hb, hml, hown, hts⟩ (eX5_requireSign htr (exo_s hv16 h9)) (va_cwS 1 hts gX5_typeMore_X5_requireSign rfl rfl rfl hqX5_requireSign ⟨Nat.le_of_ble_eq_true rfl, Nat.le_of_ble_eq_true rfl⟩) X hT rfl hl.1 rfl (Nat.le_of_ble_eq_true rfl) dX5_typeMore_106 ⟨Nat.le_of_ble_eq_true rfl, Nat.le_of_ble_eq_true rfl⟩ hexc hlocks
        · refine xc_S0 (rest := []) ⟨hx, hb, hml, hown, hts⟩ (mX5_requireSign (exo_s hv16 h9)) (va_cwS 1 hts gX5_typeMore_X5_requireSign rfl rfl rfl hqX5_requireSign ⟨Nat.le_of_ble_eq_true rfl, Nat.le_of_ble_eq_true rfl⟩) X rfl hl.1 rfl (Nat.le_of_ble_eq_true rfl) dX5_typeMore_106 ⟨Nat.zero_le _, Nat.zero_le _⟩ (fun H locs X => ?_)
          refine lv_iinc (v := (y10 + 1)) (lv' := [(10, .int (y10 + 1)), (0, .ref (ad 14)), (2, .int y2), (9, .ref (ad t9))]) hx hb dX5_typeMore_109 hl (k := 3) rfl ii_1 (by decide) rfl (fun ls hl => ?_)
          refine lv_goto (tgt := 91) hx hb dX5_typeMore_112 rfl ?_
          exact ih (y10 + 1) ts tc hf _ _ _ X (lv_sub hl [1, 2, 3, 0] rfl)
  rw [fX5_typeMore] at hf
  refine lv_aload_n hx hb dX5_typeMore_0 rfl (lv_at hl 0 rfl) ?_
  refine lv_iload_n hx hb dX5_typeMore_1 rfl (lv_at hl 1 rfl) ?_
  refine xb hf (fun v1 hv1 hf => ?_)
  refine exb_c hf (fun e9 h9 hf => ?_) (fun r2 h9 hf => ?_)
  · cases hf
    exact xt_V (rest := []) ⟨hx, hb, hml, hown, hts⟩ (eX5_textOf htr (exo_s hv1 h9)) (cwV 1 hts gX5_typeMore_X5_textOf rfl rfl rfl hqX5_textOf ⟨Nat.le_of_ble_eq_true rfl, Nat.le_of_ble_eq_true rfl⟩) X hT (va_recv X.1 X.2.1 (ci := 1) (q0 := 14) rfl wlC_14) rfl hl.1 rfl (Nat.le_of_ble_eq_true rfl) dX5_typeMore_2 ⟨Nat.le_of_ble_eq_true rfl, Nat.le_of_ble_eq_true rfl⟩ hexc hlocks
  · have hr2 : r2 < 7 := fX5_textOf_lt (exo_s hv1 h9)
    refine xc_V1 (rest := []) ⟨hx, hb, hml, hown, hts⟩ (mX5_textOf (exo_s hv1 h9)) (cwV 1 hts gX5_typeMore_X5_textOf rfl rfl rfl hqX5_textOf ⟨Nat.le_of_ble_eq_true rfl, Nat.le_of_ble_eq_true rfl⟩) X (va_recv X.1 X.2.1 (ci := 1) (q0 := 14) rfl wlC_14) rfl hl.1 rfl (Nat.le_of_ble_eq_true rfl) dX5_typeMore_2 ⟨Nat.zero_le _, Nat.zero_le _⟩ (fun H locs X => ?_)
    refine lv_astore (lv' := [(9, .ref (ad r2)), (0, .ref (ad 14)), (1, .int x1), (2, .int x2), (3, .int x3), (4, .int x4), (5, .int x5), (6, .int x6), (7, .int x7), (8, .int x8)]) hx hb dX5_typeMore_5 hl (by decide) rfl (fun ls hl => ?_)
    refine lv_iload_n hx hb dX5_typeMore_7 rfl (lv_at hl 3 rfl) ?_
    refine lv_iconst (v := (1 : Int32)) hx hb dX5_typeMore_8 rfl ?_
    refine xr_icmp_lt (tgt := 18) hx hb dX5_typeMore_9 rfl hf (fun hf => ?_) (fun hf => ?_)
    · cases hf
      exact xt_throw (rest := []) (text := "not 1 to 6 signs") hx hb htr hown hts hT X (by decide +kernel) (by decide +kernel) (by decide +kernel) (by decide +kernel) (by decide +kernel) (by decide +kernel) th_hn_57 th_hot_53_57 (hl.1.trans hml.symm) dX5_typeMore_18 dX5_typeMore_21 dX5_typeMore_22 dX5_typeMore_24 dX5_typeMore_27 hexc (Nat.le_of_ble_eq_true rfl) (Nat.le_of_ble_eq_true rfl) (Nat.le_of_ble_eq_true rfl) (Nat.le_of_ble_eq_true rfl) hlocks
    · refine lv_iload_n hx hb dX5_typeMore_12 rfl (lv_at hl 3 rfl) ?_
      refine lv_bipush (v := (6 : Int32)) hx hb dX5_typeMore_13 rfl ?_
      refine xr_icmp_le (tgt := 28) hx hb dX5_typeMore_15 rfl hf (fun hf => ?_) (fun hf => ?_)
      · refine lv_aload_n hx hb dX5_typeMore_28 rfl (lv_at hl 1 rfl) ?_
        refine xg_f hx hb hts hown X h5 14 wlC_14 rfl 1 (by decide) (by decide +kernel) (v := .ref (ad 6)) rfl dX5_typeMore_29 ?_
        refine xb hf (fun v3 hv hf => ?_)
        refine xc_V0 (rest := []) ⟨hx, hb, hml, hown, hts⟩ (mX4_clear (by decide) hv) (cwV 0 hts gX5_typeMore_X4_clear rfl rfl rfl hqX4_clear ⟨Nat.le_of_ble_eq_true rfl, Nat.le_of_ble_eq_true rfl⟩) X (va_recv X.1 X.2.1 (ci := 0) (q0 := 6) rfl (wlC_t (by decide))) rfl hl.1 rfl (Nat.le_of_ble_eq_true rfl) dX5_typeMore_32 ⟨Nat.zero_le _, Nat.zero_le _⟩ (fun H locs X => ?_)
        refine lv_aload_n hx hb dX5_typeMore_35 rfl (lv_at hl 1 rfl) ?_
        refine xg_f hx hb hts hown X h5 14 wlC_14 rfl 1 (by decide) (by decide +kernel) (v := .ref (ad 6)) rfl dX5_typeMore_36 ?_
        refine lv_iload_n hx hb dX5_typeMore_39 rfl (lv_at hl 4 rfl) ?_
        refine xb hf (fun v4 hv hf => ?_)
        refine xc_V0 (rest := []) ⟨hx, hb, hml, hown, hts⟩ (mX4_add (by decide) hv) (cwV 1 hts gX5_typeMore_X4_add rfl rfl rfl hqX4_add ⟨Nat.le_of_ble_eq_true rfl, Nat.le_of_ble_eq_true rfl⟩) X (va_recv X.1 X.2.1 (ci := 0) (q0 := 6) rfl (wlC_t (by decide))) rfl hl.1 rfl (Nat.le_of_ble_eq_true rfl) dX5_typeMore_40 ⟨Nat.zero_le _, Nat.zero_le _⟩ (fun H locs X => ?_)
        refine lv_aload_n hx hb dX5_typeMore_43 rfl (lv_at hl 1 rfl) ?_
        refine xg_f hx hb hts hown X h5 14 wlC_14 rfl 1 (by decide) (by decide +kernel) (v := .ref (ad 6)) rfl dX5_typeMore_44 ?_
        refine lv_iload hx hb dX5_typeMore_47 (lv_at hl 5 rfl) ?_
        refine xb hf (fun v5 hv hf => ?_)
        refine xc_V0 (rest := []) ⟨hx, hb, hml, hown, hts⟩ (mX4_add (by decide) hv) (cwV 1 hts gX5_typeMore_X4_add rfl rfl rfl hqX4_add ⟨Nat.le_of_ble_eq_true rfl, Nat.le_of_ble_eq_true rfl⟩) X (va_recv X.1 X.2.1 (ci := 0) (q0 := 6) rfl (wlC_t (by decide))) rfl hl.1 rfl (Nat.le_of_ble_eq_true rfl) dX5_typeMore_49 ⟨Nat.zero_le _, Nat.zero_le _⟩ (fun H locs X => ?_)
        refine lv_aload_n hx hb dX5_typeMore_52 rfl (lv_at hl 1 rfl) ?_
        refine xg_f hx hb hts hown X h5 14 wlC_14 rfl 1 (by decide) (by decide +kernel) (v := .ref (ad 6)) rfl dX5_typeMore_53 ?_
        refine lv_iload hx hb dX5_typeMore_56 (lv_at hl 6 rfl) ?_
        refine xb hf (fun v6 hv hf => ?_)
        refine xc_V0 (rest := []) ⟨hx, hb, hml, hown, hts⟩ (mX4_add (by decide) hv) (cwV 1 hts gX5_typeMore_X4_add rfl rfl rfl hqX4_add ⟨Nat.le_of_ble_eq_true rfl, Nat.le_of_ble_eq_true rfl⟩) X (va_recv X.1 X.2.1 (ci := 0) (q0 := 6) rfl (wlC_t (by decide))) rfl hl.1 rfl (Nat.le_of_ble_eq_true rfl) dX5_typeMore_58 ⟨Nat.zero_le _, Nat.zero_le _⟩ (fun H locs X => ?_)
        refine lv_aload_n hx hb dX5_typeMore_61 rfl (lv_at hl 1 rfl) ?_
        refine xg_f hx hb hts hown X h5 14 wlC_14 rfl 1 (by decide) (by decide +kernel) (v := .ref (ad 6)) rfl dX5_typeMore_62 ?_
        refine lv_iload hx hb dX5_typeMore_65 (lv_at hl 7 rfl) ?_
        refine xb hf (fun v7 hv hf => ?_)
        refine xc_V0 (rest := []) ⟨hx, hb, hml, hown, hts⟩ (mX4_add (by decide) hv) (cwV 1 hts gX5_typeMore_X4_add rfl rfl rfl hqX4_add ⟨Nat.le_of_ble_eq_true rfl, Nat.le_of_ble_eq_true rfl⟩) X (va_recv X.1 X.2.1 (ci := 0) (q0 := 6) rfl (wlC_t (by decide))) rfl hl.1 rfl (Nat.le_of_ble_eq_true rfl) dX5_typeMore_67 ⟨Nat.zero_le _, Nat.zero_le _⟩ (fun H locs X => ?_)
        refine lv_aload_n hx hb dX5_typeMore_70 rfl (lv_at hl 1 rfl) ?_
        refine xg_f hx hb hts hown X h5 14 wlC_14 rfl 1 (by decide) (by decide +kernel) (v := .ref (ad 6)) rfl dX5_typeMore_71 ?_
        refine lv_iload hx hb dX5_typeMore_74 (lv_at hl 8 rfl) ?_
        refine xb hf (fun v8 hv hf => ?_)
        refine xc_V0 (rest := []) ⟨hx, hb, hml, hown, hts⟩ (mX4_add (by decide) hv) (cwV 1 hts gX5_typeMore_X4_add rfl rfl rfl hqX4_add ⟨Nat.le_of_ble_eq_true rfl, Nat.le_of_ble_eq_true rfl⟩) X (va_recv X.1 X.2.1 (ci := 0) (q0 := 6) rfl (wlC_t (by decide))) rfl hl.1 rfl (Nat.le_of_ble_eq_true rfl) dX5_typeMore_76 ⟨Nat.zero_le _, Nat.zero_le _⟩ (fun H locs X => ?_)
        refine lv_aload_n hx hb dX5_typeMore_79 rfl (lv_at hl 1 rfl) ?_
        refine xg_f hx hb hts hown X h5 14 wlC_14 rfl 1 (by decide) (by decide +kernel) (v := .ref (ad 6)) rfl dX5_typeMore_80 ?_
        refine lv_iload hx hb dX5_typeMore_83 (lv_at hl 9 rfl) ?_
        refine xb hf (fun v9 hv hf => ?_)
        refine xc_V0 (rest := []) ⟨hx, hb, hml, hown, hts⟩ (mX4_add (by decide) hv) (cwV 1 hts gX5_typeMore_X4_add rfl rfl rfl hqX4_add ⟨Nat.le_of_ble_eq_true rfl, Nat.le_of_ble_eq_true rfl⟩) X (va_recv X.1 X.2.1 (ci := 0) (q0 := 6) rfl (wlC_t (by decide))) rfl hl.1 rfl (Nat.le_of_ble_eq_true rfl) dX5_typeMore_85 ⟨Nat.zero_le _, Nat.zero_le _⟩ (fun H locs X => ?_)
        refine lv_iconst (v := (0 : Int32)) hx hb dX5_typeMore_88 rfl ?_
        refine lv_istore (lv' := [(10, .int (0 : Int32)), (9, .ref (ad r2)), (0, .ref (ad 14)), (1, .int x1), (2, .int x2), (3, .int x3), (4, .int x4), (5, .int x5), (6, .int x6), (7, .int x7), (8, .int x8)]) hx hb dX5_typeMore_89 hl (by decide) rfl (fun ls hl => ?_)
        exact w91 x2 r2 hr2 fu (0 : Int32) v9.1 v9.2 hf _ _ _ X (lv_sub hl [2, 4, 1, 0] rfl)
      · cases hf
        exact xt_throw (rest := []) (text := "not 1 to 6 signs") hx hb htr hown hts hT X (by decide +kernel) (by decide +kernel) (by decide +kernel) (by decide +kernel) (by decide +kernel) (by decide +kernel) th_hn_57 th_hot_53_57 (hl.1.trans hml.symm) dX5_typeMore_18 dX5_typeMore_21 dX5_typeMore_22 dX5_typeMore_24 dX5_typeMore_27 hexc (Nat.le_of_ble_eq_true rfl) (Nat.le_of_ble_eq_true rfl) (Nat.le_of_ble_eq_true rfl) (Nat.le_of_ble_eq_true rfl) hlocks
set_option maxRecDepth 100000 in
set_option maxHeartbeats 4000000 in
theorem mX5_erase {l : Launch} {dd : va_G} {cy : Nat → ClassId} {ad : Nat → Nat} {A : Nat → Prop} {ts : Nat → Int32} {tc : Nat → Nat → Int32} {rk : Nat → Int32} {pl : Nat → Int32} {ru : Nat → Int64} {sl : Nat → Int32} {bg : Nat → Int32} {kn : Nat → Int64} {rm : Int32} {ol : Nat → Int64} {od : Nat → UInt64} {x1 : Int32} {rv : Int32} {tso : Nat → Int32} (hf : fX5_erase ts x1 = some (.ok rv, tso)) : Met l yX5_erase wsX5_erase { frames := 1, cells := 0, slots := 0, locals := 21 } (va_Pc [.ref (ad 14), .int x1] (IW dd cy A (wlC ad cy ts tc rk pl ru sl bg kn rm ol od))) (QX dd cy A (some (.int rv)) (wlC ad cy tso tc rk pl ru sl bg kn rm ol od)) 0 0 A := by
  refine Met.ofW (cc := cX5_erase) (maxL := 4) (ret := some .int) (by decide) rfl ?_
  intro p e s m args below meth c s₁ B hml hv
  obtain ⟨hav, hI⟩ := hv
  have hx := B.exec
  have hb := B.bytes
  have hr := B.returns
  have hts := atoms_spec (ws := wsX5_erase) B.pre
  have hown : s.vm.findClass RX5 = some m.cls := findClass_of_methodNamed B.named
  have hlocks := B.notSynchronized
  have X := XW.of hI
  refine xe_in hav (Nat.le_of_ble_eq_true rfl) rfl (fun ls hl => ?_)
  rw [fX5_erase] at hf
  refine lv_aload_n hx hb dX5_erase_0 rfl (lv_at hl 0 rfl) ?_
  refine lv_iload_n hx hb dX5_erase_1 rfl (lv_at hl 1 rfl) ?_
  refine xb hf (fun v1 hv1 hf => ?_)
  refine exb_c hf (fun e9 h9 hf => ?_) (fun r2 h9 hf => ?_)
  · cases hf
  · have hr2 : r2 < 7 := fX5_textOf_lt (exo_s hv1 h9)
    refine xc_V1 (rest := []) ⟨hx, hb, hml, hown, hts⟩ (mX5_textOf (exo_s hv1 h9)) (cwV 1 hts gX5_erase_X5_textOf rfl rfl rfl hqX5_textOf ⟨Nat.le_of_ble_eq_true rfl, Nat.le_of_ble_eq_true rfl⟩) X (va_recv X.1 X.2.1 (ci := 1) (q0 := 14) rfl wlC_14) rfl hl.1 rfl (Nat.le_of_ble_eq_true rfl) dX5_erase_2 ⟨Nat.zero_le _, Nat.zero_le _⟩ (fun H locs X => ?_)
    refine lv_astore_n (lv' := [(2, .ref (ad r2)), (0, .ref (ad 14)), (1, .int x1)]) hx hb dX5_erase_5 rfl hl (by decide) rfl (fun ls hl => ?_)
    refine lv_aload_n hx hb dX5_erase_6 rfl (lv_at hl 0 rfl) ?_
    refine xb hf (fun v3 hv hf => ?_)
    refine xc_V1 (rest := []) ⟨hx, hb, hml, hown, hts⟩ (mX4_size hr2 hv) (cwV 0 hts gX5_erase_X4_size rfl rfl rfl hqX4_size ⟨Nat.le_of_ble_eq_true rfl, Nat.le_of_ble_eq_true rfl⟩) X (va_recv X.1 X.2.1 (ci := 0) (q0 := r2) rfl (wlC_t hr2)) rfl hl.1 rfl (Nat.le_of_ble_eq_true rfl) dX5_erase_7 ⟨Nat.zero_le _, Nat.zero_le _⟩ (fun H locs X => ?_)
    refine lv_istore_n (lv' := [(3, .int v3), (2, .ref (ad r2)), (0, .ref (ad 14)), (1, .int x1)]) hx hb dX5_erase_10 rfl hl (by decide) rfl (fun ls hl => ?_)
    refine lv_aload_n hx hb dX5_erase_11 rfl (lv_at hl 1 rfl) ?_
    refine xb hf (fun v4 hv hf => ?_)
    refine xc_V0 (rest := []) ⟨hx, hb, hml, hown, hts⟩ (mX4_clear hr2 hv) (cwV 0 hts gX5_erase_X4_clear rfl rfl rfl hqX4_clear ⟨Nat.le_of_ble_eq_true rfl, Nat.le_of_ble_eq_true rfl⟩) X (va_recv X.1 X.2.1 (ci := 0) (q0 := r2) rfl (wlC_t hr2)) rfl hl.1 rfl (Nat.le_of_ble_eq_true rfl) dX5_erase_12 ⟨Nat.zero_le _, Nat.zero_le _⟩ (fun H locs X => ?_)
    refine lv_iload_n hx hb dX5_erase_15 rfl (lv_at hl 0 rfl) ?_
    cases hf
    exact xe_i hx hb hr hlocks X dX5_erase_16
set_option maxRecDepth 100000 in
set_option maxHeartbeats 4000000 in
theorem eX5_erase {l : Launch} {dd : va_G} {cy : Nat → ClassId} {ad : Nat → Nat} {A : Nat → Prop} {ts : Nat → Int32} {tc : Nat → Nat → Int32} {rk : Nat → Int32} {pl : Nat → Int32} {ru : Nat → Int64} {sl : Nat → Int32} {bg : Nat → Int32} {kn : Nat → Int64} {rm : Int32} {ol : Nat → Int64} {od : Nat → UInt64} {x1 : Int32} {E9 : String} {tso : Nat → Int32} (htr : l.stackTraces = false) (hf : fX5_erase ts x1 = some (.error E9, tso)) : vx_Met l yX5_erase wsX5_erase { frames := 7, cells := 1, slots := 6, locals := 121 } (va_Pc [.ref (ad 14), .int x1] (IT dd cy A (wlC ad cy ts tc rk pl ru sl bg kn rm ol od))) (fun _ _ _ _ => False) (XE dd cy A E9 (wlC ad cy tso tc rk pl ru sl bg kn rm ol od)) 1 6 A := by
  refine vx_ofW (cc := cX5_erase) (maxL := 4) (ret := some .int) (by decide) rfl ?_
  intro p e s m args below meth c s₁ B hml hexc hv
  obtain ⟨hav, hI, hT⟩ := hv
  have hx := B.exec
  have hb := B.bytes
  have hr := B.returns
  have hts := atoms_spec (ws := wsX5_erase) B.pre
  have hown : s.vm.findClass RX5 = some m.cls := findClass_of_methodNamed B.named
  have hlocks := B.notSynchronized
  have X := XW.of hI
  refine xe_in hav (Nat.le_of_ble_eq_true rfl) rfl (fun ls hl => ?_)
  rw [fX5_erase] at hf
  refine lv_aload_n hx hb dX5_erase_0 rfl (lv_at hl 0 rfl) ?_
  refine lv_iload_n hx hb dX5_erase_1 rfl (lv_at hl 1 rfl) ?_
  refine xb hf (fun v1 hv1 hf => ?_)
  refine exb_c hf (fun e9 h9 hf => ?_) (fun r2 h9 hf => ?_)
  · cases hf
    exact xt_V (rest := []) ⟨hx, hb, hml, hown, hts⟩ (eX5_textOf htr (exo_s hv1 h9)) (cwV 1 hts gX5_erase_X5_textOf rfl rfl rfl hqX5_textOf ⟨Nat.le_of_ble_eq_true rfl, Nat.le_of_ble_eq_true rfl⟩) X hT (va_recv X.1 X.2.1 (ci := 1) (q0 := 14) rfl wlC_14) rfl hl.1 rfl (Nat.le_of_ble_eq_true rfl) dX5_erase_2 ⟨Nat.le_of_ble_eq_true rfl, Nat.le_of_ble_eq_true rfl⟩ hexc hlocks
  · have hr2 : r2 < 7 := fX5_textOf_lt (exo_s hv1 h9)
    refine xc_V1 (rest := []) ⟨hx, hb, hml, hown, hts⟩ (mX5_textOf (exo_s hv1 h9)) (cwV 1 hts gX5_erase_X5_textOf rfl rfl rfl hqX5_textOf ⟨Nat.le_of_ble_eq_true rfl, Nat.le_of_ble_eq_true rfl⟩) X (va_recv X.1 X.2.1 (ci := 1) (q0 := 14) rfl wlC_14) rfl hl.1 rfl (Nat.le_of_ble_eq_true rfl) dX5_erase_2 ⟨Nat.zero_le _, Nat.zero_le _⟩ (fun H locs X => ?_)
    refine lv_astore_n (lv' := [(2, .ref (ad r2)), (0, .ref (ad 14)), (1, .int x1)]) hx hb dX5_erase_5 rfl hl (by decide) rfl (fun ls hl => ?_)
    refine lv_aload_n hx hb dX5_erase_6 rfl (lv_at hl 0 rfl) ?_
    refine xb hf (fun v3 hv hf => ?_)
    refine xc_V1 (rest := []) ⟨hx, hb, hml, hown, hts⟩ (mX4_size hr2 hv) (cwV 0 hts gX5_erase_X4_size rfl rfl rfl hqX4_size ⟨Nat.le_of_ble_eq_true rfl, Nat.le_of_ble_eq_true rfl⟩) X (va_recv X.1 X.2.1 (ci := 0) (q0 := r2) rfl (wlC_t hr2)) rfl hl.1 rfl (Nat.le_of_ble_eq_true rfl) dX5_erase_7 ⟨Nat.zero_le _, Nat.zero_le _⟩ (fun H locs X => ?_)
    refine lv_istore_n (lv' := [(3, .int v3), (2, .ref (ad r2)), (0, .ref (ad 14)), (1, .int x1)]) hx hb dX5_erase_10 rfl hl (by decide) rfl (fun ls hl => ?_)
    refine lv_aload_n hx hb dX5_erase_11 rfl (lv_at hl 1 rfl) ?_
    refine xb hf (fun v4 hv hf => ?_)
    refine xc_V0 (rest := []) ⟨hx, hb, hml, hown, hts⟩ (mX4_clear hr2 hv) (cwV 0 hts gX5_erase_X4_clear rfl rfl rfl hqX4_clear ⟨Nat.le_of_ble_eq_true rfl, Nat.le_of_ble_eq_true rfl⟩) X (va_recv X.1 X.2.1 (ci := 0) (q0 := r2) rfl (wlC_t hr2)) rfl hl.1 rfl (Nat.le_of_ble_eq_true rfl) dX5_erase_12 ⟨Nat.zero_le _, Nat.zero_le _⟩ (fun H locs X => ?_)
    refine lv_iload_n hx hb dX5_erase_15 rfl (lv_at hl 0 rfl) ?_
    cases hf
set_option maxRecDepth 100000 in
set_option maxHeartbeats 4000000 in
theorem mX5_length {l : Launch} {dd : va_G} {cy : Nat → ClassId} {ad : Nat → Nat} {A : Nat → Prop} {ts : Nat → Int32} {tc : Nat → Nat → Int32} {rk : Nat → Int32} {pl : Nat → Int32} {ru : Nat → Int64} {sl : Nat → Int32} {bg : Nat → Int32} {kn : Nat → Int64} {rm : Int32} {ol : Nat → Int64} {od : Nat → UInt64} {x1 : Int32} {rv : Int32} (hf : fX5_length ts x1 = some (.ok rv)) : Met l yX5_length wsX5_length { frames := 1, cells := 0, slots := 0, locals := 21 } (va_Pc [.ref (ad 14), .int x1] (IW dd cy A (wlC ad cy ts tc rk pl ru sl bg kn rm ol od))) (QX dd cy A (some (.int rv)) (wlC ad cy ts tc rk pl ru sl bg kn rm ol od)) 0 0 A := by
  refine Met.ofW (cc := cX5_length) (maxL := 2) (ret := some .int) (by decide) rfl ?_
  intro p e s m args below meth c s₁ B hml hv
  obtain ⟨hav, hI⟩ := hv
  have hx := B.exec
  have hb := B.bytes
  have hr := B.returns
  have hts := atoms_spec (ws := wsX5_length) B.pre
  have hown : s.vm.findClass RX5 = some m.cls := findClass_of_methodNamed B.named
  have hlocks := B.notSynchronized
  have X := XW.of hI
  refine xe_in hav (Nat.le_of_ble_eq_true rfl) rfl (fun ls hl => ?_)
  rw [fX5_length] at hf
  refine lv_aload_n hx hb dX5_length_0 rfl (lv_at hl 0 rfl) ?_
  refine lv_iload_n hx hb dX5_length_1 rfl (lv_at hl 1 rfl) ?_
  refine xb hf (fun v1 hv1 hf => ?_)
  refine exb_c hf (fun e9 h9 hf => ?_) (fun r2 h9 hf => ?_)
  · cases hf
  · have hr2 : r2 < 7 := fX5_textOf_lt (exo_s hv1 h9)
    refine xc_V1 (rest := []) ⟨hx, hb, hml, hown, hts⟩ (mX5_textOf (exo_s hv1 h9)) (cwV 1 hts gX5_length_X5_textOf rfl rfl rfl hqX5_textOf ⟨Nat.le_of_ble_eq_true rfl, Nat.le_of_ble_eq_true rfl⟩) X (va_recv X.1 X.2.1 (ci := 1) (q0 := 14) rfl wlC_14) rfl hl.1 rfl (Nat.le_of_ble_eq_true rfl) dX5_length_2 ⟨Nat.zero_le _, Nat.zero_le _⟩ (fun H locs X => ?_)
    refine xb hf (fun v3 hv hf => ?_)
    refine xc_V1 (rest := []) ⟨hx, hb, hml, hown, hts⟩ (mX4_size hr2 hv) (cwV 0 hts gX5_length_X4_size rfl rfl rfl hqX4_size ⟨Nat.le_of_ble_eq_true rfl, Nat.le_of_ble_eq_true rfl⟩) X (va_recv X.1 X.2.1 (ci := 0) (q0 := r2) rfl (wlC_t hr2)) rfl hl.1 rfl (Nat.le_of_ble_eq_true rfl) dX5_length_5 ⟨Nat.zero_le _, Nat.zero_le _⟩ (fun H locs X => ?_)
    cases hf
    exact xe_i hx hb hr hlocks X dX5_length_8
set_option maxRecDepth 100000 in
set_option maxHeartbeats 4000000 in
theorem eX5_length {l : Launch} {dd : va_G} {cy : Nat → ClassId} {ad : Nat → Nat} {A : Nat → Prop} {ts : Nat → Int32} {tc : Nat → Nat → Int32} {rk : Nat → Int32} {pl : Nat → Int32} {ru : Nat → Int64} {sl : Nat → Int32} {bg : Nat → Int32} {kn : Nat → Int64} {rm : Int32} {ol : Nat → Int64} {od : Nat → UInt64} {x1 : Int32} {E9 : String} (htr : l.stackTraces = false) (hf : fX5_length ts x1 = some (.error E9)) : vx_Met l yX5_length wsX5_length { frames := 7, cells := 1, slots := 6, locals := 121 } (va_Pc [.ref (ad 14), .int x1] (IT dd cy A (wlC ad cy ts tc rk pl ru sl bg kn rm ol od))) (fun _ _ _ _ => False) (XE dd cy A E9 (wlC ad cy ts tc rk pl ru sl bg kn rm ol od)) 1 6 A := by
  refine vx_ofW (cc := cX5_length) (maxL := 2) (ret := some .int) (by decide) rfl ?_
  intro p e s m args below meth c s₁ B hml hexc hv
  obtain ⟨hav, hI, hT⟩ := hv
  have hx := B.exec
  have hb := B.bytes
  have hr := B.returns
  have hts := atoms_spec (ws := wsX5_length) B.pre
  have hown : s.vm.findClass RX5 = some m.cls := findClass_of_methodNamed B.named
  have hlocks := B.notSynchronized
  have X := XW.of hI
  refine xe_in hav (Nat.le_of_ble_eq_true rfl) rfl (fun ls hl => ?_)
  rw [fX5_length] at hf
  refine lv_aload_n hx hb dX5_length_0 rfl (lv_at hl 0 rfl) ?_
  refine lv_iload_n hx hb dX5_length_1 rfl (lv_at hl 1 rfl) ?_
  refine xb hf (fun v1 hv1 hf => ?_)
  refine exb_c hf (fun e9 h9 hf => ?_) (fun r2 h9 hf => ?_)
  · cases hf
    exact xt_V (rest := []) ⟨hx, hb, hml, hown, hts⟩ (eX5_textOf htr (exo_s hv1 h9)) (cwV 1 hts gX5_length_X5_textOf rfl rfl rfl hqX5_textOf ⟨Nat.le_of_ble_eq_true rfl, Nat.le_of_ble_eq_true rfl⟩) X hT (va_recv X.1 X.2.1 (ci := 1) (q0 := 14) rfl wlC_14) rfl hl.1 rfl (Nat.le_of_ble_eq_true rfl) dX5_length_2 ⟨Nat.le_of_ble_eq_true rfl, Nat.le_of_ble_eq_true rfl⟩ hexc hlocks
  · have hr2 : r2 < 7 := fX5_textOf_lt (exo_s hv1 h9)
    refine xc_V1 (rest := []) ⟨hx, hb, hml, hown, hts⟩ (mX5_textOf (exo_s hv1 h9)) (cwV 1 hts gX5_length_X5_textOf rfl rfl rfl hqX5_textOf ⟨Nat.le_of_ble_eq_true rfl, Nat.le_of_ble_eq_true rfl⟩) X (va_recv X.1 X.2.1 (ci := 1) (q0 := 14) rfl wlC_14) rfl hl.1 rfl (Nat.le_of_ble_eq_true rfl) dX5_length_2 ⟨Nat.zero_le _, Nat.zero_le _⟩ (fun H locs X => ?_)
    refine xb hf (fun v3 hv hf => ?_)
    refine xc_V1 (rest := []) ⟨hx, hb, hml, hown, hts⟩ (mX4_size hr2 hv) (cwV 0 hts gX5_length_X4_size rfl rfl rfl hqX4_size ⟨Nat.le_of_ble_eq_true rfl, Nat.le_of_ble_eq_true rfl⟩) X (va_recv X.1 X.2.1 (ci := 0) (q0 := r2) rfl (wlC_t hr2)) rfl hl.1 rfl (Nat.le_of_ble_eq_true rfl) dX5_length_5 ⟨Nat.zero_le _, Nat.zero_le _⟩ (fun H locs X => ?_)
    cases hf
set_option maxRecDepth 100000 in
set_option maxHeartbeats 4000000 in
theorem mX5_requirePlace {l : Launch} {dd : va_G} {cy : Nat → ClassId} {ad : Nat → Nat} {A : Nat → Prop} {ts : Nat → Int32} {tc : Nat → Nat → Int32} {rk : Nat → Int32} {pl : Nat → Int32} {ru : Nat → Int64} {sl : Nat → Int32} {bg : Nat → Int32} {kn : Nat → Int64} {rm : Int32} {ol : Nat → Int64} {od : Nat → UInt64} {j0 : Nat} {x1 : Int32} (hj0 : j0 < 7) (hf : fX5_requirePlace ts j0 x1 = some (.ok ())) : Met l yX5_requirePlace wsX5_requirePlace { frames := 1, cells := 0, slots := 0, locals := 20 } (va_Pc [.ref (ad j0), .int x1] (IW dd cy A (wlC ad cy ts tc rk pl ru sl bg kn rm ol od))) (QX dd cy A none (wlC ad cy ts tc rk pl ru sl bg kn rm ol od)) 0 0 A := by
  refine Met.ofW (cc := cX5_requirePlace) (maxL := 2) (ret := none) (by decide) rfl ?_
  intro p e s m args below meth c s₁ B hml hv
  obtain ⟨hav, hI⟩ := hv
  have hx := B.exec
  have hb := B.bytes
  have hr := B.returns
  have hts := atoms_spec (ws := wsX5_requirePlace) B.pre
  have hown : s.vm.findClass RX5 = some m.cls := findClass_of_methodNamed B.named
  have hlocks := B.notSynchronized
  have X := XW.of hI
  refine xe_in hav (Nat.le_of_ble_eq_true rfl) rfl (fun ls hl => ?_)
  rw [fX5_requirePlace] at hf
  refine lv_iload_n hx hb dX5_requirePlace_0 rfl (lv_at hl 1 rfl) ?_
  refine xr_if_lt (tgt := 12) hx hb dX5_requirePlace_1 rfl hf (fun hf => ?_) (fun hf => ?_)
  · cases hf
  · refine lv_iload_n hx hb dX5_requirePlace_4 rfl (lv_at hl 1 rfl) ?_
    refine lv_aload_n hx hb dX5_requirePlace_5 rfl (lv_at hl 0 rfl) ?_
    refine xb hf (fun v1 hv hf => ?_)
    refine xc_V1 (rest := [.int x1]) ⟨hx, hb, hml, hown, hts⟩ (mX4_size hj0 hv) (cwV 0 hts gX5_requirePlace_X4_size rfl rfl rfl hqX4_size ⟨Nat.le_of_ble_eq_true rfl, Nat.le_of_ble_eq_true rfl⟩) X (va_recv X.1 X.2.1 (ci := 0) (q0 := j0) rfl (wlC_t hj0)) rfl hl.1 rfl (Nat.le_of_ble_eq_true rfl) dX5_requirePlace_6 ⟨Nat.zero_le _, Nat.zero_le _⟩ (fun H locs X => ?_)
    refine xr_icmp_lt (tgt := 23) hx hb dX5_requirePlace_9 rfl hf (fun hf => ?_) (fun hf => ?_)
    · cases hf
      exact xe_v hx hb hr hlocks X dX5_requirePlace_23
    · cases hf
set_option maxRecDepth 100000 in
set_option maxHeartbeats 4000000 in
theorem eX5_requirePlace {l : Launch} {dd : va_G} {cy : Nat → ClassId} {ad : Nat → Nat} {A : Nat → Prop} {ts : Nat → Int32} {tc : Nat → Nat → Int32} {rk : Nat → Int32} {pl : Nat → Int32} {ru : Nat → Int64} {sl : Nat → Int32} {bg : Nat → Int32} {kn : Nat → Int64} {rm : Int32} {ol : Nat → Int64} {od : Nat → UInt64} {j0 : Nat} {x1 : Int32} {E9 : String} (htr : l.stackTraces = false) (hj0 : j0 < 7) (hf : fX5_requirePlace ts j0 x1 = some (.error E9)) : vx_Met l yX5_requirePlace wsX5_requirePlace { frames := 6, cells := 1, slots := 6, locals := 100 } (va_Pc [.ref (ad j0), .int x1] (IT dd cy A (wlC ad cy ts tc rk pl ru sl bg kn rm ol od))) (fun _ _ _ _ => False) (XE dd cy A E9 (wlC ad cy ts tc rk pl ru sl bg kn rm ol od)) 1 6 A := by
  refine vx_ofW (cc := cX5_requirePlace) (maxL := 2) (ret := none) (by decide) rfl ?_
  intro p e s m args below meth c s₁ B hml hexc hv
  obtain ⟨hav, hI, hT⟩ := hv
  have hx := B.exec
  have hb := B.bytes
  have hr := B.returns
  have hts := atoms_spec (ws := wsX5_requirePlace) B.pre
  have hown : s.vm.findClass RX5 = some m.cls := findClass_of_methodNamed B.named
  have hlocks := B.notSynchronized
  have X := XW.of hI
  refine xe_in hav (Nat.le_of_ble_eq_true rfl) rfl (fun ls hl => ?_)
  rw [fX5_requirePlace] at hf
  refine lv_iload_n hx hb dX5_requirePlace_0 rfl (lv_at hl 1 rfl) ?_
  refine xr_if_lt (tgt := 12) hx hb dX5_requirePlace_1 rfl hf (fun hf => ?_) (fun hf => ?_)
  · cases hf
    exact xt_throwW (rest := []) (text := "no such place") hx hb htr hown hts hT X (by decide +kernel) (by decide +kernel) (by decide +kernel) (by decide +kernel) (by decide +kernel) (by decide +kernel) th_hn_93 th_hot_89_93 (hl.1.trans hml.symm) dX5_requirePlace_12 dX5_requirePlace_15 dX5_requirePlace_16 dX5_requirePlace_19 dX5_requirePlace_22 hexc (Nat.le_of_ble_eq_true rfl) (Nat.le_of_ble_eq_true rfl) (Nat.le_of_ble_eq_true rfl) (Nat.le_of_ble_eq_true rfl) hlocks
  · refine lv_iload_n hx hb dX5_requirePlace_4 rfl (lv_at hl 1 rfl) ?_
    refine lv_aload_n hx hb dX5_requirePlace_5 rfl (lv_at hl 0 rfl) ?_
    refine xb hf (fun v1 hv hf => ?_)
    refine xc_V1 (rest := [.int x1]) ⟨hx, hb, hml, hown, hts⟩ (mX4_size hj0 hv) (cwV 0 hts gX5_requirePlace_X4_size rfl rfl rfl hqX4_size ⟨Nat.le_of_ble_eq_true rfl, Nat.le_of_ble_eq_true rfl⟩) X (va_recv X.1 X.2.1 (ci := 0) (q0 := j0) rfl (wlC_t hj0)) rfl hl.1 rfl (Nat.le_of_ble_eq_true rfl) dX5_requirePlace_6 ⟨Nat.zero_le _, Nat.zero_le _⟩ (fun H locs X => ?_)
    refine xr_icmp_lt (tgt := 23) hx hb dX5_requirePlace_9 rfl hf (fun hf => ?_) (fun hf => ?_)
    · cases hf
    · cases hf
      exact xt_throwW (rest := []) (text := "no such place") hx hb htr hown hts hT X (by decide +kernel) (by decide +kernel) (by decide +kernel) (by decide +kernel) (by decide +kernel) (by decide +kernel) th_hn_93 th_hot_89_93 (hl.1.trans hml.symm) dX5_requirePlace_12 dX5_requirePlace_15 dX5_requirePlace_16 dX5_requirePlace_19 dX5_requirePlace_22 hexc (Nat.le_of_ble_eq_true rfl) (Nat.le_of_ble_eq_true rfl) (Nat.le_of_ble_eq_true rfl) (Nat.le_of_ble_eq_true rfl) hlocks
set_option maxRecDepth 100000 in
set_option maxHeartbeats 4000000 in
theorem mX5_signAt {l : Launch} {dd : va_G} {cy : Nat → ClassId} {ad : Nat → Nat} {A : Nat → Prop} {ts : Nat → Int32} {tc : Nat → Nat → Int32} {rk : Nat → Int32} {pl : Nat → Int32} {ru : Nat → Int64} {sl : Nat → Int32} {bg : Nat → Int32} {kn : Nat → Int64} {rm : Int32} {ol : Nat → Int64} {od : Nat → UInt64} {x1 : Int32} {x2 : Int32} {rv : Int32} (hf : fX5_signAt ts tc x1 x2 = some (.ok rv)) : Met l yX5_signAt wsX5_signAt { frames := 2, cells := 0, slots := 0, locals := 41 } (va_Pc [.ref (ad 14), .int x1, .int x2] (IW dd cy A (wlC ad cy ts tc rk pl ru sl bg kn rm ol od))) (QX dd cy A (some (.int rv)) (wlC ad cy ts tc rk pl ru sl bg kn rm ol od)) 0 0 A := by
  refine Met.ofW (cc := cX5_signAt) (maxL := 4) (ret := some .char) (by decide) rfl ?_
  intro p e s m args below meth c s₁ B hml hv
  obtain ⟨hav, hI⟩ := hv
  have hx := B.exec
  have hb := B.bytes
  have hr := B.returns
  have hts := atoms_spec (ws := wsX5_signAt) B.pre
  have hown : s.vm.findClass RX5 = some m.cls := findClass_of_methodNamed B.named
  have hlocks := B.notSynchronized
  have X := XW.of hI
  refine xe_in hav (Nat.le_of_ble_eq_true rfl) rfl (fun ls hl => ?_)
  rw [fX5_signAt] at hf
  refine lv_aload_n hx hb dX5_signAt_0 rfl (lv_at hl 0 rfl) ?_
  refine lv_iload_n hx hb dX5_signAt_1 rfl (lv_at hl 1 rfl) ?_
  refine xb hf (fun v1 hv1 hf => ?_)
  refine exb_c hf (fun e9 h9 hf => ?_) (fun r2 h9 hf => ?_)
  · cases hf
  · have hr2 : r2 < 7 := fX5_textOf_lt (exo_s hv1 h9)
    refine xc_V1 (rest := []) ⟨hx, hb, hml, hown, hts⟩ (mX5_textOf (exo_s hv1 h9)) (cwV 1 hts gX5_signAt_X5_textOf rfl rfl rfl hqX5_textOf ⟨Nat.le_of_ble_eq_true rfl, Nat.le_of_ble_eq_true rfl⟩) X (va_recv X.1 X.2.1 (ci := 1) (q0 := 14) rfl wlC_14) rfl hl.1 rfl (Nat.le_of_ble_eq_true rfl) dX5_signAt_2 ⟨Nat.zero_le _, Nat.zero_le _⟩ (fun H locs X => ?_)
    refine lv_astore_n (lv' := [(3, .ref (ad r2)), (0, .ref (ad 14)), (1, .int x1), (2, .int x2)]) hx hb dX5_signAt_5 rfl hl (by decide) rfl (fun ls hl => ?_)
    refine lv_aload_n hx hb dX5_signAt_6 rfl (lv_at hl 0 rfl) ?_
    refine lv_iload_n hx hb dX5_signAt_7 rfl (lv_at hl 3 rfl) ?_
    refine xb hf (fun v3 hv3 hf => ?_)
    refine exb_c hf (fun e9 h9 hf => ?_) (fun r4 h9 hf => ?_)
    · cases hf
    · refine xc_S0 (rest := []) ⟨hx, hb, hml, hown, hts⟩ (mX5_requirePlace hr2 (exo_s hv3 h9)) (va_cwS 2 hts gX5_signAt_X5_requirePlace rfl rfl rfl hqX5_requirePlace ⟨Nat.le_of_ble_eq_true rfl, Nat.le_of_ble_eq_true rfl⟩) X rfl hl.1 rfl (Nat.le_of_ble_eq_true rfl) dX5_signAt_8 ⟨Nat.zero_le _, Nat.zero_le _⟩ (fun H locs X => ?_)
      refine lv_aload_n hx hb dX5_signAt_11 rfl (lv_at hl 0 rfl) ?_
      refine lv_iload_n hx hb dX5_signAt_12 rfl (lv_at hl 3 rfl) ?_
      refine xb hf (fun v5 hv hf => ?_)
      refine xc_V1 (rest := []) ⟨hx, hb, hml, hown, hts⟩ (mX4_signOn hr2 hv) (cwV 1 hts gX5_signAt_X4_signOn rfl rfl rfl hqX4_signOn ⟨Nat.le_of_ble_eq_true rfl, Nat.le_of_ble_eq_true rfl⟩) X (va_recv X.1 X.2.1 (ci := 0) (q0 := r2) rfl (wlC_t hr2)) rfl hl.1 rfl (Nat.le_of_ble_eq_true rfl) dX5_signAt_13 ⟨Nat.zero_le _, Nat.zero_le _⟩ (fun H locs X => ?_)
      refine xb hf (fun z9 hz hf => ?_)
      obtain ⟨hn, rfl⟩ := ckC_some hz
      cases hf
      exact xe_z hx hb hr hlocks X hn dX5_signAt_16
set_option maxRecDepth 100000 in
set_option maxHeartbeats 4000000 in
theorem eX5_signAt {l : Launch} {dd : va_G} {cy : Nat → ClassId} {ad : Nat → Nat} {A : Nat → Prop} {ts : Nat → Int32} {tc : Nat → Nat → Int32} {rk : Nat → Int32} {pl : Nat → Int32} {ru : Nat → Int64} {sl : Nat → Int32} {bg : Nat → Int32} {kn : Nat → Int64} {rm : Int32} {ol : Nat → Int64} {od : Nat → UInt64} {x1 : Int32} {x2 : Int32} {E9 : String} (htr : l.stackTraces = false) (hf : fX5_signAt ts tc x1 x2 = some (.error E9)) : vx_Met l yX5_signAt wsX5_signAt { frames := 7, cells := 1, slots := 6, locals := 121 } (va_Pc [.ref (ad 14), .int x1, .int x2] (IT dd cy A (wlC ad cy ts tc rk pl ru sl bg kn rm ol od))) (fun _ _ _ _ => False) (XE dd cy A E9 (wlC ad cy ts tc rk pl ru sl bg kn rm ol od)) 1 6 A := by
  refine vx_ofW (cc := cX5_signAt) (maxL := 4) (ret := some .char) (by decide) rfl ?_
  intro p e s m args below meth c s₁ B hml hexc hv
  obtain ⟨hav, hI, hT⟩ := hv
  have hx := B.exec
  have hb := B.bytes
  have hr := B.returns
  have hts := atoms_spec (ws := wsX5_signAt) B.pre
  have hown : s.vm.findClass RX5 = some m.cls := findClass_of_methodNamed B.named
  have hlocks := B.notSynchronized
  have X := XW.of hI
  refine xe_in hav (Nat.le_of_ble_eq_true rfl) rfl (fun ls hl => ?_)
  rw [fX5_signAt] at hf
  refine lv_aload_n hx hb dX5_signAt_0 rfl (lv_at hl 0 rfl) ?_
  refine lv_iload_n hx hb dX5_signAt_1 rfl (lv_at hl 1 rfl) ?_
  refine xb hf (fun v1 hv1 hf => ?_)
  refine exb_c hf (fun e9 h9 hf => ?_) (fun r2 h9 hf => ?_)
  · cases hf
    exact xt_V (rest := []) ⟨hx, hb, hml, hown, hts⟩ (eX5_textOf htr (exo_s hv1 h9)) (cwV 1 hts gX5_signAt_X5_textOf rfl rfl rfl hqX5_textOf ⟨Nat.le_of_ble_eq_true rfl, Nat.le_of_ble_eq_true rfl⟩) X hT (va_recv X.1 X.2.1 (ci := 1) (q0 := 14) rfl wlC_14) rfl hl.1 rfl (Nat.le_of_ble_eq_true rfl) dX5_signAt_2 ⟨Nat.le_of_ble_eq_true rfl, Nat.le_of_ble_eq_true rfl⟩ hexc hlocks
  · have hr2 : r2 < 7 := fX5_textOf_lt (exo_s hv1 h9)
    refine xc_V1 (rest := []) ⟨hx, hb, hml, hown, hts⟩ (mX5_textOf (exo_s hv1 h9)) (cwV 1 hts gX5_signAt_X5_textOf rfl rfl rfl hqX5_textOf ⟨Nat.le_of_ble_eq_true rfl, Nat.le_of_ble_eq_true rfl⟩) X (va_recv X.1 X.2.1 (ci := 1) (q0 := 14) rfl wlC_14) rfl hl.1 rfl (Nat.le_of_ble_eq_true rfl) dX5_signAt_2 ⟨Nat.zero_le _, Nat.zero_le _⟩ (fun H locs X => ?_)
    refine lv_astore_n (lv' := [(3, .ref (ad r2)), (0, .ref (ad 14)), (1, .int x1), (2, .int x2)]) hx hb dX5_signAt_5 rfl hl (by decide) rfl (fun ls hl => ?_)
    refine lv_aload_n hx hb dX5_signAt_6 rfl (lv_at hl 0 rfl) ?_
    refine lv_iload_n hx hb dX5_signAt_7 rfl (lv_at hl 3 rfl) ?_
    refine xb hf (fun v3 hv3 hf => ?_)
    refine exb_c hf (fun e9 h9 hf => ?_) (fun r4 h9 hf => ?_)
    · cases hf
      exact xt_S (rest := []) ⟨hx, hb, hml, hown, hts⟩ (eX5_requirePlace htr hr2 (exo_s hv3 h9)) (va_cwS 2 hts gX5_signAt_X5_requirePlace rfl rfl rfl hqX5_requirePlace ⟨Nat.le_of_ble_eq_true rfl, Nat.le_of_ble_eq_true rfl⟩) X hT rfl hl.1 rfl (Nat.le_of_ble_eq_true rfl) dX5_signAt_8 ⟨Nat.le_of_ble_eq_true rfl, Nat.le_of_ble_eq_true rfl⟩ hexc hlocks
    · refine xc_S0 (rest := []) ⟨hx, hb, hml, hown, hts⟩ (mX5_requirePlace hr2 (exo_s hv3 h9)) (va_cwS 2 hts gX5_signAt_X5_requirePlace rfl rfl rfl hqX5_requirePlace ⟨Nat.le_of_ble_eq_true rfl, Nat.le_of_ble_eq_true rfl⟩) X rfl hl.1 rfl (Nat.le_of_ble_eq_true rfl) dX5_signAt_8 ⟨Nat.zero_le _, Nat.zero_le _⟩ (fun H locs X => ?_)
      refine lv_aload_n hx hb dX5_signAt_11 rfl (lv_at hl 0 rfl) ?_
      refine lv_iload_n hx hb dX5_signAt_12 rfl (lv_at hl 3 rfl) ?_
      refine xb hf (fun v5 hv hf => ?_)
      refine xc_V1 (rest := []) ⟨hx, hb, hml, hown, hts⟩ (mX4_signOn hr2 hv) (cwV 1 hts gX5_signAt_X4_signOn rfl rfl rfl hqX4_signOn ⟨Nat.le_of_ble_eq_true rfl, Nat.le_of_ble_eq_true rfl⟩) X (va_recv X.1 X.2.1 (ci := 0) (q0 := r2) rfl (wlC_t hr2)) rfl hl.1 rfl (Nat.le_of_ble_eq_true rfl) dX5_signAt_13 ⟨Nat.zero_le _, Nat.zero_le _⟩ (fun H locs X => ?_)
      refine xb hf (fun z9 hz hf => ?_)
      obtain ⟨hn, rfl⟩ := ckC_some hz
      cases hf
set_option maxRecDepth 100000 in
set_option maxHeartbeats 4000000 in
theorem mX5_becomeBuilt {l : Launch} {dd : va_G} {cy : Nat → ClassId} {ad : Nat → Nat} {A : Nat → Prop} {fu : Nat} {ts : Nat → Int32} {tc : Nat → Nat → Int32} {rk : Nat → Int32} {pl : Nat → Int32} {ru : Nat → Int64} {sl : Nat → Int32} {bg : Nat → Int32} {kn : Nat → Int64} {rm : Int32} {ol : Nat → Int64} {od : Nat → UInt64} {j1 : Nat} {rv : Int32} {tso : Nat → Int32} {tco : Nat → Nat → Int32} (hj1 : j1 < 7) (hf : fX5_becomeBuilt fu ts tc j1 = some (rv, tso, tco)) : Met l yX5_becomeBuilt wsX5_becomeBuilt { frames := 4, cells := 0, slots := 0, locals := 87 } (va_Pc [.ref (ad 14), .ref (ad j1)] (IW dd cy A (wlC ad cy ts tc rk pl ru sl bg kn rm ol od))) (QX dd cy A (some (.int rv)) (wlC ad cy tso tco rk pl ru sl bg kn rm ol od)) 0 0 A := by
  refine Met.ofW (cc := cX5_becomeBuilt) (maxL := 2) (ret := some .int) (by decide) rfl ?_
  intro p e s m args below meth c s₁ B hml hv
  obtain ⟨hav, hI⟩ := hv
  have hx := B.exec
  have hb := B.bytes
  have hr := B.returns
  have hts := atoms_spec (ws := wsX5_becomeBuilt) B.pre
  have hown : s.vm.findClass RX5 = some m.cls := findClass_of_methodNamed B.named
  have hlocks := B.notSynchronized
  have X := XW.of hI
  have h5 : ∀ w ∈ wsX50, w ∈ wsX5_becomeBuilt := by decide +kernel
  refine xe_in hav (Nat.le_of_ble_eq_true rfl) rfl (fun ls hl => ?_)
  rw [fX5_becomeBuilt] at hf
  refine lv_aload_n hx hb dX5_becomeBuilt_0 rfl (lv_at hl 1 rfl) ?_
  refine lv_aload_n hx hb dX5_becomeBuilt_1 rfl (lv_at hl 0 rfl) ?_
  refine xg_f hx hb hts hown X h5 14 wlC_14 rfl 1 (by decide) (by decide +kernel) (v := .ref (ad 6)) rfl dX5_becomeBuilt_2 ?_
  refine xb hf (fun v1 hv hf => ?_)
  refine xc_V0 (rest := []) ⟨hx, hb, hml, hown, hts⟩ (mX4_become hj1 (by decide) hv) (cwV 1 hts gX5_becomeBuilt_X4_become rfl rfl rfl hqX4_become ⟨Nat.le_of_ble_eq_true rfl, Nat.le_of_ble_eq_true rfl⟩) X (va_recv X.1 X.2.1 (ci := 0) (q0 := j1) rfl (wlC_t hj1)) rfl hl.1 rfl (Nat.le_of_ble_eq_true rfl) dX5_becomeBuilt_5 ⟨Nat.zero_le _, Nat.zero_le _⟩ (fun H locs X => ?_)
  refine lv_aload_n hx hb dX5_becomeBuilt_8 rfl (lv_at hl 1 rfl) ?_
  refine xb hf (fun v2 hv hf => ?_)
  refine xc_V1 (rest := []) ⟨hx, hb, hml, hown, hts⟩ (mX4_size hj1 hv) (cwV 0 hts gX5_becomeBuilt_X4_size rfl rfl rfl hqX4_size ⟨Nat.le_of_ble_eq_true rfl, Nat.le_of_ble_eq_true rfl⟩) X (va_recv X.1 X.2.1 (ci := 0) (q0 := j1) rfl (wlC_t hj1)) rfl hl.1 rfl (Nat.le_of_ble_eq_true rfl) dX5_becomeBuilt_9 ⟨Nat.zero_le _, Nat.zero_le _⟩ (fun H locs X => ?_)
  cases hf
  exact xe_i hx hb hr hlocks X dX5_becomeBuilt_12
set_option maxRecDepth 100000 in
set_option maxHeartbeats 4000000 in
theorem mX5_join {l : Launch} {dd : va_G} {cy : Nat → ClassId} {ad : Nat → Nat} {A : Nat → Prop} {fu : Nat} {ts : Nat → Int32} {tc : Nat → Nat → Int32} {rk : Nat → Int32} {pl : Nat → Int32} {ru : Nat → Int64} {sl : Nat → Int32} {bg : Nat → Int32} {kn : Nat → Int64} {rm : Int32} {ol : Nat → Int64} {od : Nat → UInt64} {x1 : Int32} {x2 : Int32} {x3 : Int32} {rv : Int32} {tso : Nat → Int32} {tco : Nat → Nat → Int32} (hf : fX5_join fu ts tc x1 x2 x3 = some (.ok rv, tso, tco)) : Met l yX5_join wsX5_join { frames := 5, cells := 0, slots := 0, locals := 108 } (va_Pc [.ref (ad 14), .int x1, .int x2, .int x3] (IW dd cy A (wlC ad cy ts tc rk pl ru sl bg kn rm ol od))) (QX dd cy A (some (.int rv)) (wlC ad cy tso tco rk pl ru sl bg kn rm ol od)) 0 0 A := by
  refine Met.ofW (cc := cX5_join) (maxL := 7) (ret := some .int) (by decide) rfl ?_
  intro p e s m args below meth c s₁ B hml hv
  obtain ⟨hav, hI⟩ := hv
  have hx := B.exec
  have hb := B.bytes
  have hr := B.returns
  have hts := atoms_spec (ws := wsX5_join) B.pre
  have hown : s.vm.findClass RX5 = some m.cls := findClass_of_methodNamed B.named
  have hlocks := B.notSynchronized
  have X := XW.of hI
  have h5 : ∀ w ∈ wsX50, w ∈ wsX5_join := by decide +kernel
  refine xe_in hav (Nat.le_of_ble_eq_true rfl) rfl (fun ls hl => ?_)
  rw [fX5_join] at hf
  refine lv_aload_n hx hb dX5_join_0 rfl (lv_at hl 0 rfl) ?_
  refine lv_iload_n hx hb dX5_join_1 rfl (lv_at hl 1 rfl) ?_
  refine xb hf (fun v1 hv1 hf => ?_)
  refine exb_c hf (fun e9 h9 hf => ?_) (fun r2 h9 hf => ?_)
  · cases hf
  · have hr2 : r2 < 7 := fX5_textOf_lt (exo_s hv1 h9)
    refine xc_V1 (rest := []) ⟨hx, hb, hml, hown, hts⟩ (mX5_textOf (exo_s hv1 h9)) (cwV 1 hts gX5_join_X5_textOf rfl rfl rfl hqX5_textOf ⟨Nat.le_of_ble_eq_true rfl, Nat.le_of_ble_eq_true rfl⟩) X (va_recv X.1 X.2.1 (ci := 1) (q0 := 14) rfl wlC_14) rfl hl.1 rfl (Nat.le_of_ble_eq_true rfl) dX5_join_2 ⟨Nat.zero_le _, Nat.zero_le _⟩ (fun H locs X => ?_)
    refine lv_astore (lv' := [(4, .ref (ad r2)), (0, .ref (ad 14)), (1, .int x1), (2, .int x2), (3, .int x3)]) hx hb dX5_join_5 hl (by decide) rfl (fun ls hl => ?_)
    refine lv_aload_n hx hb dX5_join_7 rfl (lv_at hl 1 rfl) ?_
    refine lv_iload_n hx hb dX5_join_8 rfl (lv_at hl 3 rfl) ?_
    refine xb hf (fun v3 hv3 hf => ?_)
    refine exb_c hf (fun e9 h9 hf => ?_) (fun r4 h9 hf => ?_)
    · cases hf
    · have hr4 : r4 < 7 := fX5_textOf_lt (exo_s hv3 h9)
      refine xc_V1 (rest := []) ⟨hx, hb, hml, hown, hts⟩ (mX5_textOf (exo_s hv3 h9)) (cwV 1 hts gX5_join_X5_textOf rfl rfl rfl hqX5_textOf ⟨Nat.le_of_ble_eq_true rfl, Nat.le_of_ble_eq_true rfl⟩) X (va_recv X.1 X.2.1 (ci := 1) (q0 := 14) rfl wlC_14) rfl hl.1 rfl (Nat.le_of_ble_eq_true rfl) dX5_join_9 ⟨Nat.zero_le _, Nat.zero_le _⟩ (fun H locs X => ?_)
      refine lv_astore (lv' := [(5, .ref (ad r4)), (4, .ref (ad r2)), (0, .ref (ad 14)), (1, .int x1), (2, .int x2), (3, .int x3)]) hx hb dX5_join_12 hl (by decide) rfl (fun ls hl => ?_)
      refine lv_aload_n hx hb dX5_join_14 rfl (lv_at hl 2 rfl) ?_
      refine lv_iload_n hx hb dX5_join_15 rfl (lv_at hl 5 rfl) ?_
      refine xb hf (fun v5 hv5 hf => ?_)
      refine exb_c hf (fun e9 h9 hf => ?_) (fun r6 h9 hf => ?_)
      · cases hf
      · have hr6 : r6 < 7 := fX5_textOf_lt (exo_s hv5 h9)
        refine xc_V1 (rest := []) ⟨hx, hb, hml, hown, hts⟩ (mX5_textOf (exo_s hv5 h9)) (cwV 1 hts gX5_join_X5_textOf rfl rfl rfl hqX5_textOf ⟨Nat.le_of_ble_eq_true rfl, Nat.le_of_ble_eq_true rfl⟩) X (va_recv X.1 X.2.1 (ci := 1) (q0 := 14) rfl wlC_14) rfl hl.1 rfl (Nat.le_of_ble_eq_true rfl) dX5_join_16 ⟨Nat.zero_le _, Nat.zero_le _⟩ (fun H locs X => ?_)
        refine lv_astore (lv' := [(6, .ref (ad r6)), (5, .ref (ad r4)), (4, .ref (ad r2)), (0, .ref (ad 14)), (1, .int x1), (2, .int x2), (3, .int x3)]) hx hb dX5_join_19 hl (by decide) rfl (fun ls hl => ?_)
        refine lv_aload hx hb dX5_join_21 (lv_at hl 1 rfl) ?_
        refine xb hf (fun v7 hv hf => ?_)
        refine xc_V1 (rest := []) ⟨hx, hb, hml, hown, hts⟩ (mX4_size hr4 hv) (cwV 0 hts gX5_join_X4_size rfl rfl rfl hqX4_size ⟨Nat.le_of_ble_eq_true rfl, Nat.le_of_ble_eq_true rfl⟩) X (va_recv X.1 X.2.1 (ci := 0) (q0 := r4) rfl (wlC_t hr4)) rfl hl.1 rfl (Nat.le_of_ble_eq_true rfl) dX5_join_23 ⟨Nat.zero_le _, Nat.zero_le _⟩ (fun H locs X => ?_)
        refine lv_aload hx hb dX5_join_26 (lv_at hl 0 rfl) ?_
        refine xb hf (fun v8 hv hf => ?_)
        refine xc_V1 (rest := [.int v7]) ⟨hx, hb, hml, hown, hts⟩ (mX4_size hr6 hv) (cwV 0 hts gX5_join_X4_size rfl rfl rfl hqX4_size ⟨Nat.le_of_ble_eq_true rfl, Nat.le_of_ble_eq_true rfl⟩) X (va_recv X.1 X.2.1 (ci := 0) (q0 := r6) rfl (wlC_t hr6)) rfl hl.1 rfl (Nat.le_of_ble_eq_true rfl) dX5_join_28 ⟨Nat.zero_le _, Nat.zero_le _⟩ (fun H locs X => ?_)
        refine lv_iadd hx hb dX5_join_31 ?_
        refine lv_i2l (v := ((v7 + v8).toInt64)) hx hb dX5_join_32 rfl ?_
        refine xb hf (fun v9 hv9 hf => ?_)
        refine exb_c hf (fun e9 h9 hf => ?_) (fun r10 h9 hf => ?_)
        · cases hf
        · refine xc_S0 (rest := []) ⟨hx, hb, hml, hown, hts⟩ (mX5_requireRoom (exo_s hv9 h9)) (va_cwS 1 hts gX5_join_X5_requireRoom rfl rfl rfl hqX5_requireRoom ⟨Nat.le_of_ble_eq_true rfl, Nat.le_of_ble_eq_true rfl⟩) X rfl hl.1 rfl (Nat.le_of_ble_eq_true rfl) dX5_join_33 ⟨Nat.zero_le _, Nat.zero_le _⟩ (fun H locs X => ?_)
          refine lv_aload_n hx hb dX5_join_36 rfl (lv_at hl 3 rfl) ?_
          refine xg_f hx hb hts hown X h5 14 wlC_14 rfl 1 (by decide) (by decide +kernel) (v := .ref (ad 6)) rfl dX5_join_37 ?_
          refine xb hf (fun v11 hv hf => ?_)
          refine xc_V0 (rest := []) ⟨hx, hb, hml, hown, hts⟩ (mX4_clear (by decide) hv) (cwV 0 hts gX5_join_X4_clear rfl rfl rfl hqX4_clear ⟨Nat.le_of_ble_eq_true rfl, Nat.le_of_ble_eq_true rfl⟩) X (va_recv X.1 X.2.1 (ci := 0) (q0 := 6) rfl (wlC_t (by decide))) rfl hl.1 rfl (Nat.le_of_ble_eq_true rfl) dX5_join_40 ⟨Nat.zero_le _, Nat.zero_le _⟩ (fun H locs X => ?_)
          refine lv_aload_n hx hb dX5_join_43 rfl (lv_at hl 3 rfl) ?_
          refine xg_f hx hb hts hown X h5 14 wlC_14 rfl 1 (by decide) (by decide +kernel) (v := .ref (ad 6)) rfl dX5_join_44 ?_
          refine lv_aload hx hb dX5_join_47 (lv_at hl 1 rfl) ?_
          refine xb hf (fun v12 hv hf => ?_)
          refine xc_V0 (rest := []) ⟨hx, hb, hml, hown, hts⟩ (mX4_addAll (by decide) hr4 hv) (cwV 1 hts gX5_join_X4_addAll rfl rfl rfl hqX4_addAll ⟨Nat.le_of_ble_eq_true rfl, Nat.le_of_ble_eq_true rfl⟩) X (va_recv X.1 X.2.1 (ci := 0) (q0 := 6) rfl (wlC_t (by decide))) rfl hl.1 rfl (Nat.le_of_ble_eq_true rfl) dX5_join_49 ⟨Nat.zero_le _, Nat.zero_le _⟩ (fun H locs X => ?_)
          refine lv_aload_n hx hb dX5_join_52 rfl (lv_at hl 3 rfl) ?_
          refine xg_f hx hb hts hown X h5 14 wlC_14 rfl 1 (by decide) (by decide +kernel) (v := .ref (ad 6)) rfl dX5_join_53 ?_
          refine lv_aload hx hb dX5_join_56 (lv_at hl 0 rfl) ?_
          refine xb hf (fun v13 hv hf => ?_)
          refine xc_V0 (rest := []) ⟨hx, hb, hml, hown, hts⟩ (mX4_addAll (by decide) hr6 hv) (cwV 1 hts gX5_join_X4_addAll rfl rfl rfl hqX4_addAll ⟨Nat.le_of_ble_eq_true rfl, Nat.le_of_ble_eq_true rfl⟩) X (va_recv X.1 X.2.1 (ci := 0) (q0 := 6) rfl (wlC_t (by decide))) rfl hl.1 rfl (Nat.le_of_ble_eq_true rfl) dX5_join_58 ⟨Nat.zero_le _, Nat.zero_le _⟩ (fun H locs X => ?_)
          refine lv_aload_n hx hb dX5_join_61 rfl (lv_at hl 3 rfl) ?_
          refine lv_aload hx hb dX5_join_62 (lv_at hl 2 rfl) ?_
          refine xb hf (fun v14 hv hf => ?_)
          refine xc_V1 (rest := []) ⟨hx, hb, hml, hown, hts⟩ (mX5_becomeBuilt hr2 hv) (cwV 1 hts gX5_join_X5_becomeBuilt rfl rfl rfl hqX5_becomeBuilt ⟨Nat.le_of_ble_eq_true rfl, Nat.le_of_ble_eq_true rfl⟩) X (va_recv X.1 X.2.1 (ci := 1) (q0 := 14) rfl wlC_14) rfl hl.1 rfl (Nat.le_of_ble_eq_true rfl) dX5_join_64 ⟨Nat.zero_le _, Nat.zero_le _⟩ (fun H locs X => ?_)
          cases hf
          exact xe_i hx hb hr hlocks X dX5_join_67
set_option maxRecDepth 100000 in
set_option maxHeartbeats 4000000 in
theorem eX5_join {l : Launch} {dd : va_G} {cy : Nat → ClassId} {ad : Nat → Nat} {A : Nat → Prop} {fu : Nat} {ts : Nat → Int32} {tc : Nat → Nat → Int32} {rk : Nat → Int32} {pl : Nat → Int32} {ru : Nat → Int64} {sl : Nat → Int32} {bg : Nat → Int32} {kn : Nat → Int64} {rm : Int32} {ol : Nat → Int64} {od : Nat → UInt64} {x1 : Int32} {x2 : Int32} {x3 : Int32} {E9 : String} {tso : Nat → Int32} {tco : Nat → Nat → Int32} (htr : l.stackTraces = false) (hf : fX5_join fu ts tc x1 x2 x3 = some (.error E9, tso, tco)) : vx_Met l yX5_join wsX5_join { frames := 7, cells := 1, slots := 6, locals := 121 } (va_Pc [.ref (ad 14), .int x1, .int x2, .int x3] (IT dd cy A (wlC ad cy ts tc rk pl ru sl bg kn rm ol od))) (fun _ _ _ _ => False) (XE dd cy A E9 (wlC ad cy tso tco rk pl ru sl bg kn rm ol od)) 1 6 A := by
  refine vx_ofW (cc := cX5_join) (maxL := 7) (ret := some .int) (by decide) rfl ?_
  intro p e s m args below meth c s₁ B hml hexc hv
  obtain ⟨hav, hI, hT⟩ := hv
  have hx := B.exec
  have hb := B.bytes
  have hr := B.returns
  have hts := atoms_spec (ws := wsX5_join) B.pre
  have hown : s.vm.findClass RX5 = some m.cls := findClass_of_methodNamed B.named
  have hlocks := B.notSynchronized
  have X := XW.of hI
  have h5 : ∀ w ∈ wsX50, w ∈ wsX5_join := by decide +kernel
  refine xe_in hav (Nat.le_of_ble_eq_true rfl) rfl (fun ls hl => ?_)
  rw [fX5_join] at hf
  refine lv_aload_n hx hb dX5_join_0 rfl (lv_at hl 0 rfl) ?_
  refine lv_iload_n hx hb dX5_join_1 rfl (lv_at hl 1 rfl) ?_
  refine xb hf (fun v1 hv1 hf => ?_)
  refine exb_c hf (fun e9 h9 hf => ?_) (fun r2 h9 hf => ?_)
  · cases hf
    exact xt_V (rest := []) ⟨hx, hb, hml, hown, hts⟩ (eX5_textOf htr (exo_s hv1 h9)) (cwV 1 hts gX5_join_X5_textOf rfl rfl rfl hqX5_textOf ⟨Nat.le_of_ble_eq_true rfl, Nat.le_of_ble_eq_true rfl⟩) X hT (va_recv X.1 X.2.1 (ci := 1) (q0 := 14) rfl wlC_14) rfl hl.1 rfl (Nat.le_of_ble_eq_true rfl) dX5_join_2 ⟨Nat.le_of_ble_eq_true rfl, Nat.le_of_ble_eq_true rfl⟩ hexc hlocks
  · have hr2 : r2 < 7 := fX5_textOf_lt (exo_s hv1 h9)
    refine xc_V1 (rest := []) ⟨hx, hb, hml, hown, hts⟩ (mX5_textOf (exo_s hv1 h9)) (cwV 1 hts gX5_join_X5_textOf rfl rfl rfl hqX5_textOf ⟨Nat.le_of_ble_eq_true rfl, Nat.le_of_ble_eq_true rfl⟩) X (va_recv X.1 X.2.1 (ci := 1) (q0 := 14) rfl wlC_14) rfl hl.1 rfl (Nat.le_of_ble_eq_true rfl) dX5_join_2 ⟨Nat.zero_le _, Nat.zero_le _⟩ (fun H locs X => ?_)
    refine lv_astore (lv' := [(4, .ref (ad r2)), (0, .ref (ad 14)), (1, .int x1), (2, .int x2), (3, .int x3)]) hx hb dX5_join_5 hl (by decide) rfl (fun ls hl => ?_)
    refine lv_aload_n hx hb dX5_join_7 rfl (lv_at hl 1 rfl) ?_
    refine lv_iload_n hx hb dX5_join_8 rfl (lv_at hl 3 rfl) ?_
    refine xb hf (fun v3 hv3 hf => ?_)
    refine exb_c hf (fun e9 h9 hf => ?_) (fun r4 h9 hf => ?_)
    · cases hf
      exact xt_V (rest := []) ⟨hx, hb, hml, hown, hts⟩ (eX5_textOf htr (exo_s hv3 h9)) (cwV 1 hts gX5_join_X5_textOf rfl rfl rfl hqX5_textOf ⟨Nat.le_of_ble_eq_true rfl, Nat.le_of_ble_eq_true rfl⟩) X hT (va_recv X.1 X.2.1 (ci := 1) (q0 := 14) rfl wlC_14) rfl hl.1 rfl (Nat.le_of_ble_eq_true rfl) dX5_join_9 ⟨Nat.le_of_ble_eq_true rfl, Nat.le_of_ble_eq_true rfl⟩ hexc hlocks
    · have hr4 : r4 < 7 := fX5_textOf_lt (exo_s hv3 h9)
      refine xc_V1 (rest := []) ⟨hx, hb, hml, hown, hts⟩ (mX5_textOf (exo_s hv3 h9)) (cwV 1 hts gX5_join_X5_textOf rfl rfl rfl hqX5_textOf ⟨Nat.le_of_ble_eq_true rfl, Nat.le_of_ble_eq_true rfl⟩) X (va_recv X.1 X.2.1 (ci := 1) (q0 := 14) rfl wlC_14) rfl hl.1 rfl (Nat.le_of_ble_eq_true rfl) dX5_join_9 ⟨Nat.zero_le _, Nat.zero_le _⟩ (fun H locs X => ?_)
      refine lv_astore (lv' := [(5, .ref (ad r4)), (4, .ref (ad r2)), (0, .ref (ad 14)), (1, .int x1), (2, .int x2), (3, .int x3)]) hx hb dX5_join_12 hl (by decide) rfl (fun ls hl => ?_)
      refine lv_aload_n hx hb dX5_join_14 rfl (lv_at hl 2 rfl) ?_
      refine lv_iload_n hx hb dX5_join_15 rfl (lv_at hl 5 rfl) ?_
      refine xb hf (fun v5 hv5 hf => ?_)
      refine exb_c hf (fun e9 h9 hf => ?_) (fun r6 h9 hf => ?_)
      · cases hf
        exact xt_V (rest := []) ⟨hx, hb, hml, hown, hts⟩ (eX5_textOf htr (exo_s hv5 h9)) (cwV 1 hts gX5_join_X5_textOf rfl rfl rfl hqX5_textOf ⟨Nat.le_of_ble_eq_true rfl, Nat.le_of_ble_eq_true rfl⟩) X hT (va_recv X.1 X.2.1 (ci := 1) (q0 := 14) rfl wlC_14) rfl hl.1 rfl (Nat.le_of_ble_eq_true rfl) dX5_join_16 ⟨Nat.le_of_ble_eq_true rfl, Nat.le_of_ble_eq_true rfl⟩ hexc hlocks
      · have hr6 : r6 < 7 := fX5_textOf_lt (exo_s hv5 h9)
        refine xc_V1 (rest := []) ⟨hx, hb, hml, hown, hts⟩ (mX5_textOf (exo_s hv5 h9)) (cwV 1 hts gX5_join_X5_textOf rfl rfl rfl hqX5_textOf ⟨Nat.le_of_ble_eq_true rfl, Nat.le_of_ble_eq_true rfl⟩) X (va_recv X.1 X.2.1 (ci := 1) (q0 := 14) rfl wlC_14) rfl hl.1 rfl (Nat.le_of_ble_eq_true rfl) dX5_join_16 ⟨Nat.zero_le _, Nat.zero_le _⟩ (fun H locs X => ?_)
        refine lv_astore (lv' := [(6, .ref (ad r6)), (5, .ref (ad r4)), (4, .ref (ad r2)), (0, .ref (ad 14)), (1, .int x1), (2, .int x2), (3, .int x3)]) hx hb dX5_join_19 hl (by decide) rfl (fun ls hl => ?_)
        refine lv_aload hx hb dX5_join_21 (lv_at hl 1 rfl) ?_
        refine xb hf (fun v7 hv hf => ?_)
        refine xc_V1 (rest := []) ⟨hx, hb, hml, hown, hts⟩ (mX4_size hr4 hv) (cwV 0 hts gX5_join_X4_size rfl rfl rfl hqX4_size ⟨Nat.le_of_ble_eq_true rfl, Nat.le_of_ble_eq_true rfl⟩) X (va_recv X.1 X.2.1 (ci := 0) (q0 := r4) rfl (wlC_t hr4)) rfl hl.1 rfl (Nat.le_of_ble_eq_true rfl) dX5_join_23 ⟨Nat.zero_le _, Nat.zero_le _⟩ (fun H locs X => ?_)
        refine lv_aload hx hb dX5_join_26 (lv_at hl 0 rfl) ?_
        refine xb hf (fun v8 hv hf => ?_)
        refine xc_V1 (rest := [.int v7]) ⟨hx, hb, hml, hown, hts⟩ (mX4_size hr6 hv) (cwV 0 hts gX5_join_X4_size rfl rfl rfl hqX4_size ⟨Nat.le_of_ble_eq_true rfl, Nat.le_of_ble_eq_true rfl⟩) X (va_recv X.1 X.2.1 (ci := 0) (q0 := r6) rfl (wlC_t hr6)) rfl hl.1 rfl (Nat.le_of_ble_eq_true rfl) dX5_join_28 ⟨Nat.zero_le _, Nat.zero_le _⟩ (fun H locs X => ?_)
        refine lv_iadd hx hb dX5_join_31 ?_
        refine lv_i2l (v := ((v7 + v8).toInt64)) hx hb dX5_join_32 rfl ?_
        refine xb hf (fun v9 hv9 hf => ?_)
        refine exb_c hf (fun e9 h9 hf => ?_) (fun r10 h9 hf => ?_)
        · cases hf
          exact xt_S (rest := []) ⟨hx, hb, hml, hown, hts⟩ (eX5_requireRoom htr (exo_s hv9 h9)) (va_cwS 1 hts gX5_join_X5_requireRoom rfl rfl rfl hqX5_requireRoom ⟨Nat.le_of_ble_eq_true rfl, Nat.le_of_ble_eq_true rfl⟩) X hT rfl hl.1 rfl (Nat.le_of_ble_eq_true rfl) dX5_join_33 ⟨Nat.le_of_ble_eq_true rfl, Nat.le_of_ble_eq_true rfl⟩ hexc hlocks
        · refine xc_S0 (rest := []) ⟨hx, hb, hml, hown, hts⟩ (mX5_requireRoom (exo_s hv9 h9)) (va_cwS 1 hts gX5_join_X5_requireRoom rfl rfl rfl hqX5_requireRoom ⟨Nat.le_of_ble_eq_true rfl, Nat.le_of_ble_eq_true rfl⟩) X rfl hl.1 rfl (Nat.le_of_ble_eq_true rfl) dX5_join_33 ⟨Nat.zero_le _, Nat.zero_le _⟩ (fun H locs X => ?_)
          refine lv_aload_n hx hb dX5_join_36 rfl (lv_at hl 3 rfl) ?_
          refine xg_f hx hb hts hown X h5 14 wlC_14 rfl 1 (by decide) (by decide +kernel) (v := .ref (ad 6)) rfl dX5_join_37 ?_
          refine xb hf (fun v11 hv hf => ?_)
          refine xc_V0 (rest := []) ⟨hx, hb, hml, hown, hts⟩ (mX4_clear (by decide) hv) (cwV 0 hts gX5_join_X4_clear rfl rfl rfl hqX4_clear ⟨Nat.le_of_ble_eq_true rfl, Nat.le_of_ble_eq_true rfl⟩) X (va_recv X.1 X.2.1 (ci := 0) (q0 := 6) rfl (wlC_t (by decide))) rfl hl.1 rfl (Nat.le_of_ble_eq_true rfl) dX5_join_40 ⟨Nat.zero_le _, Nat.zero_le _⟩ (fun H locs X => ?_)
          refine lv_aload_n hx hb dX5_join_43 rfl (lv_at hl 3 rfl) ?_
          refine xg_f hx hb hts hown X h5 14 wlC_14 rfl 1 (by decide) (by decide +kernel) (v := .ref (ad 6)) rfl dX5_join_44 ?_
          refine lv_aload hx hb dX5_join_47 (lv_at hl 1 rfl) ?_
          refine xb hf (fun v12 hv hf => ?_)
          refine xc_V0 (rest := []) ⟨hx, hb, hml, hown, hts⟩ (mX4_addAll (by decide) hr4 hv) (cwV 1 hts gX5_join_X4_addAll rfl rfl rfl hqX4_addAll ⟨Nat.le_of_ble_eq_true rfl, Nat.le_of_ble_eq_true rfl⟩) X (va_recv X.1 X.2.1 (ci := 0) (q0 := 6) rfl (wlC_t (by decide))) rfl hl.1 rfl (Nat.le_of_ble_eq_true rfl) dX5_join_49 ⟨Nat.zero_le _, Nat.zero_le _⟩ (fun H locs X => ?_)
          refine lv_aload_n hx hb dX5_join_52 rfl (lv_at hl 3 rfl) ?_
          refine xg_f hx hb hts hown X h5 14 wlC_14 rfl 1 (by decide) (by decide +kernel) (v := .ref (ad 6)) rfl dX5_join_53 ?_
          refine lv_aload hx hb dX5_join_56 (lv_at hl 0 rfl) ?_
          refine xb hf (fun v13 hv hf => ?_)
          refine xc_V0 (rest := []) ⟨hx, hb, hml, hown, hts⟩ (mX4_addAll (by decide) hr6 hv) (cwV 1 hts gX5_join_X4_addAll rfl rfl rfl hqX4_addAll ⟨Nat.le_of_ble_eq_true rfl, Nat.le_of_ble_eq_true rfl⟩) X (va_recv X.1 X.2.1 (ci := 0) (q0 := 6) rfl (wlC_t (by decide))) rfl hl.1 rfl (Nat.le_of_ble_eq_true rfl) dX5_join_58 ⟨Nat.zero_le _, Nat.zero_le _⟩ (fun H locs X => ?_)
          refine lv_aload_n hx hb dX5_join_61 rfl (lv_at hl 3 rfl) ?_
          refine lv_aload hx hb dX5_join_62 (lv_at hl 2 rfl) ?_
          refine xb hf (fun v14 hv hf => ?_)
          refine xc_V1 (rest := []) ⟨hx, hb, hml, hown, hts⟩ (mX5_becomeBuilt hr2 hv) (cwV 1 hts gX5_join_X5_becomeBuilt rfl rfl rfl hqX5_becomeBuilt ⟨Nat.le_of_ble_eq_true rfl, Nat.le_of_ble_eq_true rfl⟩) X (va_recv X.1 X.2.1 (ci := 1) (q0 := 14) rfl wlC_14) rfl hl.1 rfl (Nat.le_of_ble_eq_true rfl) dX5_join_64 ⟨Nat.zero_le _, Nat.zero_le _⟩ (fun H locs X => ?_)
          cases hf
set_option maxRecDepth 100000 in
set_option maxHeartbeats 4000000 in
theorem mX5_repeat {l : Launch} {dd : va_G} {cy : Nat → ClassId} {ad : Nat → Nat} {A : Nat → Prop} {fu : Nat} {ts : Nat → Int32} {tc : Nat → Nat → Int32} {rk : Nat → Int32} {pl : Nat → Int32} {ru : Nat → Int64} {sl : Nat → Int32} {bg : Nat → Int32} {kn : Nat → Int64} {rm : Int32} {ol : Nat → Int64} {od : Nat → UInt64} {x1 : Int32} {x2 : Int32} {x3 : Int32} {rv : Int32} {tso : Nat → Int32} {tco : Nat → Nat → Int32} (hf : fX5_repeat fu ts tc x1 x2 x3 = some (.ok rv, tso, tco)) : Met l yX5_repeat wsX5_repeat { frames := 5, cells := 0, slots := 0, locals := 108 } (va_Pc [.ref (ad 14), .int x1, .int x2, .int x3] (IW dd cy A (wlC ad cy ts tc rk pl ru sl bg kn rm ol od))) (QX dd cy A (some (.int rv)) (wlC ad cy tso tco rk pl ru sl bg kn rm ol od)) 0 0 A := by
  refine Met.ofW (cc := cX5_repeat) (maxL := 8) (ret := some .int) (by decide) rfl ?_
  intro p e s m args below meth c s₁ B hml hv
  obtain ⟨hav, hI⟩ := hv
  have hx := B.exec
  have hb := B.bytes
  have hr := B.returns
  have hts := atoms_spec (ws := wsX5_repeat) B.pre
  have hown : s.vm.findClass RX5 = some m.cls := findClass_of_methodNamed B.named
  have hlocks := B.notSynchronized
  have X := XW.of hI
  have h5 : ∀ w ∈ wsX50, w ∈ wsX5_repeat := by decide +kernel
  refine xe_in hav (Nat.le_of_ble_eq_true rfl) rfl (fun ls hl => ?_)
  have w66 : ∀ (t4 : Nat) (t5 : Nat) (y6 : Int32) (ht4 : t4 < 7) (ht5 : t5 < 7) (n : Nat) (y7 : Int32) (ts : Nat → Int32) (tc : Nat → Nat → Int32), fX5_repeat_66 fu t4 t5 y6 n y7 ts tc = some (.ok rv, tso, tco) → ∀ (H : Heap) (locs : List Loc) (ls : Array Slot), XW dd cy A s (wlC ad cy ts tc rk pl ru sl bg kn rm ol od) H locs → lv_has ls 8 [(0, .ref (ad 14)), (4, .ref (ad t4)), (5, .ref (ad t5)), (6, .int y6), (7, .int y7)] → W p l e (headSpec wsX5_repeat { frames := 5, cells := 0, slots := 0, locals := 108 }).room s m args below meth c H locs 0 0 (MQ below (QX dd cy A (some (.int rv)) (wlC ad cy tso tco rk pl ru sl bg kn rm ol od)) args s 0 0 A) (F0 m 66 ls []) := by
    intro t4 t5 y6 ht4 ht5 n
    induction n with
    | zero => intro y7 ts tc hf; exact absurd hf (by simp [fX5_repeat_66])
    | succ n ih =>
      intro y7 ts tc hf H locs ls X hl
      rw [fX5_repeat_66] at hf
      refine lv_iload hx hb dX5_repeat_66 (lv_at hl 4 rfl) ?_
      refine lv_iload hx hb dX5_repeat_68 (lv_at hl 3 rfl) ?_
      refine xr_icmp_ge (tgt := 88) hx hb dX5_repeat_70 rfl hf (fun hf => ?_) (fun hf => ?_)
      · refine lv_aload_n hx hb dX5_repeat_88 rfl (lv_at hl 0 rfl) ?_
        refine lv_aload hx hb dX5_repeat_89 (lv_at hl 1 rfl) ?_
        refine xb hf (fun v10 hv hf => ?_)
        refine xc_V1 (rest := []) ⟨hx, hb, hml, hown, hts⟩ (mX5_becomeBuilt ht4 hv) (cwV 1 hts gX5_repeat_X5_becomeBuilt rfl rfl rfl hqX5_becomeBuilt ⟨Nat.le_of_ble_eq_true rfl, Nat.le_of_ble_eq_true rfl⟩) X (va_recv X.1 X.2.1 (ci := 1) (q0 := 14) rfl wlC_14) rfl hl.1 rfl (Nat.le_of_ble_eq_true rfl) dX5_repeat_91 ⟨Nat.zero_le _, Nat.zero_le _⟩ (fun H locs X => ?_)
        cases hf
        exact xe_i hx hb hr hlocks X dX5_repeat_94
      · refine lv_aload_n hx hb dX5_repeat_73 rfl (lv_at hl 0 rfl) ?_
        refine xg_f hx hb hts hown X h5 14 wlC_14 rfl 1 (by decide) (by decide +kernel) (v := .ref (ad 6)) rfl dX5_repeat_74 ?_
        refine lv_aload hx hb dX5_repeat_77 (lv_at hl 2 rfl) ?_
        refine xb hf (fun v11 hv hf => ?_)
        refine xc_V0 (rest := []) ⟨hx, hb, hml, hown, hts⟩ (mX4_addAll (by decide) ht5 hv) (cwV 1 hts gX5_repeat_X4_addAll rfl rfl rfl hqX4_addAll ⟨Nat.le_of_ble_eq_true rfl, Nat.le_of_ble_eq_true rfl⟩) X (va_recv X.1 X.2.1 (ci := 0) (q0 := 6) rfl (wlC_t (by decide))) rfl hl.1 rfl (Nat.le_of_ble_eq_true rfl) dX5_repeat_79 ⟨Nat.zero_le _, Nat.zero_le _⟩ (fun H locs X => ?_)
        refine lv_iinc (v := (y7 + 1)) (lv' := [(7, .int (y7 + 1)), (0, .ref (ad 14)), (4, .ref (ad t4)), (5, .ref (ad t5)), (6, .int y6)]) hx hb dX5_repeat_82 hl (k := 4) rfl ii_1 (by decide) rfl (fun ls hl => ?_)
        refine lv_goto (tgt := 66) hx hb dX5_repeat_85 rfl ?_
        exact ih (y7 + 1) v11.1 v11.2 hf _ _ _ X (lv_sub hl [1, 2, 3, 4, 0] rfl)
  have w41 : ∀ (t4 : Nat) (t5 : Nat) (ht4 : t4 < 7) (ht5 : t5 < 7) (s0 : Int32) (ts : Nat → Int32) (tc : Nat → Nat → Int32), fX5_repeat_41 fu t4 t5 s0 ts tc = some (.ok rv, tso, tco) → ∀ (H : Heap) (locs : List Loc) (ls : Array Slot), XW dd cy A s (wlC ad cy ts tc rk pl ru sl bg kn rm ol od) H locs → lv_has ls 8 [(0, .ref (ad 14)), (4, .ref (ad t4)), (5, .ref (ad t5))] → W p l e (headSpec wsX5_repeat { frames := 5, cells := 0, slots := 0, locals := 108 }).room s m args below meth c H locs 0 0 (MQ below (QX dd cy A (some (.int rv)) (wlC ad cy tso tco rk pl ru sl bg kn rm ol od)) args s 0 0 A) (F0 m 41 ls [.int s0]) := by
    intro t4 t5 ht4 ht5 s0 ts tc hf H locs ls X hl
    rw [fX5_repeat_41] at hf
    refine lv_istore (lv' := [(6, .int s0), (0, .ref (ad 14)), (4, .ref (ad t4)), (5, .ref (ad t5))]) hx hb dX5_repeat_41 hl (by decide) rfl (fun ls hl => ?_)
    refine lv_aload hx hb dX5_repeat_43 (lv_at hl 3 rfl) ?_
    refine xb hf (fun v6 hv hf => ?_)
    refine xc_V1 (rest := []) ⟨hx, hb, hml, hown, hts⟩ (mX4_size ht5 hv) (cwV 0 hts gX5_repeat_X4_size rfl rfl rfl hqX4_size ⟨Nat.le_of_ble_eq_true rfl, Nat.le_of_ble_eq_true rfl⟩) X (va_recv X.1 X.2.1 (ci := 0) (q0 := t5) rfl (wlC_t ht5)) rfl hl.1 rfl (Nat.le_of_ble_eq_true rfl) dX5_repeat_45 ⟨Nat.zero_le _, Nat.zero_le _⟩ (fun H locs X => ?_)
    refine lv_i2l (v := (v6.toInt64)) hx hb dX5_repeat_48 rfl ?_
    refine lv_iload hx hb dX5_repeat_49 (lv_at hl 0 rfl) ?_
    refine lv_i2l (v := (s0.toInt64)) hx hb dX5_repeat_51 rfl ?_
    refine lv_lmul hx hb dX5_repeat_52 ?_
    refine xb hf (fun v7 hv7 hf => ?_)
    refine exb_c hf (fun e9 h9 hf => ?_) (fun r8 h9 hf => ?_)
    · cases hf
    · refine xc_S0 (rest := []) ⟨hx, hb, hml, hown, hts⟩ (mX5_requireRoom (exo_s hv7 h9)) (va_cwS 1 hts gX5_repeat_X5_requireRoom rfl rfl rfl hqX5_requireRoom ⟨Nat.le_of_ble_eq_true rfl, Nat.le_of_ble_eq_true rfl⟩) X rfl hl.1 rfl (Nat.le_of_ble_eq_true rfl) dX5_repeat_53 ⟨Nat.zero_le _, Nat.zero_le _⟩ (fun H locs X => ?_)
      refine lv_aload_n hx hb dX5_repeat_56 rfl (lv_at hl 1 rfl) ?_
      refine xg_f hx hb hts hown X h5 14 wlC_14 rfl 1 (by decide) (by decide +kernel) (v := .ref (ad 6)) rfl dX5_repeat_57 ?_
      refine xb hf (fun v9 hv hf => ?_)
      refine xc_V0 (rest := []) ⟨hx, hb, hml, hown, hts⟩ (mX4_clear (by decide) hv) (cwV 0 hts gX5_repeat_X4_clear rfl rfl rfl hqX4_clear ⟨Nat.le_of_ble_eq_true rfl, Nat.le_of_ble_eq_true rfl⟩) X (va_recv X.1 X.2.1 (ci := 0) (q0 := 6) rfl (wlC_t (by decide))) rfl hl.1 rfl (Nat.le_of_ble_eq_true rfl) dX5_repeat_60 ⟨Nat.zero_le _, Nat.zero_le _⟩ (fun H locs X => ?_)
      refine lv_iconst (v := (0 : Int32)) hx hb dX5_repeat_63 rfl ?_
      refine lv_istore (lv' := [(7, .int (0 : Int32)), (6, .int s0), (0, .ref (ad 14)), (4, .ref (ad t4)), (5, .ref (ad t5))]) hx hb dX5_repeat_64 hl (by decide) rfl (fun ls hl => ?_)
      exact w66 t4 t5 s0 ht4 ht5 fu (0 : Int32) v9 tc hf _ _ _ X (lv_sub hl [2, 3, 4, 1, 0] rfl)
  rw [fX5_repeat] at hf
  refine lv_aload_n hx hb dX5_repeat_0 rfl (lv_at hl 0 rfl) ?_
  refine lv_iload_n hx hb dX5_repeat_1 rfl (lv_at hl 1 rfl) ?_
  refine xb hf (fun v1 hv1 hf => ?_)
  refine exb_c hf (fun e9 h9 hf => ?_) (fun r2 h9 hf => ?_)
  · cases hf
  · have hr2 : r2 < 7 := fX5_textOf_lt (exo_s hv1 h9)
    refine xc_V1 (rest := []) ⟨hx, hb, hml, hown, hts⟩ (mX5_textOf (exo_s hv1 h9)) (cwV 1 hts gX5_repeat_X5_textOf rfl rfl rfl hqX5_textOf ⟨Nat.le_of_ble_eq_true rfl, Nat.le_of_ble_eq_true rfl⟩) X (va_recv X.1 X.2.1 (ci := 1) (q0 := 14) rfl wlC_14) rfl hl.1 rfl (Nat.le_of_ble_eq_true rfl) dX5_repeat_2 ⟨Nat.zero_le _, Nat.zero_le _⟩ (fun H locs X => ?_)
    refine lv_astore (lv' := [(4, .ref (ad r2)), (0, .ref (ad 14)), (1, .int x1), (2, .int x2), (3, .int x3)]) hx hb dX5_repeat_5 hl (by decide) rfl (fun ls hl => ?_)
    refine lv_aload_n hx hb dX5_repeat_7 rfl (lv_at hl 1 rfl) ?_
    refine lv_iload_n hx hb dX5_repeat_8 rfl (lv_at hl 3 rfl) ?_
    refine xb hf (fun v3 hv3 hf => ?_)
    refine exb_c hf (fun e9 h9 hf => ?_) (fun r4 h9 hf => ?_)
    · cases hf
    · have hr4 : r4 < 7 := fX5_textOf_lt (exo_s hv3 h9)
      refine xc_V1 (rest := []) ⟨hx, hb, hml, hown, hts⟩ (mX5_textOf (exo_s hv3 h9)) (cwV 1 hts gX5_repeat_X5_textOf rfl rfl rfl hqX5_textOf ⟨Nat.le_of_ble_eq_true rfl, Nat.le_of_ble_eq_true rfl⟩) X (va_recv X.1 X.2.1 (ci := 1) (q0 := 14) rfl wlC_14) rfl hl.1 rfl (Nat.le_of_ble_eq_true rfl) dX5_repeat_9 ⟨Nat.zero_le _, Nat.zero_le _⟩ (fun H locs X => ?_)
      refine lv_astore (lv' := [(5, .ref (ad r4)), (4, .ref (ad r2)), (0, .ref (ad 14)), (1, .int x1), (2, .int x2), (3, .int x3)]) hx hb dX5_repeat_12 hl (by decide) rfl (fun ls hl => ?_)
      refine lv_iload_n hx hb dX5_repeat_14 rfl (lv_at hl 5 rfl) ?_
      refine xr_if_ge (tgt := 28) hx hb dX5_repeat_15 rfl hf (fun hf => ?_) (fun hf => ?_)
      · refine lv_aload hx hb dX5_repeat_28 (lv_at hl 0 rfl) ?_
        refine xb hf (fun v5 hv hf => ?_)
        refine xc_V1 (rest := []) ⟨hx, hb, hml, hown, hts⟩ (mX4_isEmpty hr4 hv) (cwV 0 hts gX5_repeat_X4_isEmpty rfl rfl rfl hqX4_isEmpty ⟨Nat.le_of_ble_eq_true rfl, Nat.le_of_ble_eq_true rfl⟩) X (va_recv X.1 X.2.1 (ci := 0) (q0 := r4) rfl (wlC_t hr4)) rfl hl.1 rfl (Nat.le_of_ble_eq_true rfl) dX5_repeat_30 ⟨Nat.zero_le _, Nat.zero_le _⟩ (fun H locs X => ?_)
        refine xr_if_eq (tgt := 40) hx hb dX5_repeat_33 rfl hf (fun hf => ?_) (fun hf => ?_)
        · refine lv_iload_n hx hb dX5_repeat_40 rfl (lv_at hl 5 rfl) ?_
          exact w41 r2 r4 hr2 hr4 x3 ts tc hf _ _ _ X (lv_sub hl [2, 1, 0] rfl)
        · refine lv_iconst (v := (0 : Int32)) hx hb dX5_repeat_36 rfl ?_
          refine lv_goto (tgt := 41) hx hb dX5_repeat_37 rfl ?_
          exact w41 r2 r4 hr2 hr4 (0 : Int32) ts tc hf _ _ _ X (lv_sub hl [2, 1, 0] rfl)
      · cases hf
set_option maxRecDepth 100000 in
set_option maxHeartbeats 4000000 in
theorem eX5_repeat {l : Launch} {dd : va_G} {cy : Nat → ClassId} {ad : Nat → Nat} {A : Nat → Prop} {fu : Nat} {ts : Nat → Int32} {tc : Nat → Nat → Int32} {rk : Nat → Int32} {pl : Nat → Int32} {ru : Nat → Int64} {sl : Nat → Int32} {bg : Nat → Int32} {kn : Nat → Int64} {rm : Int32} {ol : Nat → Int64} {od : Nat → UInt64} {x1 : Int32} {x2 : Int32} {x3 : Int32} {E9 : String} {tso : Nat → Int32} {tco : Nat → Nat → Int32} (htr : l.stackTraces = false) (hf : fX5_repeat fu ts tc x1 x2 x3 = some (.error E9, tso, tco)) : vx_Met l yX5_repeat wsX5_repeat { frames := 7, cells := 1, slots := 6, locals := 121 } (va_Pc [.ref (ad 14), .int x1, .int x2, .int x3] (IT dd cy A (wlC ad cy ts tc rk pl ru sl bg kn rm ol od))) (fun _ _ _ _ => False) (XE dd cy A E9 (wlC ad cy tso tco rk pl ru sl bg kn rm ol od)) 1 6 A := by
  refine vx_ofW (cc := cX5_repeat) (maxL := 8) (ret := some .int) (by decide) rfl ?_
  intro p e s m args below meth c s₁ B hml hexc hv
  obtain ⟨hav, hI, hT⟩ := hv
  have hx := B.exec
  have hb := B.bytes
  have hr := B.returns
  have hts := atoms_spec (ws := wsX5_repeat) B.pre
  have hown : s.vm.findClass RX5 = some m.cls := findClass_of_methodNamed B.named
  have hlocks := B.notSynchronized
  have X := XW.of hI
  have h5 : ∀ w ∈ wsX50, w ∈ wsX5_repeat := by decide +kernel
  refine xe_in hav (Nat.le_of_ble_eq_true rfl) rfl (fun ls hl => ?_)
  have w66 : ∀ (t4 : Nat) (t5 : Nat) (y6 : Int32) (ht4 : t4 < 7) (ht5 : t5 < 7) (n : Nat) (y7 : Int32) (ts : Nat → Int32) (tc : Nat → Nat → Int32), fX5_repeat_66 fu t4 t5 y6 n y7 ts tc = some (.error E9, tso, tco) → ∀ (H : Heap) (locs : List Loc) (ls : Array Slot), XW dd cy A s (wlC ad cy ts tc rk pl ru sl bg kn rm ol od) H locs → lv_has ls 8 [(0, .ref (ad 14)), (4, .ref (ad t4)), (5, .ref (ad t5)), (6, .int y6), (7, .int y7)] → W p l e (headSpec wsX5_repeat { frames := 7, cells := 1, slots := 6, locals := 121 }).room s m args below meth c H locs 0 0 (vx_MQ below (fun _ _ _ _ => False) (XE dd cy A E9 (wlC ad cy tso tco rk pl ru sl bg kn rm ol od)) args s 1 6 A) (F0 m 66 ls []) := by
    intro t4 t5 y6 ht4 ht5 n
    induction n with
    | zero => intro y7 ts tc hf; exact absurd hf (by simp [fX5_repeat_66])
    | succ n ih =>
      intro y7 ts tc hf H locs ls X hl
      rw [fX5_repeat_66] at hf
      refine lv_iload hx hb dX5_repeat_66 (lv_at hl 4 rfl) ?_
      refine lv_iload hx hb dX5_repeat_68 (lv_at hl 3 rfl) ?_
      refine xr_icmp_ge (tgt := 88) hx hb dX5_repeat_70 rfl hf (fun hf => ?_) (fun hf => ?_)
      · refine lv_aload_n hx hb dX5_repeat_88 rfl (lv_at hl 0 rfl) ?_
        refine lv_aload hx hb dX5_repeat_89 (lv_at hl 1 rfl) ?_
        refine xb hf (fun v10 hv hf => ?_)
        refine xc_V1 (rest := []) ⟨hx, hb, hml, hown, hts⟩ (mX5_becomeBuilt ht4 hv) (cwV 1 hts gX5_repeat_X5_becomeBuilt rfl rfl rfl hqX5_becomeBuilt ⟨Nat.le_of_ble_eq_true rfl, Nat.le_of_ble_eq_true rfl⟩) X (va_recv X.1 X.2.1 (ci := 1) (q0 := 14) rfl wlC_14) rfl hl.1 rfl (Nat.le_of_ble_eq_true rfl) dX5_repeat_91 ⟨Nat.zero_le _, Nat.zero_le _⟩ (fun H locs X => ?_)
        cases hf
      · refine lv_aload_n hx hb dX5_repeat_73 rfl (lv_at hl 0 rfl) ?_
        refine xg_f hx hb hts hown X h5 14 wlC_14 rfl 1 (by decide) (by decide +kernel) (v := .ref (ad 6)) rfl dX5_repeat_74 ?_
        refine lv_aload hx hb dX5_repeat_77 (lv_at hl 2 rfl) ?_
        refine xb hf (fun v11 hv hf => ?_)
        refine xc_V0 (rest := []) ⟨hx, hb, hml, hown, hts⟩ (mX4_addAll (by decide) ht5 hv) (cwV 1 hts gX5_repeat_X4_addAll rfl rfl rfl hqX4_addAll ⟨Nat.le_of_ble_eq_true rfl, Nat.le_of_ble_eq_true rfl⟩) X (va_recv X.1 X.2.1 (ci := 0) (q0 := 6) rfl (wlC_t (by decide))) rfl hl.1 rfl (Nat.le_of_ble_eq_true rfl) dX5_repeat_79 ⟨Nat.zero_le _, Nat.zero_le _⟩ (fun H locs X => ?_)
        refine lv_iinc (v := (y7 + 1)) (lv' := [(7, .int (y7 + 1)), (0, .ref (ad 14)), (4, .ref (ad t4)), (5, .ref (ad t5)), (6, .int y6)]) hx hb dX5_repeat_82 hl (k := 4) rfl ii_1 (by decide) rfl (fun ls hl => ?_)
        refine lv_goto (tgt := 66) hx hb dX5_repeat_85 rfl ?_
        exact ih (y7 + 1) v11.1 v11.2 hf _ _ _ X (lv_sub hl [1, 2, 3, 4, 0] rfl)
  have w41 : ∀ (t4 : Nat) (t5 : Nat) (ht4 : t4 < 7) (ht5 : t5 < 7) (s0 : Int32) (ts : Nat → Int32) (tc : Nat → Nat → Int32), fX5_repeat_41 fu t4 t5 s0 ts tc = some (.error E9, tso, tco) → ∀ (H : Heap) (locs : List Loc) (ls : Array Slot), XW dd cy A s (wlC ad cy ts tc rk pl ru sl bg kn rm ol od) H locs → lv_has ls 8 [(0, .ref (ad 14)), (4, .ref (ad t4)), (5, .ref (ad t5))] → W p l e (headSpec wsX5_repeat { frames := 7, cells := 1, slots := 6, locals := 121 }).room s m args below meth c H locs 0 0 (vx_MQ below (fun _ _ _ _ => False) (XE dd cy A E9 (wlC ad cy tso tco rk pl ru sl bg kn rm ol od)) args s 1 6 A) (F0 m 41 ls [.int s0]) := by
    intro t4 t5 ht4 ht5 s0 ts tc hf H locs ls X hl
    rw [fX5_repeat_41] at hf
    refine lv_istore (lv' := [(6, .int s0), (0, .ref (ad 14)), (4, .ref (ad t4)), (5, .ref (ad t5))]) hx hb dX5_repeat_41 hl (by decide) rfl (fun ls hl => ?_)
    refine lv_aload hx hb dX5_repeat_43 (lv_at hl 3 rfl) ?_
    refine xb hf (fun v6 hv hf => ?_)
    refine xc_V1 (rest := []) ⟨hx, hb, hml, hown, hts⟩ (mX4_size ht5 hv) (cwV 0 hts gX5_repeat_X4_size rfl rfl rfl hqX4_size ⟨Nat.le_of_ble_eq_true rfl, Nat.le_of_ble_eq_true rfl⟩) X (va_recv X.1 X.2.1 (ci := 0) (q0 := t5) rfl (wlC_t ht5)) rfl hl.1 rfl (Nat.le_of_ble_eq_true rfl) dX5_repeat_45 ⟨Nat.zero_le _, Nat.zero_le _⟩ (fun H locs X => ?_)
    refine lv_i2l (v := (v6.toInt64)) hx hb dX5_repeat_48 rfl ?_
    refine lv_iload hx hb dX5_repeat_49 (lv_at hl 0 rfl) ?_
    refine lv_i2l (v := (s0.toInt64)) hx hb dX5_repeat_51 rfl ?_
    refine lv_lmul hx hb dX5_repeat_52 ?_
    refine xb hf (fun v7 hv7 hf => ?_)
    refine exb_c hf (fun e9 h9 hf => ?_) (fun r8 h9 hf => ?_)
    · cases hf
      exact xt_S (rest := []) ⟨hx, hb, hml, hown, hts⟩ (eX5_requireRoom htr (exo_s hv7 h9)) (va_cwS 1 hts gX5_repeat_X5_requireRoom rfl rfl rfl hqX5_requireRoom ⟨Nat.le_of_ble_eq_true rfl, Nat.le_of_ble_eq_true rfl⟩) X hT rfl hl.1 rfl (Nat.le_of_ble_eq_true rfl) dX5_repeat_53 ⟨Nat.le_of_ble_eq_true rfl, Nat.le_of_ble_eq_true rfl⟩ hexc hlocks
    · refine xc_S0 (rest := []) ⟨hx, hb, hml, hown, hts⟩ (mX5_requireRoom (exo_s hv7 h9)) (va_cwS 1 hts gX5_repeat_X5_requireRoom rfl rfl rfl hqX5_requireRoom ⟨Nat.le_of_ble_eq_true rfl, Nat.le_of_ble_eq_true rfl⟩) X rfl hl.1 rfl (Nat.le_of_ble_eq_true rfl) dX5_repeat_53 ⟨Nat.zero_le _, Nat.zero_le _⟩ (fun H locs X => ?_)
      refine lv_aload_n hx hb dX5_repeat_56 rfl (lv_at hl 1 rfl) ?_
      refine xg_f hx hb hts hown X h5 14 wlC_14 rfl 1 (by decide) (by decide +kernel) (v := .ref (ad 6)) rfl dX5_repeat_57 ?_
      refine xb hf (fun v9 hv hf => ?_)
      refine xc_V0 (rest := []) ⟨hx, hb, hml, hown, hts⟩ (mX4_clear (by decide) hv) (cwV 0 hts gX5_repeat_X4_clear rfl rfl rfl hqX4_clear ⟨Nat.le_of_ble_eq_true rfl, Nat.le_of_ble_eq_true rfl⟩) X (va_recv X.1 X.2.1 (ci := 0) (q0 := 6) rfl (wlC_t (by decide))) rfl hl.1 rfl (Nat.le_of_ble_eq_true rfl) dX5_repeat_60 ⟨Nat.zero_le _, Nat.zero_le _⟩ (fun H locs X => ?_)
      refine lv_iconst (v := (0 : Int32)) hx hb dX5_repeat_63 rfl ?_
      refine lv_istore (lv' := [(7, .int (0 : Int32)), (6, .int s0), (0, .ref (ad 14)), (4, .ref (ad t4)), (5, .ref (ad t5))]) hx hb dX5_repeat_64 hl (by decide) rfl (fun ls hl => ?_)
      exact w66 t4 t5 s0 ht4 ht5 fu (0 : Int32) v9 tc hf _ _ _ X (lv_sub hl [2, 3, 4, 1, 0] rfl)
  rw [fX5_repeat] at hf
  refine lv_aload_n hx hb dX5_repeat_0 rfl (lv_at hl 0 rfl) ?_
  refine lv_iload_n hx hb dX5_repeat_1 rfl (lv_at hl 1 rfl) ?_
  refine xb hf (fun v1 hv1 hf => ?_)
  refine exb_c hf (fun e9 h9 hf => ?_) (fun r2 h9 hf => ?_)
  · cases hf
    exact xt_V (rest := []) ⟨hx, hb, hml, hown, hts⟩ (eX5_textOf htr (exo_s hv1 h9)) (cwV 1 hts gX5_repeat_X5_textOf rfl rfl rfl hqX5_textOf ⟨Nat.le_of_ble_eq_true rfl, Nat.le_of_ble_eq_true rfl⟩) X hT (va_recv X.1 X.2.1 (ci := 1) (q0 := 14) rfl wlC_14) rfl hl.1 rfl (Nat.le_of_ble_eq_true rfl) dX5_repeat_2 ⟨Nat.le_of_ble_eq_true rfl, Nat.le_of_ble_eq_true rfl⟩ hexc hlocks
  · have hr2 : r2 < 7 := fX5_textOf_lt (exo_s hv1 h9)
    refine xc_V1 (rest := []) ⟨hx, hb, hml, hown, hts⟩ (mX5_textOf (exo_s hv1 h9)) (cwV 1 hts gX5_repeat_X5_textOf rfl rfl rfl hqX5_textOf ⟨Nat.le_of_ble_eq_true rfl, Nat.le_of_ble_eq_true rfl⟩) X (va_recv X.1 X.2.1 (ci := 1) (q0 := 14) rfl wlC_14) rfl hl.1 rfl (Nat.le_of_ble_eq_true rfl) dX5_repeat_2 ⟨Nat.zero_le _, Nat.zero_le _⟩ (fun H locs X => ?_)
    refine lv_astore (lv' := [(4, .ref (ad r2)), (0, .ref (ad 14)), (1, .int x1), (2, .int x2), (3, .int x3)]) hx hb dX5_repeat_5 hl (by decide) rfl (fun ls hl => ?_)
    refine lv_aload_n hx hb dX5_repeat_7 rfl (lv_at hl 1 rfl) ?_
    refine lv_iload_n hx hb dX5_repeat_8 rfl (lv_at hl 3 rfl) ?_
    refine xb hf (fun v3 hv3 hf => ?_)
    refine exb_c hf (fun e9 h9 hf => ?_) (fun r4 h9 hf => ?_)
    · cases hf
      exact xt_V (rest := []) ⟨hx, hb, hml, hown, hts⟩ (eX5_textOf htr (exo_s hv3 h9)) (cwV 1 hts gX5_repeat_X5_textOf rfl rfl rfl hqX5_textOf ⟨Nat.le_of_ble_eq_true rfl, Nat.le_of_ble_eq_true rfl⟩) X hT (va_recv X.1 X.2.1 (ci := 1) (q0 := 14) rfl wlC_14) rfl hl.1 rfl (Nat.le_of_ble_eq_true rfl) dX5_repeat_9 ⟨Nat.le_of_ble_eq_true rfl, Nat.le_of_ble_eq_true rfl⟩ hexc hlocks
    · have hr4 : r4 < 7 := fX5_textOf_lt (exo_s hv3 h9)
      refine xc_V1 (rest := []) ⟨hx, hb, hml, hown, hts⟩ (mX5_textOf (exo_s hv3 h9)) (cwV 1 hts gX5_repeat_X5_textOf rfl rfl rfl hqX5_textOf ⟨Nat.le_of_ble_eq_true rfl, Nat.le_of_ble_eq_true rfl⟩) X (va_recv X.1 X.2.1 (ci := 1) (q0 := 14) rfl wlC_14) rfl hl.1 rfl (Nat.le_of_ble_eq_true rfl) dX5_repeat_9 ⟨Nat.zero_le _, Nat.zero_le _⟩ (fun H locs X => ?_)
      refine lv_astore (lv' := [(5, .ref (ad r4)), (4, .ref (ad r2)), (0, .ref (ad 14)), (1, .int x1), (2, .int x2), (3, .int x3)]) hx hb dX5_repeat_12 hl (by decide) rfl (fun ls hl => ?_)
      refine lv_iload_n hx hb dX5_repeat_14 rfl (lv_at hl 5 rfl) ?_
      refine xr_if_ge (tgt := 28) hx hb dX5_repeat_15 rfl hf (fun hf => ?_) (fun hf => ?_)
      · refine lv_aload hx hb dX5_repeat_28 (lv_at hl 0 rfl) ?_
        refine xb hf (fun v5 hv hf => ?_)
        refine xc_V1 (rest := []) ⟨hx, hb, hml, hown, hts⟩ (mX4_isEmpty hr4 hv) (cwV 0 hts gX5_repeat_X4_isEmpty rfl rfl rfl hqX4_isEmpty ⟨Nat.le_of_ble_eq_true rfl, Nat.le_of_ble_eq_true rfl⟩) X (va_recv X.1 X.2.1 (ci := 0) (q0 := r4) rfl (wlC_t hr4)) rfl hl.1 rfl (Nat.le_of_ble_eq_true rfl) dX5_repeat_30 ⟨Nat.zero_le _, Nat.zero_le _⟩ (fun H locs X => ?_)
        refine xr_if_eq (tgt := 40) hx hb dX5_repeat_33 rfl hf (fun hf => ?_) (fun hf => ?_)
        · refine lv_iload_n hx hb dX5_repeat_40 rfl (lv_at hl 5 rfl) ?_
          exact w41 r2 r4 hr2 hr4 x3 ts tc hf _ _ _ X (lv_sub hl [2, 1, 0] rfl)
        · refine lv_iconst (v := (0 : Int32)) hx hb dX5_repeat_36 rfl ?_
          refine lv_goto (tgt := 41) hx hb dX5_repeat_37 rfl ?_
          exact w41 r2 r4 hr2 hr4 (0 : Int32) ts tc hf _ _ _ X (lv_sub hl [2, 1, 0] rfl)
      · cases hf
        exact xt_throw (rest := []) (text := "a text can't be repeated less than 0 times") hx hb htr hown hts hT X (by decide +kernel) (by decide +kernel) (by decide +kernel) (by decide +kernel) (by decide +kernel) (by decide +kernel) th_hn_57 th_hot_53_57 (hl.1.trans hml.symm) dX5_repeat_18 dX5_repeat_21 dX5_repeat_22 dX5_repeat_24 dX5_repeat_27 hexc (Nat.le_of_ble_eq_true rfl) (Nat.le_of_ble_eq_true rfl) (Nat.le_of_ble_eq_true rfl) (Nat.le_of_ble_eq_true rfl) hlocks
set_option maxRecDepth 100000 in
set_option maxHeartbeats 4000000 in
theorem mX5_becomePart {l : Launch} {dd : va_G} {cy : Nat → ClassId} {ad : Nat → Nat} {A : Nat → Prop} {fu : Nat} {ts : Nat → Int32} {tc : Nat → Nat → Int32} {rk : Nat → Int32} {pl : Nat → Int32} {ru : Nat → Int64} {sl : Nat → Int32} {bg : Nat → Int32} {kn : Nat → Int64} {rm : Int32} {ol : Nat → Int64} {od : Nat → UInt64} {j1 : Nat} {j2 : Nat} {x3 : Int32} {x4 : Int32} {rv : Int32} {tso : Nat → Int32} {tco : Nat → Nat → Int32} (hj1 : j1 < 7) (hj2 : j2 < 7) (hf : fX5_becomePart fu ts tc j1 j2 x3 x4 = some (rv, tso, tco)) : Met l yX5_becomePart wsX5_becomePart { frames := 5, cells := 0, slots := 0, locals := 108 } (va_Pc [.ref (ad 14), .ref (ad j1), .ref (ad j2), .int x3, .int x4] (IW dd cy A (wlC ad cy ts tc rk pl ru sl bg kn rm ol od))) (QX dd cy A (some (.int rv)) (wlC ad cy tso tco rk pl ru sl bg kn rm ol od)) 0 0 A := by
  refine Met.ofW (cc := cX5_becomePart) (maxL := 5) (ret := some .int) (by decide) rfl ?_
  intro p e s m args below meth c s₁ B hml hv
  obtain ⟨hav, hI⟩ := hv
  have hx := B.exec
  have hb := B.bytes
  have hr := B.returns
  have hts := atoms_spec (ws := wsX5_becomePart) B.pre
  have hown : s.vm.findClass RX5 = some m.cls := findClass_of_methodNamed B.named
  have hlocks := B.notSynchronized
  have X := XW.of hI
  have h5 : ∀ w ∈ wsX50, w ∈ wsX5_becomePart := by decide +kernel
  refine xe_in hav (Nat.le_of_ble_eq_true rfl) rfl (fun ls hl => ?_)
  rw [fX5_becomePart] at hf
  refine lv_aload_n hx hb dX5_becomePart_0 rfl (lv_at hl 0 rfl) ?_
  refine xg_f hx hb hts hown X h5 14 wlC_14 rfl 1 (by decide) (by decide +kernel) (v := .ref (ad 6)) rfl dX5_becomePart_1 ?_
  refine xb hf (fun v1 hv hf => ?_)
  refine xc_V0 (rest := []) ⟨hx, hb, hml, hown, hts⟩ (mX4_clear (by decide) hv) (cwV 0 hts gX5_becomePart_X4_clear rfl rfl rfl hqX4_clear ⟨Nat.le_of_ble_eq_true rfl, Nat.le_of_ble_eq_true rfl⟩) X (va_recv X.1 X.2.1 (ci := 0) (q0 := 6) rfl (wlC_t (by decide))) rfl hl.1 rfl (Nat.le_of_ble_eq_true rfl) dX5_becomePart_4 ⟨Nat.zero_le _, Nat.zero_le _⟩ (fun H locs X => ?_)
  refine lv_aload_n hx hb dX5_becomePart_7 rfl (lv_at hl 0 rfl) ?_
  refine xg_f hx hb hts hown X h5 14 wlC_14 rfl 1 (by decide) (by decide +kernel) (v := .ref (ad 6)) rfl dX5_becomePart_8 ?_
  refine lv_aload_n hx hb dX5_becomePart_11 rfl (lv_at hl 2 rfl) ?_
  refine lv_iload_n hx hb dX5_becomePart_12 rfl (lv_at hl 3 rfl) ?_
  refine lv_iload hx hb dX5_becomePart_13 (lv_at hl 4 rfl) ?_
  refine xb hf (fun v2 hv hf => ?_)
  refine xc_V0 (rest := []) ⟨hx, hb, hml, hown, hts⟩ (mX4_addPart (by decide) hj2 hv) (cwV 3 hts gX5_becomePart_X4_addPart rfl rfl rfl hqX4_addPart ⟨Nat.le_of_ble_eq_true rfl, Nat.le_of_ble_eq_true rfl⟩) X (va_recv X.1 X.2.1 (ci := 0) (q0 := 6) rfl (wlC_t (by decide))) rfl hl.1 rfl (Nat.le_of_ble_eq_true rfl) dX5_becomePart_15 ⟨Nat.zero_le _, Nat.zero_le _⟩ (fun H locs X => ?_)
  refine lv_aload_n hx hb dX5_becomePart_18 rfl (lv_at hl 0 rfl) ?_
  refine lv_aload_n hx hb dX5_becomePart_19 rfl (lv_at hl 1 rfl) ?_
  refine xb hf (fun v3 hv hf => ?_)
  refine xc_V1 (rest := []) ⟨hx, hb, hml, hown, hts⟩ (mX5_becomeBuilt hj1 hv) (cwV 1 hts gX5_becomePart_X5_becomeBuilt rfl rfl rfl hqX5_becomeBuilt ⟨Nat.le_of_ble_eq_true rfl, Nat.le_of_ble_eq_true rfl⟩) X (va_recv X.1 X.2.1 (ci := 1) (q0 := 14) rfl wlC_14) rfl hl.1 rfl (Nat.le_of_ble_eq_true rfl) dX5_becomePart_20 ⟨Nat.zero_le _, Nat.zero_le _⟩ (fun H locs X => ?_)
  cases hf
  exact xe_i hx hb hr hlocks X dX5_becomePart_23
set_option maxRecDepth 100000 in
set_option maxHeartbeats 4000000 in
theorem mX5_part {l : Launch} {dd : va_G} {cy : Nat → ClassId} {ad : Nat → Nat} {A : Nat → Prop} {fu : Nat} {ts : Nat → Int32} {tc : Nat → Nat → Int32} {rk : Nat → Int32} {pl : Nat → Int32} {ru : Nat → Int64} {sl : Nat → Int32} {bg : Nat → Int32} {kn : Nat → Int64} {rm : Int32} {ol : Nat → Int64} {od : Nat → UInt64} {x1 : Int32} {x2 : Int32} {x3 : Int32} {x4 : Int32} {rv : Int32} {tso : Nat → Int32} {tco : Nat → Nat → Int32} (hf : fX5_part fu ts tc x1 x2 x3 x4 = some (.ok rv, tso, tco)) : Met l yX5_part wsX5_part { frames := 6, cells := 0, slots := 0, locals := 132 } (va_Pc [.ref (ad 14), .int x1, .int x2, .int x3, .int x4] (IW dd cy A (wlC ad cy ts tc rk pl ru sl bg kn rm ol od))) (QX dd cy A (some (.int rv)) (wlC ad cy tso tco rk pl ru sl bg kn rm ol od)) 0 0 A := by
  refine Met.ofW (cc := cX5_part) (maxL := 7) (ret := some .int) (by decide) rfl ?_
  intro p e s m args below meth c s₁ B hml hv
  obtain ⟨hav, hI⟩ := hv
  have hx := B.exec
  have hb := B.bytes
  have hr := B.returns
  have hts := atoms_spec (ws := wsX5_part) B.pre
  have hown : s.vm.findClass RX5 = some m.cls := findClass_of_methodNamed B.named
  have hlocks := B.notSynchronized
  have X := XW.of hI
  refine xe_in hav (Nat.le_of_ble_eq_true rfl) rfl (fun ls hl => ?_)
  rw [fX5_part] at hf
  refine lv_aload_n hx hb dX5_part_0 rfl (lv_at hl 0 rfl) ?_
  refine lv_iload_n hx hb dX5_part_1 rfl (lv_at hl 1 rfl) ?_
  refine xb hf (fun v1 hv1 hf => ?_)
  refine exb_c hf (fun e9 h9 hf => ?_) (fun r2 h9 hf => ?_)
  · cases hf
  · have hr2 : r2 < 7 := fX5_textOf_lt (exo_s hv1 h9)
    refine xc_V1 (rest := []) ⟨hx, hb, hml, hown, hts⟩ (mX5_textOf (exo_s hv1 h9)) (cwV 1 hts gX5_part_X5_textOf rfl rfl rfl hqX5_textOf ⟨Nat.le_of_ble_eq_true rfl, Nat.le_of_ble_eq_true rfl⟩) X (va_recv X.1 X.2.1 (ci := 1) (q0 := 14) rfl wlC_14) rfl hl.1 rfl (Nat.le_of_ble_eq_true rfl) dX5_part_2 ⟨Nat.zero_le _, Nat.zero_le _⟩ (fun H locs X => ?_)
    refine lv_astore (lv' := [(5, .ref (ad r2)), (0, .ref (ad 14)), (1, .int x1), (2, .int x2), (3, .int x3), (4, .int x4)]) hx hb dX5_part_5 hl (by decide) rfl (fun ls hl => ?_)
    refine lv_aload_n hx hb dX5_part_7 rfl (lv_at hl 1 rfl) ?_
    refine lv_iload_n hx hb dX5_part_8 rfl (lv_at hl 3 rfl) ?_
    refine xb hf (fun v3 hv3 hf => ?_)
    refine exb_c hf (fun e9 h9 hf => ?_) (fun r4 h9 hf => ?_)
    · cases hf
    · have hr4 : r4 < 7 := fX5_textOf_lt (exo_s hv3 h9)
      refine xc_V1 (rest := []) ⟨hx, hb, hml, hown, hts⟩ (mX5_textOf (exo_s hv3 h9)) (cwV 1 hts gX5_part_X5_textOf rfl rfl rfl hqX5_textOf ⟨Nat.le_of_ble_eq_true rfl, Nat.le_of_ble_eq_true rfl⟩) X (va_recv X.1 X.2.1 (ci := 1) (q0 := 14) rfl wlC_14) rfl hl.1 rfl (Nat.le_of_ble_eq_true rfl) dX5_part_9 ⟨Nat.zero_le _, Nat.zero_le _⟩ (fun H locs X => ?_)
      refine lv_astore (lv' := [(6, .ref (ad r4)), (5, .ref (ad r2)), (0, .ref (ad 14)), (1, .int x1), (2, .int x2), (3, .int x3), (4, .int x4)]) hx hb dX5_part_12 hl (by decide) rfl (fun ls hl => ?_)
      refine lv_iload_n hx hb dX5_part_14 rfl (lv_at hl 5 rfl) ?_
      refine xr_if_lt (tgt := 34) hx hb dX5_part_15 rfl hf (fun hf => ?_) (fun hf => ?_)
      · cases hf
      · refine lv_iload_n hx hb dX5_part_18 rfl (lv_at hl 5 rfl) ?_
        refine lv_iload hx hb dX5_part_19 (lv_at hl 6 rfl) ?_
        refine xr_icmp_gt (tgt := 34) hx hb dX5_part_21 rfl hf (fun hf => ?_) (fun hf => ?_)
        · cases hf
        · refine lv_iload hx hb dX5_part_24 (lv_at hl 6 rfl) ?_
          refine lv_aload hx hb dX5_part_26 (lv_at hl 0 rfl) ?_
          refine xb hf (fun v5 hv hf => ?_)
          refine xc_V1 (rest := [.int x4]) ⟨hx, hb, hml, hown, hts⟩ (mX4_size hr4 hv) (cwV 0 hts gX5_part_X4_size rfl rfl rfl hqX4_size ⟨Nat.le_of_ble_eq_true rfl, Nat.le_of_ble_eq_true rfl⟩) X (va_recv X.1 X.2.1 (ci := 0) (q0 := r4) rfl (wlC_t hr4)) rfl hl.1 rfl (Nat.le_of_ble_eq_true rfl) dX5_part_28 ⟨Nat.zero_le _, Nat.zero_le _⟩ (fun H locs X => ?_)
          refine xr_icmp_le (tgt := 44) hx hb dX5_part_31 rfl hf (fun hf => ?_) (fun hf => ?_)
          · refine lv_aload_n hx hb dX5_part_44 rfl (lv_at hl 2 rfl) ?_
            refine lv_aload hx hb dX5_part_45 (lv_at hl 1 rfl) ?_
            refine lv_aload hx hb dX5_part_47 (lv_at hl 0 rfl) ?_
            refine lv_iload_n hx hb dX5_part_49 rfl (lv_at hl 5 rfl) ?_
            refine lv_iload hx hb dX5_part_50 (lv_at hl 6 rfl) ?_
            refine xb hf (fun v6 hv hf => ?_)
            refine xc_V1 (rest := []) ⟨hx, hb, hml, hown, hts⟩ (mX5_becomePart hr2 hr4 hv) (cwV 4 hts gX5_part_X5_becomePart rfl rfl rfl hqX5_becomePart ⟨Nat.le_of_ble_eq_true rfl, Nat.le_of_ble_eq_true rfl⟩) X (va_recv X.1 X.2.1 (ci := 1) (q0 := 14) rfl wlC_14) rfl hl.1 rfl (Nat.le_of_ble_eq_true rfl) dX5_part_52 ⟨Nat.zero_le _, Nat.zero_le _⟩ (fun H locs X => ?_)
            cases hf
            exact xe_i hx hb hr hlocks X dX5_part_55
          · cases hf
set_option maxRecDepth 100000 in
set_option maxHeartbeats 4000000 in
theorem eX5_part {l : Launch} {dd : va_G} {cy : Nat → ClassId} {ad : Nat → Nat} {A : Nat → Prop} {fu : Nat} {ts : Nat → Int32} {tc : Nat → Nat → Int32} {rk : Nat → Int32} {pl : Nat → Int32} {ru : Nat → Int64} {sl : Nat → Int32} {bg : Nat → Int32} {kn : Nat → Int64} {rm : Int32} {ol : Nat → Int64} {od : Nat → UInt64} {x1 : Int32} {x2 : Int32} {x3 : Int32} {x4 : Int32} {E9 : String} {tso : Nat → Int32} {tco : Nat → Nat → Int32} (htr : l.stackTraces = false) (hf : fX5_part fu ts tc x1 x2 x3 x4 = some (.error E9, tso, tco)) : vx_Met l yX5_part wsX5_part { frames := 7, cells := 1, slots := 6, locals := 132 } (va_Pc [.ref (ad 14), .int x1, .int x2, .int x3, .int x4] (IT dd cy A (wlC ad cy ts tc rk pl ru sl bg kn rm ol od))) (fun _ _ _ _ => False) (XE dd cy A E9 (wlC ad cy tso tco rk pl ru sl bg kn rm ol od)) 1 6 A := by
  refine vx_ofW (cc := cX5_part) (maxL := 7) (ret := some .int) (by decide) rfl ?_
  intro p e s m args below meth c s₁ B hml hexc hv
  obtain ⟨hav, hI, hT⟩ := hv
  have hx := B.exec
  have hb := B.bytes
  have hr := B.returns
  have hts := atoms_spec (ws := wsX5_part) B.pre
  have hown : s.vm.findClass RX5 = some m.cls := findClass_of_methodNamed B.named
  have hlocks := B.notSynchronized
  have X := XW.of hI
  refine xe_in hav (Nat.le_of_ble_eq_true rfl) rfl (fun ls hl => ?_)
  rw [fX5_part] at hf
  refine lv_aload_n hx hb dX5_part_0 rfl (lv_at hl 0 rfl) ?_
  refine lv_iload_n hx hb dX5_part_1 rfl (lv_at hl 1 rfl) ?_
  refine xb hf (fun v1 hv1 hf => ?_)
  refine exb_c hf (fun e9 h9 hf => ?_) (fun r2 h9 hf => ?_)
  · cases hf
    exact xt_V (rest := []) ⟨hx, hb, hml, hown, hts⟩ (eX5_textOf htr (exo_s hv1 h9)) (cwV 1 hts gX5_part_X5_textOf rfl rfl rfl hqX5_textOf ⟨Nat.le_of_ble_eq_true rfl, Nat.le_of_ble_eq_true rfl⟩) X hT (va_recv X.1 X.2.1 (ci := 1) (q0 := 14) rfl wlC_14) rfl hl.1 rfl (Nat.le_of_ble_eq_true rfl) dX5_part_2 ⟨Nat.le_of_ble_eq_true rfl, Nat.le_of_ble_eq_true rfl⟩ hexc hlocks
  · have hr2 : r2 < 7 := fX5_textOf_lt (exo_s hv1 h9)
    refine xc_V1 (rest := []) ⟨hx, hb, hml, hown, hts⟩ (mX5_textOf (exo_s hv1 h9)) (cwV 1 hts gX5_part_X5_textOf rfl rfl rfl hqX5_textOf ⟨Nat.le_of_ble_eq_true rfl, Nat.le_of_ble_eq_true rfl⟩) X (va_recv X.1 X.2.1 (ci := 1) (q0 := 14) rfl wlC_14) rfl hl.1 rfl (Nat.le_of_ble_eq_true rfl) dX5_part_2 ⟨Nat.zero_le _, Nat.zero_le _⟩ (fun H locs X => ?_)
    refine lv_astore (lv' := [(5, .ref (ad r2)), (0, .ref (ad 14)), (1, .int x1), (2, .int x2), (3, .int x3), (4, .int x4)]) hx hb dX5_part_5 hl (by decide) rfl (fun ls hl => ?_)
    refine lv_aload_n hx hb dX5_part_7 rfl (lv_at hl 1 rfl) ?_
    refine lv_iload_n hx hb dX5_part_8 rfl (lv_at hl 3 rfl) ?_
    refine xb hf (fun v3 hv3 hf => ?_)
    refine exb_c hf (fun e9 h9 hf => ?_) (fun r4 h9 hf => ?_)
    · cases hf
      exact xt_V (rest := []) ⟨hx, hb, hml, hown, hts⟩ (eX5_textOf htr (exo_s hv3 h9)) (cwV 1 hts gX5_part_X5_textOf rfl rfl rfl hqX5_textOf ⟨Nat.le_of_ble_eq_true rfl, Nat.le_of_ble_eq_true rfl⟩) X hT (va_recv X.1 X.2.1 (ci := 1) (q0 := 14) rfl wlC_14) rfl hl.1 rfl (Nat.le_of_ble_eq_true rfl) dX5_part_9 ⟨Nat.le_of_ble_eq_true rfl, Nat.le_of_ble_eq_true rfl⟩ hexc hlocks
    · have hr4 : r4 < 7 := fX5_textOf_lt (exo_s hv3 h9)
      refine xc_V1 (rest := []) ⟨hx, hb, hml, hown, hts⟩ (mX5_textOf (exo_s hv3 h9)) (cwV 1 hts gX5_part_X5_textOf rfl rfl rfl hqX5_textOf ⟨Nat.le_of_ble_eq_true rfl, Nat.le_of_ble_eq_true rfl⟩) X (va_recv X.1 X.2.1 (ci := 1) (q0 := 14) rfl wlC_14) rfl hl.1 rfl (Nat.le_of_ble_eq_true rfl) dX5_part_9 ⟨Nat.zero_le _, Nat.zero_le _⟩ (fun H locs X => ?_)
      refine lv_astore (lv' := [(6, .ref (ad r4)), (5, .ref (ad r2)), (0, .ref (ad 14)), (1, .int x1), (2, .int x2), (3, .int x3), (4, .int x4)]) hx hb dX5_part_12 hl (by decide) rfl (fun ls hl => ?_)
      refine lv_iload_n hx hb dX5_part_14 rfl (lv_at hl 5 rfl) ?_
      refine xr_if_lt (tgt := 34) hx hb dX5_part_15 rfl hf (fun hf => ?_) (fun hf => ?_)
      · cases hf
        exact xt_throw (rest := []) (text := "no such part") hx hb htr hown hts hT X (by decide +kernel) (by decide +kernel) (by decide +kernel) (by decide +kernel) (by decide +kernel) (by decide +kernel) th_hn_93 th_hot_89_93 (hl.1.trans hml.symm) dX5_part_34 dX5_part_37 dX5_part_38 dX5_part_40 dX5_part_43 hexc (Nat.le_of_ble_eq_true rfl) (Nat.le_of_ble_eq_true rfl) (Nat.le_of_ble_eq_true rfl) (Nat.le_of_ble_eq_true rfl) hlocks
      · refine lv_iload_n hx hb dX5_part_18 rfl (lv_at hl 5 rfl) ?_
        refine lv_iload hx hb dX5_part_19 (lv_at hl 6 rfl) ?_
        refine xr_icmp_gt (tgt := 34) hx hb dX5_part_21 rfl hf (fun hf => ?_) (fun hf => ?_)
        · cases hf
          exact xt_throw (rest := []) (text := "no such part") hx hb htr hown hts hT X (by decide +kernel) (by decide +kernel) (by decide +kernel) (by decide +kernel) (by decide +kernel) (by decide +kernel) th_hn_93 th_hot_89_93 (hl.1.trans hml.symm) dX5_part_34 dX5_part_37 dX5_part_38 dX5_part_40 dX5_part_43 hexc (Nat.le_of_ble_eq_true rfl) (Nat.le_of_ble_eq_true rfl) (Nat.le_of_ble_eq_true rfl) (Nat.le_of_ble_eq_true rfl) hlocks
        · refine lv_iload hx hb dX5_part_24 (lv_at hl 6 rfl) ?_
          refine lv_aload hx hb dX5_part_26 (lv_at hl 0 rfl) ?_
          refine xb hf (fun v5 hv hf => ?_)
          refine xc_V1 (rest := [.int x4]) ⟨hx, hb, hml, hown, hts⟩ (mX4_size hr4 hv) (cwV 0 hts gX5_part_X4_size rfl rfl rfl hqX4_size ⟨Nat.le_of_ble_eq_true rfl, Nat.le_of_ble_eq_true rfl⟩) X (va_recv X.1 X.2.1 (ci := 0) (q0 := r4) rfl (wlC_t hr4)) rfl hl.1 rfl (Nat.le_of_ble_eq_true rfl) dX5_part_28 ⟨Nat.zero_le _, Nat.zero_le _⟩ (fun H locs X => ?_)
          refine xr_icmp_le (tgt := 44) hx hb dX5_part_31 rfl hf (fun hf => ?_) (fun hf => ?_)
          · refine lv_aload_n hx hb dX5_part_44 rfl (lv_at hl 2 rfl) ?_
            refine lv_aload hx hb dX5_part_45 (lv_at hl 1 rfl) ?_
            refine lv_aload hx hb dX5_part_47 (lv_at hl 0 rfl) ?_
            refine lv_iload_n hx hb dX5_part_49 rfl (lv_at hl 5 rfl) ?_
            refine lv_iload hx hb dX5_part_50 (lv_at hl 6 rfl) ?_
            refine xb hf (fun v6 hv hf => ?_)
            refine xc_V1 (rest := []) ⟨hx, hb, hml, hown, hts⟩ (mX5_becomePart hr2 hr4 hv) (cwV 4 hts gX5_part_X5_becomePart rfl rfl rfl hqX5_becomePart ⟨Nat.le_of_ble_eq_true rfl, Nat.le_of_ble_eq_true rfl⟩) X (va_recv X.1 X.2.1 (ci := 1) (q0 := 14) rfl wlC_14) rfl hl.1 rfl (Nat.le_of_ble_eq_true rfl) dX5_part_52 ⟨Nat.zero_le _, Nat.zero_le _⟩ (fun H locs X => ?_)
            cases hf
          · cases hf
            exact xt_throw (rest := []) (text := "no such part") hx hb htr hown hts hT X (by decide +kernel) (by decide +kernel) (by decide +kernel) (by decide +kernel) (by decide +kernel) (by decide +kernel) th_hn_93 th_hot_89_93 (hl.1.trans hml.symm) dX5_part_34 dX5_part_37 dX5_part_38 dX5_part_40 dX5_part_43 hexc (Nat.le_of_ble_eq_true rfl) (Nat.le_of_ble_eq_true rfl) (Nat.le_of_ble_eq_true rfl) (Nat.le_of_ble_eq_true rfl) hlocks
set_option maxRecDepth 100000 in
set_option maxHeartbeats 4000000 in
theorem mX5_turn {l : Launch} {dd : va_G} {cy : Nat → ClassId} {ad : Nat → Nat} {A : Nat → Prop} {fu : Nat} {ts : Nat → Int32} {tc : Nat → Nat → Int32} {rk : Nat → Int32} {pl : Nat → Int32} {ru : Nat → Int64} {sl : Nat → Int32} {bg : Nat → Int32} {kn : Nat → Int64} {rm : Int32} {ol : Nat → Int64} {od : Nat → UInt64} {x1 : Int32} {x2 : Int32} {x3 : Int32} {rv : Int32} {tso : Nat → Int32} {tco : Nat → Nat → Int32} (hf : fX5_turn fu ts tc x1 x2 x3 = some (.ok rv, tso, tco)) : Met l yX5_turn wsX5_turn { frames := 5, cells := 0, slots := 0, locals := 108 } (va_Pc [.ref (ad 14), .int x1, .int x2, .int x3] (IW dd cy A (wlC ad cy ts tc rk pl ru sl bg kn rm ol od))) (QX dd cy A (some (.int rv)) (wlC ad cy tso tco rk pl ru sl bg kn rm ol od)) 0 0 A := by
  refine Met.ofW (cc := cX5_turn) (maxL := 6) (ret := some .int) (by decide) rfl ?_
  intro p e s m args below meth c s₁ B hml hv
  obtain ⟨hav, hI⟩ := hv
  have hx := B.exec
  have hb := B.bytes
  have hr := B.returns
  have hts := atoms_spec (ws := wsX5_turn) B.pre
  have hown : s.vm.findClass RX5 = some m.cls := findClass_of_methodNamed B.named
  have hlocks := B.notSynchronized
  have X := XW.of hI
  have h5 : ∀ w ∈ wsX50, w ∈ wsX5_turn := by decide +kernel
  refine xe_in hav (Nat.le_of_ble_eq_true rfl) rfl (fun ls hl => ?_)
  rw [fX5_turn] at hf
  refine lv_aload_n hx hb dX5_turn_0 rfl (lv_at hl 0 rfl) ?_
  refine lv_iload_n hx hb dX5_turn_1 rfl (lv_at hl 1 rfl) ?_
  refine xb hf (fun v1 hv1 hf => ?_)
  refine exb_c hf (fun e9 h9 hf => ?_) (fun r2 h9 hf => ?_)
  · cases hf
  · have hr2 : r2 < 7 := fX5_textOf_lt (exo_s hv1 h9)
    refine xc_V1 (rest := []) ⟨hx, hb, hml, hown, hts⟩ (mX5_textOf (exo_s hv1 h9)) (cwV 1 hts gX5_turn_X5_textOf rfl rfl rfl hqX5_textOf ⟨Nat.le_of_ble_eq_true rfl, Nat.le_of_ble_eq_true rfl⟩) X (va_recv X.1 X.2.1 (ci := 1) (q0 := 14) rfl wlC_14) rfl hl.1 rfl (Nat.le_of_ble_eq_true rfl) dX5_turn_2 ⟨Nat.zero_le _, Nat.zero_le _⟩ (fun H locs X => ?_)
    refine lv_astore (lv' := [(4, .ref (ad r2)), (0, .ref (ad 14)), (1, .int x1), (2, .int x2), (3, .int x3)]) hx hb dX5_turn_5 hl (by decide) rfl (fun ls hl => ?_)
    refine lv_aload_n hx hb dX5_turn_7 rfl (lv_at hl 1 rfl) ?_
    refine lv_iload_n hx hb dX5_turn_8 rfl (lv_at hl 3 rfl) ?_
    refine xb hf (fun v3 hv3 hf => ?_)
    refine exb_c hf (fun e9 h9 hf => ?_) (fun r4 h9 hf => ?_)
    · cases hf
    · have hr4 : r4 < 7 := fX5_textOf_lt (exo_s hv3 h9)
      refine xc_V1 (rest := []) ⟨hx, hb, hml, hown, hts⟩ (mX5_textOf (exo_s hv3 h9)) (cwV 1 hts gX5_turn_X5_textOf rfl rfl rfl hqX5_textOf ⟨Nat.le_of_ble_eq_true rfl, Nat.le_of_ble_eq_true rfl⟩) X (va_recv X.1 X.2.1 (ci := 1) (q0 := 14) rfl wlC_14) rfl hl.1 rfl (Nat.le_of_ble_eq_true rfl) dX5_turn_9 ⟨Nat.zero_le _, Nat.zero_le _⟩ (fun H locs X => ?_)
      refine lv_astore (lv' := [(5, .ref (ad r4)), (4, .ref (ad r2)), (0, .ref (ad 14)), (1, .int x1), (2, .int x2), (3, .int x3)]) hx hb dX5_turn_12 hl (by decide) rfl (fun ls hl => ?_)
      refine lv_iload_n hx hb dX5_turn_14 rfl (lv_at hl 5 rfl) ?_
      refine xr_if_lt (tgt := 27) hx hb dX5_turn_15 rfl hf (fun hf => ?_) (fun hf => ?_)
      · cases hf
      · refine lv_iload_n hx hb dX5_turn_18 rfl (lv_at hl 5 rfl) ?_
        refine lv_aload hx hb dX5_turn_19 (lv_at hl 0 rfl) ?_
        refine xb hf (fun v5 hv hf => ?_)
        refine xc_V1 (rest := [.int x3]) ⟨hx, hb, hml, hown, hts⟩ (mX4_size hr4 hv) (cwV 0 hts gX5_turn_X4_size rfl rfl rfl hqX4_size ⟨Nat.le_of_ble_eq_true rfl, Nat.le_of_ble_eq_true rfl⟩) X (va_recv X.1 X.2.1 (ci := 0) (q0 := r4) rfl (wlC_t hr4)) rfl hl.1 rfl (Nat.le_of_ble_eq_true rfl) dX5_turn_21 ⟨Nat.zero_le _, Nat.zero_le _⟩ (fun H locs X => ?_)
        refine xr_icmp_le (tgt := 37) hx hb dX5_turn_24 rfl hf (fun hf => ?_) (fun hf => ?_)
        · refine lv_aload_n hx hb dX5_turn_37 rfl (lv_at hl 2 rfl) ?_
          refine xg_f hx hb hts hown X h5 14 wlC_14 rfl 1 (by decide) (by decide +kernel) (v := .ref (ad 6)) rfl dX5_turn_38 ?_
          refine xb hf (fun v6 hv hf => ?_)
          refine xc_V0 (rest := []) ⟨hx, hb, hml, hown, hts⟩ (mX4_clear (by decide) hv) (cwV 0 hts gX5_turn_X4_clear rfl rfl rfl hqX4_clear ⟨Nat.le_of_ble_eq_true rfl, Nat.le_of_ble_eq_true rfl⟩) X (va_recv X.1 X.2.1 (ci := 0) (q0 := 6) rfl (wlC_t (by decide))) rfl hl.1 rfl (Nat.le_of_ble_eq_true rfl) dX5_turn_41 ⟨Nat.zero_le _, Nat.zero_le _⟩ (fun H locs X => ?_)
          refine lv_aload_n hx hb dX5_turn_44 rfl (lv_at hl 2 rfl) ?_
          refine xg_f hx hb hts hown X h5 14 wlC_14 rfl 1 (by decide) (by decide +kernel) (v := .ref (ad 6)) rfl dX5_turn_45 ?_
          refine lv_aload hx hb dX5_turn_48 (lv_at hl 0 rfl) ?_
          refine lv_iload_n hx hb dX5_turn_50 rfl (lv_at hl 5 rfl) ?_
          refine lv_aload hx hb dX5_turn_51 (lv_at hl 0 rfl) ?_
          refine xb hf (fun v7 hv hf => ?_)
          refine xc_V1 (rest := [.int x3, .ref (ad r4), .ref (ad 6)]) ⟨hx, hb, hml, hown, hts⟩ (mX4_size hr4 hv) (cwV 0 hts gX5_turn_X4_size rfl rfl rfl hqX4_size ⟨Nat.le_of_ble_eq_true rfl, Nat.le_of_ble_eq_true rfl⟩) X (va_recv X.1 X.2.1 (ci := 0) (q0 := r4) rfl (wlC_t hr4)) rfl hl.1 rfl (Nat.le_of_ble_eq_true rfl) dX5_turn_53 ⟨Nat.zero_le _, Nat.zero_le _⟩ (fun H locs X => ?_)
          refine xb hf (fun v8 hv hf => ?_)
          refine xc_V0 (rest := []) ⟨hx, hb, hml, hown, hts⟩ (mX4_addPart (by decide) hr4 hv) (cwV 3 hts gX5_turn_X4_addPart rfl rfl rfl hqX4_addPart ⟨Nat.le_of_ble_eq_true rfl, Nat.le_of_ble_eq_true rfl⟩) X (va_recv X.1 X.2.1 (ci := 0) (q0 := 6) rfl (wlC_t (by decide))) rfl hl.1 rfl (Nat.le_of_ble_eq_true rfl) dX5_turn_56 ⟨Nat.zero_le _, Nat.zero_le _⟩ (fun H locs X => ?_)
          refine lv_aload_n hx hb dX5_turn_59 rfl (lv_at hl 2 rfl) ?_
          refine xg_f hx hb hts hown X h5 14 wlC_14 rfl 1 (by decide) (by decide +kernel) (v := .ref (ad 6)) rfl dX5_turn_60 ?_
          refine lv_aload hx hb dX5_turn_63 (lv_at hl 0 rfl) ?_
          refine lv_iconst (v := (0 : Int32)) hx hb dX5_turn_65 rfl ?_
          refine lv_iload_n hx hb dX5_turn_66 rfl (lv_at hl 5 rfl) ?_
          refine xb hf (fun v9 hv hf => ?_)
          refine xc_V0 (rest := []) ⟨hx, hb, hml, hown, hts⟩ (mX4_addPart (by decide) hr4 hv) (cwV 3 hts gX5_turn_X4_addPart rfl rfl rfl hqX4_addPart ⟨Nat.le_of_ble_eq_true rfl, Nat.le_of_ble_eq_true rfl⟩) X (va_recv X.1 X.2.1 (ci := 0) (q0 := 6) rfl (wlC_t (by decide))) rfl hl.1 rfl (Nat.le_of_ble_eq_true rfl) dX5_turn_67 ⟨Nat.zero_le _, Nat.zero_le _⟩ (fun H locs X => ?_)
          refine lv_aload_n hx hb dX5_turn_70 rfl (lv_at hl 2 rfl) ?_
          refine lv_aload hx hb dX5_turn_71 (lv_at hl 1 rfl) ?_
          refine xb hf (fun v10 hv hf => ?_)
          refine xc_V1 (rest := []) ⟨hx, hb, hml, hown, hts⟩ (mX5_becomeBuilt hr2 hv) (cwV 1 hts gX5_turn_X5_becomeBuilt rfl rfl rfl hqX5_becomeBuilt ⟨Nat.le_of_ble_eq_true rfl, Nat.le_of_ble_eq_true rfl⟩) X (va_recv X.1 X.2.1 (ci := 1) (q0 := 14) rfl wlC_14) rfl hl.1 rfl (Nat.le_of_ble_eq_true rfl) dX5_turn_73 ⟨Nat.zero_le _, Nat.zero_le _⟩ (fun H locs X => ?_)
          cases hf
          exact xe_i hx hb hr hlocks X dX5_turn_76
        · cases hf
set_option maxRecDepth 100000 in
set_option maxHeartbeats 4000000 in
theorem eX5_turn {l : Launch} {dd : va_G} {cy : Nat → ClassId} {ad : Nat → Nat} {A : Nat → Prop} {fu : Nat} {ts : Nat → Int32} {tc : Nat → Nat → Int32} {rk : Nat → Int32} {pl : Nat → Int32} {ru : Nat → Int64} {sl : Nat → Int32} {bg : Nat → Int32} {kn : Nat → Int64} {rm : Int32} {ol : Nat → Int64} {od : Nat → UInt64} {x1 : Int32} {x2 : Int32} {x3 : Int32} {E9 : String} {tso : Nat → Int32} {tco : Nat → Nat → Int32} (htr : l.stackTraces = false) (hf : fX5_turn fu ts tc x1 x2 x3 = some (.error E9, tso, tco)) : vx_Met l yX5_turn wsX5_turn { frames := 7, cells := 1, slots := 6, locals := 121 } (va_Pc [.ref (ad 14), .int x1, .int x2, .int x3] (IT dd cy A (wlC ad cy ts tc rk pl ru sl bg kn rm ol od))) (fun _ _ _ _ => False) (XE dd cy A E9 (wlC ad cy tso tco rk pl ru sl bg kn rm ol od)) 1 6 A := by
  refine vx_ofW (cc := cX5_turn) (maxL := 6) (ret := some .int) (by decide) rfl ?_
  intro p e s m args below meth c s₁ B hml hexc hv
  obtain ⟨hav, hI, hT⟩ := hv
  have hx := B.exec
  have hb := B.bytes
  have hr := B.returns
  have hts := atoms_spec (ws := wsX5_turn) B.pre
  have hown : s.vm.findClass RX5 = some m.cls := findClass_of_methodNamed B.named
  have hlocks := B.notSynchronized
  have X := XW.of hI
  have h5 : ∀ w ∈ wsX50, w ∈ wsX5_turn := by decide +kernel
  refine xe_in hav (Nat.le_of_ble_eq_true rfl) rfl (fun ls hl => ?_)
  rw [fX5_turn] at hf
  refine lv_aload_n hx hb dX5_turn_0 rfl (lv_at hl 0 rfl) ?_
  refine lv_iload_n hx hb dX5_turn_1 rfl (lv_at hl 1 rfl) ?_
  refine xb hf (fun v1 hv1 hf => ?_)
  refine exb_c hf (fun e9 h9 hf => ?_) (fun r2 h9 hf => ?_)
  · cases hf
    exact xt_V (rest := []) ⟨hx, hb, hml, hown, hts⟩ (eX5_textOf htr (exo_s hv1 h9)) (cwV 1 hts gX5_turn_X5_textOf rfl rfl rfl hqX5_textOf ⟨Nat.le_of_ble_eq_true rfl, Nat.le_of_ble_eq_true rfl⟩) X hT (va_recv X.1 X.2.1 (ci := 1) (q0 := 14) rfl wlC_14) rfl hl.1 rfl (Nat.le_of_ble_eq_true rfl) dX5_turn_2 ⟨Nat.le_of_ble_eq_true rfl, Nat.le_of_ble_eq_true rfl⟩ hexc hlocks
  · have hr2 : r2 < 7 := fX5_textOf_lt (exo_s hv1 h9)
    refine xc_V1 (rest := []) ⟨hx, hb, hml, hown, hts⟩ (mX5_textOf (exo_s hv1 h9)) (cwV 1 hts gX5_turn_X5_textOf rfl rfl rfl hqX5_textOf ⟨Nat.le_of_ble_eq_true rfl, Nat.le_of_ble_eq_true rfl⟩) X (va_recv X.1 X.2.1 (ci := 1) (q0 := 14) rfl wlC_14) rfl hl.1 rfl (Nat.le_of_ble_eq_true rfl) dX5_turn_2 ⟨Nat.zero_le _, Nat.zero_le _⟩ (fun H locs X => ?_)
    refine lv_astore (lv' := [(4, .ref (ad r2)), (0, .ref (ad 14)), (1, .int x1), (2, .int x2), (3, .int x3)]) hx hb dX5_turn_5 hl (by decide) rfl (fun ls hl => ?_)
    refine lv_aload_n hx hb dX5_turn_7 rfl (lv_at hl 1 rfl) ?_
    refine lv_iload_n hx hb dX5_turn_8 rfl (lv_at hl 3 rfl) ?_
    refine xb hf (fun v3 hv3 hf => ?_)
    refine exb_c hf (fun e9 h9 hf => ?_) (fun r4 h9 hf => ?_)
    · cases hf
      exact xt_V (rest := []) ⟨hx, hb, hml, hown, hts⟩ (eX5_textOf htr (exo_s hv3 h9)) (cwV 1 hts gX5_turn_X5_textOf rfl rfl rfl hqX5_textOf ⟨Nat.le_of_ble_eq_true rfl, Nat.le_of_ble_eq_true rfl⟩) X hT (va_recv X.1 X.2.1 (ci := 1) (q0 := 14) rfl wlC_14) rfl hl.1 rfl (Nat.le_of_ble_eq_true rfl) dX5_turn_9 ⟨Nat.le_of_ble_eq_true rfl, Nat.le_of_ble_eq_true rfl⟩ hexc hlocks
    · have hr4 : r4 < 7 := fX5_textOf_lt (exo_s hv3 h9)
      refine xc_V1 (rest := []) ⟨hx, hb, hml, hown, hts⟩ (mX5_textOf (exo_s hv3 h9)) (cwV 1 hts gX5_turn_X5_textOf rfl rfl rfl hqX5_textOf ⟨Nat.le_of_ble_eq_true rfl, Nat.le_of_ble_eq_true rfl⟩) X (va_recv X.1 X.2.1 (ci := 1) (q0 := 14) rfl wlC_14) rfl hl.1 rfl (Nat.le_of_ble_eq_true rfl) dX5_turn_9 ⟨Nat.zero_le _, Nat.zero_le _⟩ (fun H locs X => ?_)
      refine lv_astore (lv' := [(5, .ref (ad r4)), (4, .ref (ad r2)), (0, .ref (ad 14)), (1, .int x1), (2, .int x2), (3, .int x3)]) hx hb dX5_turn_12 hl (by decide) rfl (fun ls hl => ?_)
      refine lv_iload_n hx hb dX5_turn_14 rfl (lv_at hl 5 rfl) ?_
      refine xr_if_lt (tgt := 27) hx hb dX5_turn_15 rfl hf (fun hf => ?_) (fun hf => ?_)
      · cases hf
        exact xt_throw (rest := []) (text := "no text is turned by so much") hx hb htr hown hts hT X (by decide +kernel) (by decide +kernel) (by decide +kernel) (by decide +kernel) (by decide +kernel) (by decide +kernel) th_hn_93 th_hot_89_93 (hl.1.trans hml.symm) dX5_turn_27 dX5_turn_30 dX5_turn_31 dX5_turn_33 dX5_turn_36 hexc (Nat.le_of_ble_eq_true rfl) (Nat.le_of_ble_eq_true rfl) (Nat.le_of_ble_eq_true rfl) (Nat.le_of_ble_eq_true rfl) hlocks
      · refine lv_iload_n hx hb dX5_turn_18 rfl (lv_at hl 5 rfl) ?_
        refine lv_aload hx hb dX5_turn_19 (lv_at hl 0 rfl) ?_
        refine xb hf (fun v5 hv hf => ?_)
        refine xc_V1 (rest := [.int x3]) ⟨hx, hb, hml, hown, hts⟩ (mX4_size hr4 hv) (cwV 0 hts gX5_turn_X4_size rfl rfl rfl hqX4_size ⟨Nat.le_of_ble_eq_true rfl, Nat.le_of_ble_eq_true rfl⟩) X (va_recv X.1 X.2.1 (ci := 0) (q0 := r4) rfl (wlC_t hr4)) rfl hl.1 rfl (Nat.le_of_ble_eq_true rfl) dX5_turn_21 ⟨Nat.zero_le _, Nat.zero_le _⟩ (fun H locs X => ?_)
        refine xr_icmp_le (tgt := 37) hx hb dX5_turn_24 rfl hf (fun hf => ?_) (fun hf => ?_)
        · refine lv_aload_n hx hb dX5_turn_37 rfl (lv_at hl 2 rfl) ?_
          refine xg_f hx hb hts hown X h5 14 wlC_14 rfl 1 (by decide) (by decide +kernel) (v := .ref (ad 6)) rfl dX5_turn_38 ?_
          refine xb hf (fun v6 hv hf => ?_)
          refine xc_V0 (rest := []) ⟨hx, hb, hml, hown, hts⟩ (mX4_clear (by decide) hv) (cwV 0 hts gX5_turn_X4_clear rfl rfl rfl hqX4_clear ⟨Nat.le_of_ble_eq_true rfl, Nat.le_of_ble_eq_true rfl⟩) X (va_recv X.1 X.2.1 (ci := 0) (q0 := 6) rfl (wlC_t (by decide))) rfl hl.1 rfl (Nat.le_of_ble_eq_true rfl) dX5_turn_41 ⟨Nat.zero_le _, Nat.zero_le _⟩ (fun H locs X => ?_)
          refine lv_aload_n hx hb dX5_turn_44 rfl (lv_at hl 2 rfl) ?_
          refine xg_f hx hb hts hown X h5 14 wlC_14 rfl 1 (by decide) (by decide +kernel) (v := .ref (ad 6)) rfl dX5_turn_45 ?_
          refine lv_aload hx hb dX5_turn_48 (lv_at hl 0 rfl) ?_
          refine lv_iload_n hx hb dX5_turn_50 rfl (lv_at hl 5 rfl) ?_
          refine lv_aload hx hb dX5_turn_51 (lv_at hl 0 rfl) ?_
          refine xb hf (fun v7 hv hf => ?_)
          refine xc_V1 (rest := [.int x3, .ref (ad r4), .ref (ad 6)]) ⟨hx, hb, hml, hown, hts⟩ (mX4_size hr4 hv) (cwV 0 hts gX5_turn_X4_size rfl rfl rfl hqX4_size ⟨Nat.le_of_ble_eq_true rfl, Nat.le_of_ble_eq_true rfl⟩) X (va_recv X.1 X.2.1 (ci := 0) (q0 := r4) rfl (wlC_t hr4)) rfl hl.1 rfl (Nat.le_of_ble_eq_true rfl) dX5_turn_53 ⟨Nat.zero_le _, Nat.zero_le _⟩ (fun H locs X => ?_)
          refine xb hf (fun v8 hv hf => ?_)
          refine xc_V0 (rest := []) ⟨hx, hb, hml, hown, hts⟩ (mX4_addPart (by decide) hr4 hv) (cwV 3 hts gX5_turn_X4_addPart rfl rfl rfl hqX4_addPart ⟨Nat.le_of_ble_eq_true rfl, Nat.le_of_ble_eq_true rfl⟩) X (va_recv X.1 X.2.1 (ci := 0) (q0 := 6) rfl (wlC_t (by decide))) rfl hl.1 rfl (Nat.le_of_ble_eq_true rfl) dX5_turn_56 ⟨Nat.zero_le _, Nat.zero_le _⟩ (fun H locs X => ?_)
          refine lv_aload_n hx hb dX5_turn_59 rfl (lv_at hl 2 rfl) ?_
          refine xg_f hx hb hts hown X h5 14 wlC_14 rfl 1 (by decide) (by decide +kernel) (v := .ref (ad 6)) rfl dX5_turn_60 ?_
          refine lv_aload hx hb dX5_turn_63 (lv_at hl 0 rfl) ?_
          refine lv_iconst (v := (0 : Int32)) hx hb dX5_turn_65 rfl ?_
          refine lv_iload_n hx hb dX5_turn_66 rfl (lv_at hl 5 rfl) ?_
          refine xb hf (fun v9 hv hf => ?_)
          refine xc_V0 (rest := []) ⟨hx, hb, hml, hown, hts⟩ (mX4_addPart (by decide) hr4 hv) (cwV 3 hts gX5_turn_X4_addPart rfl rfl rfl hqX4_addPart ⟨Nat.le_of_ble_eq_true rfl, Nat.le_of_ble_eq_true rfl⟩) X (va_recv X.1 X.2.1 (ci := 0) (q0 := 6) rfl (wlC_t (by decide))) rfl hl.1 rfl (Nat.le_of_ble_eq_true rfl) dX5_turn_67 ⟨Nat.zero_le _, Nat.zero_le _⟩ (fun H locs X => ?_)
          refine lv_aload_n hx hb dX5_turn_70 rfl (lv_at hl 2 rfl) ?_
          refine lv_aload hx hb dX5_turn_71 (lv_at hl 1 rfl) ?_
          refine xb hf (fun v10 hv hf => ?_)
          refine xc_V1 (rest := []) ⟨hx, hb, hml, hown, hts⟩ (mX5_becomeBuilt hr2 hv) (cwV 1 hts gX5_turn_X5_becomeBuilt rfl rfl rfl hqX5_becomeBuilt ⟨Nat.le_of_ble_eq_true rfl, Nat.le_of_ble_eq_true rfl⟩) X (va_recv X.1 X.2.1 (ci := 1) (q0 := 14) rfl wlC_14) rfl hl.1 rfl (Nat.le_of_ble_eq_true rfl) dX5_turn_73 ⟨Nat.zero_le _, Nat.zero_le _⟩ (fun H locs X => ?_)
          cases hf
        · cases hf
          exact xt_throw (rest := []) (text := "no text is turned by so much") hx hb htr hown hts hT X (by decide +kernel) (by decide +kernel) (by decide +kernel) (by decide +kernel) (by decide +kernel) (by decide +kernel) th_hn_93 th_hot_89_93 (hl.1.trans hml.symm) dX5_turn_27 dX5_turn_30 dX5_turn_31 dX5_turn_33 dX5_turn_36 hexc (Nat.le_of_ble_eq_true rfl) (Nat.le_of_ble_eq_true rfl) (Nat.le_of_ble_eq_true rfl) (Nat.le_of_ble_eq_true rfl) hlocks
set_option maxRecDepth 100000 in
set_option maxHeartbeats 4000000 in
theorem mX5_back {l : Launch} {dd : va_G} {cy : Nat → ClassId} {ad : Nat → Nat} {A : Nat → Prop} {fu : Nat} {ts : Nat → Int32} {tc : Nat → Nat → Int32} {rk : Nat → Int32} {pl : Nat → Int32} {ru : Nat → Int64} {sl : Nat → Int32} {bg : Nat → Int32} {kn : Nat → Int64} {rm : Int32} {ol : Nat → Int64} {od : Nat → UInt64} {x1 : Int32} {x2 : Int32} {rv : Int32} {tso : Nat → Int32} {tco : Nat → Nat → Int32} (hf : fX5_back fu ts tc x1 x2 = some (.ok rv, tso, tco)) : Met l yX5_back wsX5_back { frames := 5, cells := 0, slots := 0, locals := 108 } (va_Pc [.ref (ad 14), .int x1, .int x2] (IW dd cy A (wlC ad cy ts tc rk pl ru sl bg kn rm ol od))) (QX dd cy A (some (.int rv)) (wlC ad cy tso tco rk pl ru sl bg kn rm ol od)) 0 0 A := by
  refine Met.ofW (cc := cX5_back) (maxL := 6) (ret := some .int) (by decide) rfl ?_
  intro p e s m args below meth c s₁ B hml hv
  obtain ⟨hav, hI⟩ := hv
  have hx := B.exec
  have hb := B.bytes
  have hr := B.returns
  have hts := atoms_spec (ws := wsX5_back) B.pre
  have hown : s.vm.findClass RX5 = some m.cls := findClass_of_methodNamed B.named
  have hlocks := B.notSynchronized
  have X := XW.of hI
  have h5 : ∀ w ∈ wsX50, w ∈ wsX5_back := by decide +kernel
  refine xe_in hav (Nat.le_of_ble_eq_true rfl) rfl (fun ls hl => ?_)
  have w29 : ∀ (t3 : Nat) (t4 : Nat) (ht3 : t3 < 7) (ht4 : t4 < 7) (n : Nat) (y5 : Int32) (ts : Nat → Int32) (tc : Nat → Nat → Int32), fX5_back_29 fu t3 t4 n y5 ts tc = some (.ok rv, tso, tco) → ∀ (H : Heap) (locs : List Loc) (ls : Array Slot), XW dd cy A s (wlC ad cy ts tc rk pl ru sl bg kn rm ol od) H locs → lv_has ls 6 [(0, .ref (ad 14)), (3, .ref (ad t3)), (4, .ref (ad t4)), (5, .int y5)] → W p l e (headSpec wsX5_back { frames := 5, cells := 0, slots := 0, locals := 108 }).room s m args below meth c H locs 0 0 (MQ below (QX dd cy A (some (.int rv)) (wlC ad cy tso tco rk pl ru sl bg kn rm ol od)) args s 0 0 A) (F0 m 29 ls []) := by
    intro t3 t4 ht3 ht4 n
    induction n with
    | zero => intro y5 ts tc hf; exact absurd hf (by simp [fX5_back_29])
    | succ n ih =>
      intro y5 ts tc hf H locs ls X hl
      rw [fX5_back_29] at hf
      refine lv_iload hx hb dX5_back_29 (lv_at hl 3 rfl) ?_
      refine xr_if_lt (tgt := 54) hx hb dX5_back_31 rfl hf (fun hf => ?_) (fun hf => ?_)
      · refine lv_aload_n hx hb dX5_back_54 rfl (lv_at hl 0 rfl) ?_
        refine lv_aload_n hx hb dX5_back_55 rfl (lv_at hl 1 rfl) ?_
        refine xb hf (fun v7 hv hf => ?_)
        refine xc_V1 (rest := []) ⟨hx, hb, hml, hown, hts⟩ (mX5_becomeBuilt ht3 hv) (cwV 1 hts gX5_back_X5_becomeBuilt rfl rfl rfl hqX5_becomeBuilt ⟨Nat.le_of_ble_eq_true rfl, Nat.le_of_ble_eq_true rfl⟩) X (va_recv X.1 X.2.1 (ci := 1) (q0 := 14) rfl wlC_14) rfl hl.1 rfl (Nat.le_of_ble_eq_true rfl) dX5_back_56 ⟨Nat.zero_le _, Nat.zero_le _⟩ (fun H locs X => ?_)
        cases hf
        exact xe_i hx hb hr hlocks X dX5_back_59
      · refine lv_aload_n hx hb dX5_back_34 rfl (lv_at hl 0 rfl) ?_
        refine xg_f hx hb hts hown X h5 14 wlC_14 rfl 1 (by decide) (by decide +kernel) (v := .ref (ad 6)) rfl dX5_back_35 ?_
        refine lv_aload hx hb dX5_back_38 (lv_at hl 2 rfl) ?_
        refine lv_iload hx hb dX5_back_40 (lv_at hl 3 rfl) ?_
        refine xb hf (fun v8 hv hf => ?_)
        refine xc_V1 (rest := [.ref (ad 6)]) ⟨hx, hb, hml, hown, hts⟩ (mX4_signOn ht4 hv) (cwV 1 hts gX5_back_X4_signOn rfl rfl rfl hqX4_signOn ⟨Nat.le_of_ble_eq_true rfl, Nat.le_of_ble_eq_true rfl⟩) X (va_recv X.1 X.2.1 (ci := 0) (q0 := t4) rfl (wlC_t ht4)) rfl hl.1 rfl (Nat.le_of_ble_eq_true rfl) dX5_back_42 ⟨Nat.zero_le _, Nat.zero_le _⟩ (fun H locs X => ?_)
        refine xb hf (fun v9 hv hf => ?_)
        refine xc_V0 (rest := []) ⟨hx, hb, hml, hown, hts⟩ (mX4_add (by decide) hv) (cwV 1 hts gX5_back_X4_add rfl rfl rfl hqX4_add ⟨Nat.le_of_ble_eq_true rfl, Nat.le_of_ble_eq_true rfl⟩) X (va_recv X.1 X.2.1 (ci := 0) (q0 := 6) rfl (wlC_t (by decide))) rfl hl.1 rfl (Nat.le_of_ble_eq_true rfl) dX5_back_45 ⟨Nat.zero_le _, Nat.zero_le _⟩ (fun H locs X => ?_)
        refine lv_iinc (v := (y5 + (-1))) (lv' := [(5, .int (y5 + (-1))), (0, .ref (ad 14)), (3, .ref (ad t3)), (4, .ref (ad t4))]) hx hb dX5_back_48 hl (k := 3) rfl ii_m1 (by decide) rfl (fun ls hl => ?_)
        refine lv_goto (tgt := 29) hx hb dX5_back_51 rfl ?_
        exact ih (y5 + (-1)) v9.1 v9.2 hf _ _ _ X (lv_sub hl [1, 2, 3, 0] rfl)
  rw [fX5_back] at hf
  refine lv_aload_n hx hb dX5_back_0 rfl (lv_at hl 0 rfl) ?_
  refine lv_iload_n hx hb dX5_back_1 rfl (lv_at hl 1 rfl) ?_
  refine xb hf (fun v1 hv1 hf => ?_)
  refine exb_c hf (fun e9 h9 hf => ?_) (fun r2 h9 hf => ?_)
  · cases hf
  · have hr2 : r2 < 7 := fX5_textOf_lt (exo_s hv1 h9)
    refine xc_V1 (rest := []) ⟨hx, hb, hml, hown, hts⟩ (mX5_textOf (exo_s hv1 h9)) (cwV 1 hts gX5_back_X5_textOf rfl rfl rfl hqX5_textOf ⟨Nat.le_of_ble_eq_true rfl, Nat.le_of_ble_eq_true rfl⟩) X (va_recv X.1 X.2.1 (ci := 1) (q0 := 14) rfl wlC_14) rfl hl.1 rfl (Nat.le_of_ble_eq_true rfl) dX5_back_2 ⟨Nat.zero_le _, Nat.zero_le _⟩ (fun H locs X => ?_)
    refine lv_astore_n (lv' := [(3, .ref (ad r2)), (0, .ref (ad 14)), (1, .int x1), (2, .int x2)]) hx hb dX5_back_5 rfl hl (by decide) rfl (fun ls hl => ?_)
    refine lv_aload_n hx hb dX5_back_6 rfl (lv_at hl 1 rfl) ?_
    refine lv_iload_n hx hb dX5_back_7 rfl (lv_at hl 3 rfl) ?_
    refine xb hf (fun v3 hv3 hf => ?_)
    refine exb_c hf (fun e9 h9 hf => ?_) (fun r4 h9 hf => ?_)
    · cases hf
    · have hr4 : r4 < 7 := fX5_textOf_lt (exo_s hv3 h9)
      refine xc_V1 (rest := []) ⟨hx, hb, hml, hown, hts⟩ (mX5_textOf (exo_s hv3 h9)) (cwV 1 hts gX5_back_X5_textOf rfl rfl rfl hqX5_textOf ⟨Nat.le_of_ble_eq_true rfl, Nat.le_of_ble_eq_true rfl⟩) X (va_recv X.1 X.2.1 (ci := 1) (q0 := 14) rfl wlC_14) rfl hl.1 rfl (Nat.le_of_ble_eq_true rfl) dX5_back_8 ⟨Nat.zero_le _, Nat.zero_le _⟩ (fun H locs X => ?_)
      refine lv_astore (lv' := [(4, .ref (ad r4)), (3, .ref (ad r2)), (0, .ref (ad 14)), (1, .int x1), (2, .int x2)]) hx hb dX5_back_11 hl (by decide) rfl (fun ls hl => ?_)
      refine lv_aload_n hx hb dX5_back_13 rfl (lv_at hl 2 rfl) ?_
      refine xg_f hx hb hts hown X h5 14 wlC_14 rfl 1 (by decide) (by decide +kernel) (v := .ref (ad 6)) rfl dX5_back_14 ?_
      refine xb hf (fun v5 hv hf => ?_)
      refine xc_V0 (rest := []) ⟨hx, hb, hml, hown, hts⟩ (mX4_clear (by decide) hv) (cwV 0 hts gX5_back_X4_clear rfl rfl rfl hqX4_clear ⟨Nat.le_of_ble_eq_true rfl, Nat.le_of_ble_eq_true rfl⟩) X (va_recv X.1 X.2.1 (ci := 0) (q0 := 6) rfl (wlC_t (by decide))) rfl hl.1 rfl (Nat.le_of_ble_eq_true rfl) dX5_back_17 ⟨Nat.zero_le _, Nat.zero_le _⟩ (fun H locs X => ?_)
      refine lv_aload hx hb dX5_back_20 (lv_at hl 0 rfl) ?_
      refine xb hf (fun v6 hv hf => ?_)
      refine xc_V1 (rest := []) ⟨hx, hb, hml, hown, hts⟩ (mX4_size hr4 hv) (cwV 0 hts gX5_back_X4_size rfl rfl rfl hqX4_size ⟨Nat.le_of_ble_eq_true rfl, Nat.le_of_ble_eq_true rfl⟩) X (va_recv X.1 X.2.1 (ci := 0) (q0 := r4) rfl (wlC_t hr4)) rfl hl.1 rfl (Nat.le_of_ble_eq_true rfl) dX5_back_22 ⟨Nat.zero_le _, Nat.zero_le _⟩ (fun H locs X => ?_)
      refine lv_iconst (v := (1 : Int32)) hx hb dX5_back_25 rfl ?_
      refine lv_isub hx hb dX5_back_26 ?_
      refine lv_istore (lv' := [(5, .int (v6 - (1 : Int32))), (4, .ref (ad r4)), (3, .ref (ad r2)), (0, .ref (ad 14)), (1, .int x1), (2, .int x2)]) hx hb dX5_back_27 hl (by decide) rfl (fun ls hl => ?_)
      exact w29 r2 r4 hr2 hr4 fu (v6 - (1 : Int32)) v5 tc hf _ _ _ X (lv_sub hl [3, 2, 1, 0] rfl)
set_option maxRecDepth 100000 in
set_option maxHeartbeats 4000000 in
theorem eX5_back {l : Launch} {dd : va_G} {cy : Nat → ClassId} {ad : Nat → Nat} {A : Nat → Prop} {fu : Nat} {ts : Nat → Int32} {tc : Nat → Nat → Int32} {rk : Nat → Int32} {pl : Nat → Int32} {ru : Nat → Int64} {sl : Nat → Int32} {bg : Nat → Int32} {kn : Nat → Int64} {rm : Int32} {ol : Nat → Int64} {od : Nat → UInt64} {x1 : Int32} {x2 : Int32} {E9 : String} {tso : Nat → Int32} {tco : Nat → Nat → Int32} (htr : l.stackTraces = false) (hf : fX5_back fu ts tc x1 x2 = some (.error E9, tso, tco)) : vx_Met l yX5_back wsX5_back { frames := 7, cells := 1, slots := 6, locals := 121 } (va_Pc [.ref (ad 14), .int x1, .int x2] (IT dd cy A (wlC ad cy ts tc rk pl ru sl bg kn rm ol od))) (fun _ _ _ _ => False) (XE dd cy A E9 (wlC ad cy tso tco rk pl ru sl bg kn rm ol od)) 1 6 A := by
  refine vx_ofW (cc := cX5_back) (maxL := 6) (ret := some .int) (by decide) rfl ?_
  intro p e s m args below meth c s₁ B hml hexc hv
  obtain ⟨hav, hI, hT⟩ := hv
  have hx := B.exec
  have hb := B.bytes
  have hr := B.returns
  have hts := atoms_spec (ws := wsX5_back) B.pre
  have hown : s.vm.findClass RX5 = some m.cls := findClass_of_methodNamed B.named
  have hlocks := B.notSynchronized
  have X := XW.of hI
  have h5 : ∀ w ∈ wsX50, w ∈ wsX5_back := by decide +kernel
  refine xe_in hav (Nat.le_of_ble_eq_true rfl) rfl (fun ls hl => ?_)
  have w29 : ∀ (t3 : Nat) (t4 : Nat) (ht3 : t3 < 7) (ht4 : t4 < 7) (n : Nat) (y5 : Int32) (ts : Nat → Int32) (tc : Nat → Nat → Int32), fX5_back_29 fu t3 t4 n y5 ts tc = some (.error E9, tso, tco) → ∀ (H : Heap) (locs : List Loc) (ls : Array Slot), XW dd cy A s (wlC ad cy ts tc rk pl ru sl bg kn rm ol od) H locs → lv_has ls 6 [(0, .ref (ad 14)), (3, .ref (ad t3)), (4, .ref (ad t4)), (5, .int y5)] → W p l e (headSpec wsX5_back { frames := 7, cells := 1, slots := 6, locals := 121 }).room s m args below meth c H locs 0 0 (vx_MQ below (fun _ _ _ _ => False) (XE dd cy A E9 (wlC ad cy tso tco rk pl ru sl bg kn rm ol od)) args s 1 6 A) (F0 m 29 ls []) := by
    intro t3 t4 ht3 ht4 n
    induction n with
    | zero => intro y5 ts tc hf; exact absurd hf (by simp [fX5_back_29])
    | succ n ih =>
      intro y5 ts tc hf H locs ls X hl
      rw [fX5_back_29] at hf
      refine lv_iload hx hb dX5_back_29 (lv_at hl 3 rfl) ?_
      refine xr_if_lt (tgt := 54) hx hb dX5_back_31 rfl hf (fun hf => ?_) (fun hf => ?_)
      · refine lv_aload_n hx hb dX5_back_54 rfl (lv_at hl 0 rfl) ?_
        refine lv_aload_n hx hb dX5_back_55 rfl (lv_at hl 1 rfl) ?_
        refine xb hf (fun v7 hv hf => ?_)
        refine xc_V1 (rest := []) ⟨hx, hb, hml, hown, hts⟩ (mX5_becomeBuilt ht3 hv) (cwV 1 hts gX5_back_X5_becomeBuilt rfl rfl rfl hqX5_becomeBuilt ⟨Nat.le_of_ble_eq_true rfl, Nat.le_of_ble_eq_true rfl⟩) X (va_recv X.1 X.2.1 (ci := 1) (q0 := 14) rfl wlC_14) rfl hl.1 rfl (Nat.le_of_ble_eq_true rfl) dX5_back_56 ⟨Nat.zero_le _, Nat.zero_le _⟩ (fun H locs X => ?_)
        cases hf
      · refine lv_aload_n hx hb dX5_back_34 rfl (lv_at hl 0 rfl) ?_
        refine xg_f hx hb hts hown X h5 14 wlC_14 rfl 1 (by decide) (by decide +kernel) (v := .ref (ad 6)) rfl dX5_back_35 ?_
        refine lv_aload hx hb dX5_back_38 (lv_at hl 2 rfl) ?_
        refine lv_iload hx hb dX5_back_40 (lv_at hl 3 rfl) ?_
        refine xb hf (fun v8 hv hf => ?_)
        refine xc_V1 (rest := [.ref (ad 6)]) ⟨hx, hb, hml, hown, hts⟩ (mX4_signOn ht4 hv) (cwV 1 hts gX5_back_X4_signOn rfl rfl rfl hqX4_signOn ⟨Nat.le_of_ble_eq_true rfl, Nat.le_of_ble_eq_true rfl⟩) X (va_recv X.1 X.2.1 (ci := 0) (q0 := t4) rfl (wlC_t ht4)) rfl hl.1 rfl (Nat.le_of_ble_eq_true rfl) dX5_back_42 ⟨Nat.zero_le _, Nat.zero_le _⟩ (fun H locs X => ?_)
        refine xb hf (fun v9 hv hf => ?_)
        refine xc_V0 (rest := []) ⟨hx, hb, hml, hown, hts⟩ (mX4_add (by decide) hv) (cwV 1 hts gX5_back_X4_add rfl rfl rfl hqX4_add ⟨Nat.le_of_ble_eq_true rfl, Nat.le_of_ble_eq_true rfl⟩) X (va_recv X.1 X.2.1 (ci := 0) (q0 := 6) rfl (wlC_t (by decide))) rfl hl.1 rfl (Nat.le_of_ble_eq_true rfl) dX5_back_45 ⟨Nat.zero_le _, Nat.zero_le _⟩ (fun H locs X => ?_)
        refine lv_iinc (v := (y5 + (-1))) (lv' := [(5, .int (y5 + (-1))), (0, .ref (ad 14)), (3, .ref (ad t3)), (4, .ref (ad t4))]) hx hb dX5_back_48 hl (k := 3) rfl ii_m1 (by decide) rfl (fun ls hl => ?_)
        refine lv_goto (tgt := 29) hx hb dX5_back_51 rfl ?_
        exact ih (y5 + (-1)) v9.1 v9.2 hf _ _ _ X (lv_sub hl [1, 2, 3, 0] rfl)
  rw [fX5_back] at hf
  refine lv_aload_n hx hb dX5_back_0 rfl (lv_at hl 0 rfl) ?_
  refine lv_iload_n hx hb dX5_back_1 rfl (lv_at hl 1 rfl) ?_
  refine xb hf (fun v1 hv1 hf => ?_)
  refine exb_c hf (fun e9 h9 hf => ?_) (fun r2 h9 hf => ?_)
  · cases hf
    exact xt_V (rest := []) ⟨hx, hb, hml, hown, hts⟩ (eX5_textOf htr (exo_s hv1 h9)) (cwV 1 hts gX5_back_X5_textOf rfl rfl rfl hqX5_textOf ⟨Nat.le_of_ble_eq_true rfl, Nat.le_of_ble_eq_true rfl⟩) X hT (va_recv X.1 X.2.1 (ci := 1) (q0 := 14) rfl wlC_14) rfl hl.1 rfl (Nat.le_of_ble_eq_true rfl) dX5_back_2 ⟨Nat.le_of_ble_eq_true rfl, Nat.le_of_ble_eq_true rfl⟩ hexc hlocks
  · have hr2 : r2 < 7 := fX5_textOf_lt (exo_s hv1 h9)
    refine xc_V1 (rest := []) ⟨hx, hb, hml, hown, hts⟩ (mX5_textOf (exo_s hv1 h9)) (cwV 1 hts gX5_back_X5_textOf rfl rfl rfl hqX5_textOf ⟨Nat.le_of_ble_eq_true rfl, Nat.le_of_ble_eq_true rfl⟩) X (va_recv X.1 X.2.1 (ci := 1) (q0 := 14) rfl wlC_14) rfl hl.1 rfl (Nat.le_of_ble_eq_true rfl) dX5_back_2 ⟨Nat.zero_le _, Nat.zero_le _⟩ (fun H locs X => ?_)
    refine lv_astore_n (lv' := [(3, .ref (ad r2)), (0, .ref (ad 14)), (1, .int x1), (2, .int x2)]) hx hb dX5_back_5 rfl hl (by decide) rfl (fun ls hl => ?_)
    refine lv_aload_n hx hb dX5_back_6 rfl (lv_at hl 1 rfl) ?_
    refine lv_iload_n hx hb dX5_back_7 rfl (lv_at hl 3 rfl) ?_
    refine xb hf (fun v3 hv3 hf => ?_)
    refine exb_c hf (fun e9 h9 hf => ?_) (fun r4 h9 hf => ?_)
    · cases hf
      exact xt_V (rest := []) ⟨hx, hb, hml, hown, hts⟩ (eX5_textOf htr (exo_s hv3 h9)) (cwV 1 hts gX5_back_X5_textOf rfl rfl rfl hqX5_textOf ⟨Nat.le_of_ble_eq_true rfl, Nat.le_of_ble_eq_true rfl⟩) X hT (va_recv X.1 X.2.1 (ci := 1) (q0 := 14) rfl wlC_14) rfl hl.1 rfl (Nat.le_of_ble_eq_true rfl) dX5_back_8 ⟨Nat.le_of_ble_eq_true rfl, Nat.le_of_ble_eq_true rfl⟩ hexc hlocks
    · have hr4 : r4 < 7 := fX5_textOf_lt (exo_s hv3 h9)
      refine xc_V1 (rest := []) ⟨hx, hb, hml, hown, hts⟩ (mX5_textOf (exo_s hv3 h9)) (cwV 1 hts gX5_back_X5_textOf rfl rfl rfl hqX5_textOf ⟨Nat.le_of_ble_eq_true rfl, Nat.le_of_ble_eq_true rfl⟩) X (va_recv X.1 X.2.1 (ci := 1) (q0 := 14) rfl wlC_14) rfl hl.1 rfl (Nat.le_of_ble_eq_true rfl) dX5_back_8 ⟨Nat.zero_le _, Nat.zero_le _⟩ (fun H locs X => ?_)
      refine lv_astore (lv' := [(4, .ref (ad r4)), (3, .ref (ad r2)), (0, .ref (ad 14)), (1, .int x1), (2, .int x2)]) hx hb dX5_back_11 hl (by decide) rfl (fun ls hl => ?_)
      refine lv_aload_n hx hb dX5_back_13 rfl (lv_at hl 2 rfl) ?_
      refine xg_f hx hb hts hown X h5 14 wlC_14 rfl 1 (by decide) (by decide +kernel) (v := .ref (ad 6)) rfl dX5_back_14 ?_
      refine xb hf (fun v5 hv hf => ?_)
      refine xc_V0 (rest := []) ⟨hx, hb, hml, hown, hts⟩ (mX4_clear (by decide) hv) (cwV 0 hts gX5_back_X4_clear rfl rfl rfl hqX4_clear ⟨Nat.le_of_ble_eq_true rfl, Nat.le_of_ble_eq_true rfl⟩) X (va_recv X.1 X.2.1 (ci := 0) (q0 := 6) rfl (wlC_t (by decide))) rfl hl.1 rfl (Nat.le_of_ble_eq_true rfl) dX5_back_17 ⟨Nat.zero_le _, Nat.zero_le _⟩ (fun H locs X => ?_)
      refine lv_aload hx hb dX5_back_20 (lv_at hl 0 rfl) ?_
      refine xb hf (fun v6 hv hf => ?_)
      refine xc_V1 (rest := []) ⟨hx, hb, hml, hown, hts⟩ (mX4_size hr4 hv) (cwV 0 hts gX5_back_X4_size rfl rfl rfl hqX4_size ⟨Nat.le_of_ble_eq_true rfl, Nat.le_of_ble_eq_true rfl⟩) X (va_recv X.1 X.2.1 (ci := 0) (q0 := r4) rfl (wlC_t hr4)) rfl hl.1 rfl (Nat.le_of_ble_eq_true rfl) dX5_back_22 ⟨Nat.zero_le _, Nat.zero_le _⟩ (fun H locs X => ?_)
      refine lv_iconst (v := (1 : Int32)) hx hb dX5_back_25 rfl ?_
      refine lv_isub hx hb dX5_back_26 ?_
      refine lv_istore (lv' := [(5, .int (v6 - (1 : Int32))), (4, .ref (ad r4)), (3, .ref (ad r2)), (0, .ref (ad 14)), (1, .int x1), (2, .int x2)]) hx hb dX5_back_27 hl (by decide) rfl (fun ls hl => ?_)
      exact w29 r2 r4 hr2 hr4 fu (v6 - (1 : Int32)) v5 tc hf _ _ _ X (lv_sub hl [3, 2, 1, 0] rfl)
set_option maxRecDepth 100000 in
set_option maxHeartbeats 4000000 in
theorem mX5_requireNotEmpty {l : Launch} {dd : va_G} {cy : Nat → ClassId} {ad : Nat → Nat} {A : Nat → Prop} {ts : Nat → Int32} {tc : Nat → Nat → Int32} {rk : Nat → Int32} {pl : Nat → Int32} {ru : Nat → Int64} {sl : Nat → Int32} {bg : Nat → Int32} {kn : Nat → Int64} {rm : Int32} {ol : Nat → Int64} {od : Nat → UInt64} {j0 : Nat} (hj0 : j0 < 7) (hf : fX5_requireNotEmpty ts j0 = some (.ok ())) : Met l yX5_requireNotEmpty wsX5_requireNotEmpty { frames := 1, cells := 0, slots := 0, locals := 20 } (va_Pc [.ref (ad j0)] (IW dd cy A (wlC ad cy ts tc rk pl ru sl bg kn rm ol od))) (QX dd cy A none (wlC ad cy ts tc rk pl ru sl bg kn rm ol od)) 0 0 A := by
  refine Met.ofW (cc := cX5_requireNotEmpty) (maxL := 1) (ret := none) (by decide) rfl ?_
  intro p e s m args below meth c s₁ B hml hv
  obtain ⟨hav, hI⟩ := hv
  have hx := B.exec
  have hb := B.bytes
  have hr := B.returns
  have hts := atoms_spec (ws := wsX5_requireNotEmpty) B.pre
  have hown : s.vm.findClass RX5 = some m.cls := findClass_of_methodNamed B.named
  have hlocks := B.notSynchronized
  have X := XW.of hI
  refine xe_in hav (Nat.le_of_ble_eq_true rfl) rfl (fun ls hl => ?_)
  rw [fX5_requireNotEmpty] at hf
  refine lv_aload_n hx hb dX5_requireNotEmpty_0 rfl (lv_at hl 0 rfl) ?_
  refine xb hf (fun v1 hv hf => ?_)
  refine xc_V1 (rest := []) ⟨hx, hb, hml, hown, hts⟩ (mX4_isEmpty hj0 hv) (cwV 0 hts gX5_requireNotEmpty_X4_isEmpty rfl rfl rfl hqX4_isEmpty ⟨Nat.le_of_ble_eq_true rfl, Nat.le_of_ble_eq_true rfl⟩) X (va_recv X.1 X.2.1 (ci := 0) (q0 := j0) rfl (wlC_t hj0)) rfl hl.1 rfl (Nat.le_of_ble_eq_true rfl) dX5_requireNotEmpty_1 ⟨Nat.zero_le _, Nat.zero_le _⟩ (fun H locs X => ?_)
  refine xr_if_eq (tgt := 18) hx hb dX5_requireNotEmpty_4 rfl hf (fun hf => ?_) (fun hf => ?_)
  · cases hf
    exact xe_v hx hb hr hlocks X dX5_requireNotEmpty_18
  · cases hf
set_option maxRecDepth 100000 in
set_option maxHeartbeats 4000000 in
theorem eX5_requireNotEmpty {l : Launch} {dd : va_G} {cy : Nat → ClassId} {ad : Nat → Nat} {A : Nat → Prop} {ts : Nat → Int32} {tc : Nat → Nat → Int32} {rk : Nat → Int32} {pl : Nat → Int32} {ru : Nat → Int64} {sl : Nat → Int32} {bg : Nat → Int32} {kn : Nat → Int64} {rm : Int32} {ol : Nat → Int64} {od : Nat → UInt64} {j0 : Nat} {E9 : String} (htr : l.stackTraces = false) (hj0 : j0 < 7) (hf : fX5_requireNotEmpty ts j0 = some (.error E9)) : vx_Met l yX5_requireNotEmpty wsX5_requireNotEmpty { frames := 6, cells := 1, slots := 6, locals := 100 } (va_Pc [.ref (ad j0)] (IT dd cy A (wlC ad cy ts tc rk pl ru sl bg kn rm ol od))) (fun _ _ _ _ => False) (XE dd cy A E9 (wlC ad cy ts tc rk pl ru sl bg kn rm ol od)) 1 6 A := by
  refine vx_ofW (cc := cX5_requireNotEmpty) (maxL := 1) (ret := none) (by decide) rfl ?_
  intro p e s m args below meth c s₁ B hml hexc hv
  obtain ⟨hav, hI, hT⟩ := hv
  have hx := B.exec
  have hb := B.bytes
  have hr := B.returns
  have hts := atoms_spec (ws := wsX5_requireNotEmpty) B.pre
  have hown : s.vm.findClass RX5 = some m.cls := findClass_of_methodNamed B.named
  have hlocks := B.notSynchronized
  have X := XW.of hI
  refine xe_in hav (Nat.le_of_ble_eq_true rfl) rfl (fun ls hl => ?_)
  rw [fX5_requireNotEmpty] at hf
  refine lv_aload_n hx hb dX5_requireNotEmpty_0 rfl (lv_at hl 0 rfl) ?_
  refine xb hf (fun v1 hv hf => ?_)
  refine xc_V1 (rest := []) ⟨hx, hb, hml, hown, hts⟩ (mX4_isEmpty hj0 hv) (cwV 0 hts gX5_requireNotEmpty_X4_isEmpty rfl rfl rfl hqX4_isEmpty ⟨Nat.le_of_ble_eq_true rfl, Nat.le_of_ble_eq_true rfl⟩) X (va_recv X.1 X.2.1 (ci := 0) (q0 := j0) rfl (wlC_t hj0)) rfl hl.1 rfl (Nat.le_of_ble_eq_true rfl) dX5_requireNotEmpty_1 ⟨Nat.zero_le _, Nat.zero_le _⟩ (fun H locs X => ?_)
  refine xr_if_eq (tgt := 18) hx hb dX5_requireNotEmpty_4 rfl hf (fun hf => ?_) (fun hf => ?_)
  · cases hf
  · cases hf
    exact xt_throwW (rest := []) (text := "the text is empty") hx hb htr hown hts hT X (by decide +kernel) (by decide +kernel) (by decide +kernel) (by decide +kernel) (by decide +kernel) (by decide +kernel) th_hn_210 th_hot_206_210 (hl.1.trans hml.symm) dX5_requireNotEmpty_7 dX5_requireNotEmpty_10 dX5_requireNotEmpty_11 dX5_requireNotEmpty_14 dX5_requireNotEmpty_17 hexc (Nat.le_of_ble_eq_true rfl) (Nat.le_of_ble_eq_true rfl) (Nat.le_of_ble_eq_true rfl) (Nat.le_of_ble_eq_true rfl) hlocks
set_option maxRecDepth 100000 in
set_option maxHeartbeats 4000000 in
theorem mX5_buildInstead {l : Launch} {dd : va_G} {cy : Nat → ClassId} {ad : Nat → Nat} {A : Nat → Prop} {fu : Nat} {ts : Nat → Int32} {tc : Nat → Nat → Int32} {rk : Nat → Int32} {pl : Nat → Int32} {ru : Nat → Int64} {sl : Nat → Int32} {bg : Nat → Int32} {kn : Nat → Int64} {rm : Int32} {ol : Nat → Int64} {od : Nat → UInt64} {j1 : Nat} {j2 : Nat} {j3 : Nat} {tso : Nat → Int32} {tco : Nat → Nat → Int32} (hj1 : j1 < 7) (hj2 : j2 < 7) (hj3 : j3 < 7) (hf : fX5_buildInstead fu ts tc j1 j2 j3 = some (tso, tco)) : Met l yX5_buildInstead wsX5_buildInstead { frames := 3, cells := 0, slots := 0, locals := 79 } (va_Pc [.ref (ad 14), .ref (ad j1), .ref (ad j2), .ref (ad j3)] (IW dd cy A (wlC ad cy ts tc rk pl ru sl bg kn rm ol od))) (QX dd cy A none (wlC ad cy tso tco rk pl ru sl bg kn rm ol od)) 0 0 A := by
  refine Met.ofW (cc := cX5_buildInstead) (maxL := 6) (ret := none) (by decide) rfl ?_
  intro p e s m args below meth c s₁ B hml hv
  obtain ⟨hav, hI⟩ := hv
  have hx := B.exec
  have hb := B.bytes
  have hr := B.returns
  have hts := atoms_spec (ws := wsX5_buildInstead) B.pre
  have hown : s.vm.findClass RX5 = some m.cls := findClass_of_methodNamed B.named
  have hlocks := B.notSynchronized
  have X := XW.of hI
  have h5 : ∀ w ∈ wsX50, w ∈ wsX5_buildInstead := by decide +kernel
  refine xe_in hav (Nat.le_of_ble_eq_true rfl) rfl (fun ls hl => ?_)
  have w13 : ∀ (t1 : Nat) (t2 : Nat) (t3 : Nat) (ht1 : t1 < 7) (ht2 : t2 < 7) (ht3 : t3 < 7) (n : Nat) (y4 : Int32) (y5 : Int32) (ts : Nat → Int32) (tc : Nat → Nat → Int32), fX5_buildInstead_13 fu t1 t2 t3 n y4 y5 ts tc = some (tso, tco) → ∀ (H : Heap) (locs : List Loc) (ls : Array Slot), XW dd cy A s (wlC ad cy ts tc rk pl ru sl bg kn rm ol od) H locs → lv_has ls 6 [(0, .ref (ad 14)), (1, .ref (ad t1)), (2, .ref (ad t2)), (3, .ref (ad t3)), (4, .int y4), (5, .int y5)] → W p l e (headSpec wsX5_buildInstead { frames := 3, cells := 0, slots := 0, locals := 79 }).room s m args below meth c H locs 0 0 (MQ below (QX dd cy A none (wlC ad cy tso tco rk pl ru sl bg kn rm ol od)) args s 0 0 A) (F0 m 13 ls []) := by
    intro t1 t2 t3 ht1 ht2 ht3 n
    induction n with
    | zero => intro y4 y5 ts tc hf; exact absurd hf (by simp [fX5_buildInstead_13])
    | succ n ih =>
      intro y4 y5 ts tc hf H locs ls X hl
      rw [fX5_buildInstead_13] at hf
      refine lv_iload hx hb dX5_buildInstead_13 (lv_at hl 5 rfl) ?_
      refine lv_aload_n hx hb dX5_buildInstead_15 rfl (lv_at hl 1 rfl) ?_
      refine xb hf (fun v2 hv hf => ?_)
      refine xc_V1 (rest := [.int y5]) ⟨hx, hb, hml, hown, hts⟩ (mX4_size ht1 hv) (cwV 0 hts gX5_buildInstead_X4_size rfl rfl rfl hqX4_size ⟨Nat.le_of_ble_eq_true rfl, Nat.le_of_ble_eq_true rfl⟩) X (va_recv X.1 X.2.1 (ci := 0) (q0 := t1) rfl (wlC_t ht1)) rfl hl.1 rfl (Nat.le_of_ble_eq_true rfl) dX5_buildInstead_16 ⟨Nat.zero_le _, Nat.zero_le _⟩ (fun H locs X => ?_)
      refine xr_icmp_ge (tgt := 78) hx hb dX5_buildInstead_19 rfl hf (fun hf => ?_) (fun hf => ?_)
      · cases hf
        exact xe_v hx hb hr hlocks X dX5_buildInstead_78
      · refine lv_iload hx hb dX5_buildInstead_22 (lv_at hl 5 rfl) ?_
        refine lv_iload hx hb dX5_buildInstead_24 (lv_at hl 4 rfl) ?_
        refine xr_icmp_lt (tgt := 72) hx hb dX5_buildInstead_26 rfl hf (fun hf => ?_) (fun hf => ?_)
        · refine lv_iinc (v := (y5 + 1)) (lv' := [(5, .int (y5 + 1)), (0, .ref (ad 14)), (1, .ref (ad t1)), (2, .ref (ad t2)), (3, .ref (ad t3)), (4, .int y4)]) hx hb dX5_buildInstead_72 hl (k := 5) rfl ii_1 (by decide) rfl (fun ls hl => ?_)
          refine lv_goto (tgt := 13) hx hb dX5_buildInstead_75 rfl ?_
          exact ih y4 (y5 + 1) ts tc hf _ _ _ X (lv_sub hl [1, 2, 3, 4, 5, 0] rfl)
        · refine lv_aload_n hx hb dX5_buildInstead_29 rfl (lv_at hl 1 rfl) ?_
          refine lv_iload hx hb dX5_buildInstead_30 (lv_at hl 5 rfl) ?_
          refine lv_aload_n hx hb dX5_buildInstead_32 rfl (lv_at hl 2 rfl) ?_
          refine xb hf (fun v3 hv hf => ?_)
          refine xc_V1 (rest := []) ⟨hx, hb, hml, hown, hts⟩ (mX4_hasAt ht1 ht2 hv) (cwV 2 hts gX5_buildInstead_X4_hasAt rfl rfl rfl hqX4_hasAt ⟨Nat.le_of_ble_eq_true rfl, Nat.le_of_ble_eq_true rfl⟩) X (va_recv X.1 X.2.1 (ci := 0) (q0 := t1) rfl (wlC_t ht1)) rfl hl.1 rfl (Nat.le_of_ble_eq_true rfl) dX5_buildInstead_33 ⟨Nat.zero_le _, Nat.zero_le _⟩ (fun H locs X => ?_)
          refine xr_if_eq (tgt := 59) hx hb dX5_buildInstead_36 rfl hf (fun hf => ?_) (fun hf => ?_)
          · refine lv_aload_n hx hb dX5_buildInstead_59 rfl (lv_at hl 0 rfl) ?_
            refine xg_f hx hb hts hown X h5 14 wlC_14 rfl 1 (by decide) (by decide +kernel) (v := .ref (ad 6)) rfl dX5_buildInstead_60 ?_
            refine lv_aload_n hx hb dX5_buildInstead_63 rfl (lv_at hl 1 rfl) ?_
            refine lv_iload hx hb dX5_buildInstead_64 (lv_at hl 5 rfl) ?_
            refine xb hf (fun v4 hv hf => ?_)
            refine xc_V1 (rest := [.ref (ad 6)]) ⟨hx, hb, hml, hown, hts⟩ (mX4_signOn ht1 hv) (cwV 1 hts gX5_buildInstead_X4_signOn rfl rfl rfl hqX4_signOn ⟨Nat.le_of_ble_eq_true rfl, Nat.le_of_ble_eq_true rfl⟩) X (va_recv X.1 X.2.1 (ci := 0) (q0 := t1) rfl (wlC_t ht1)) rfl hl.1 rfl (Nat.le_of_ble_eq_true rfl) dX5_buildInstead_66 ⟨Nat.zero_le _, Nat.zero_le _⟩ (fun H locs X => ?_)
            refine xb hf (fun v5 hv hf => ?_)
            refine xc_V0 (rest := []) ⟨hx, hb, hml, hown, hts⟩ (mX4_add (by decide) hv) (cwV 1 hts gX5_buildInstead_X4_add rfl rfl rfl hqX4_add ⟨Nat.le_of_ble_eq_true rfl, Nat.le_of_ble_eq_true rfl⟩) X (va_recv X.1 X.2.1 (ci := 0) (q0 := 6) rfl (wlC_t (by decide))) rfl hl.1 rfl (Nat.le_of_ble_eq_true rfl) dX5_buildInstead_69 ⟨Nat.zero_le _, Nat.zero_le _⟩ (fun H locs X => ?_)
            refine lv_iinc (v := (y5 + 1)) (lv' := [(5, .int (y5 + 1)), (0, .ref (ad 14)), (1, .ref (ad t1)), (2, .ref (ad t2)), (3, .ref (ad t3)), (4, .int y4)]) hx hb dX5_buildInstead_72 hl (k := 5) rfl ii_1 (by decide) rfl (fun ls hl => ?_)
            refine lv_goto (tgt := 13) hx hb dX5_buildInstead_75 rfl ?_
            exact ih y4 (y5 + 1) v5.1 v5.2 hf _ _ _ X (lv_sub hl [1, 2, 3, 4, 5, 0] rfl)
          · refine lv_aload_n hx hb dX5_buildInstead_39 rfl (lv_at hl 0 rfl) ?_
            refine xg_f hx hb hts hown X h5 14 wlC_14 rfl 1 (by decide) (by decide +kernel) (v := .ref (ad 6)) rfl dX5_buildInstead_40 ?_
            refine lv_aload_n hx hb dX5_buildInstead_43 rfl (lv_at hl 3 rfl) ?_
            refine xb hf (fun v6 hv hf => ?_)
            refine xc_V0 (rest := []) ⟨hx, hb, hml, hown, hts⟩ (mX4_addAll (by decide) ht3 hv) (cwV 1 hts gX5_buildInstead_X4_addAll rfl rfl rfl hqX4_addAll ⟨Nat.le_of_ble_eq_true rfl, Nat.le_of_ble_eq_true rfl⟩) X (va_recv X.1 X.2.1 (ci := 0) (q0 := 6) rfl (wlC_t (by decide))) rfl hl.1 rfl (Nat.le_of_ble_eq_true rfl) dX5_buildInstead_44 ⟨Nat.zero_le _, Nat.zero_le _⟩ (fun H locs X => ?_)
            refine lv_iload hx hb dX5_buildInstead_47 (lv_at hl 5 rfl) ?_
            refine lv_aload_n hx hb dX5_buildInstead_49 rfl (lv_at hl 2 rfl) ?_
            refine xb hf (fun v7 hv hf => ?_)
            refine xc_V1 (rest := [.int y5]) ⟨hx, hb, hml, hown, hts⟩ (mX4_size ht2 hv) (cwV 0 hts gX5_buildInstead_X4_size rfl rfl rfl hqX4_size ⟨Nat.le_of_ble_eq_true rfl, Nat.le_of_ble_eq_true rfl⟩) X (va_recv X.1 X.2.1 (ci := 0) (q0 := t2) rfl (wlC_t ht2)) rfl hl.1 rfl (Nat.le_of_ble_eq_true rfl) dX5_buildInstead_50 ⟨Nat.zero_le _, Nat.zero_le _⟩ (fun H locs X => ?_)
            refine lv_iadd hx hb dX5_buildInstead_53 ?_
            refine lv_istore (lv' := [(4, .int (y5 + v7)), (0, .ref (ad 14)), (1, .ref (ad t1)), (2, .ref (ad t2)), (3, .ref (ad t3)), (5, .int y5)]) hx hb dX5_buildInstead_54 hl (by decide) rfl (fun ls hl => ?_)
            refine lv_goto (tgt := 72) hx hb dX5_buildInstead_56 rfl ?_
            refine lv_iinc (v := (y5 + 1)) (lv' := [(5, .int (y5 + 1)), (4, .int (y5 + v7)), (0, .ref (ad 14)), (1, .ref (ad t1)), (2, .ref (ad t2)), (3, .ref (ad t3))]) hx hb dX5_buildInstead_72 hl (k := 5) rfl ii_1 (by decide) rfl (fun ls hl => ?_)
            refine lv_goto (tgt := 13) hx hb dX5_buildInstead_75 rfl ?_
            exact ih (y5 + v7) (y5 + 1) v6.1 v6.2 hf _ _ _ X (lv_sub hl [2, 3, 4, 5, 1, 0] rfl)
  rw [fX5_buildInstead] at hf
  refine lv_aload_n hx hb dX5_buildInstead_0 rfl (lv_at hl 0 rfl) ?_
  refine xg_f hx hb hts hown X h5 14 wlC_14 rfl 1 (by decide) (by decide +kernel) (v := .ref (ad 6)) rfl dX5_buildInstead_1 ?_
  refine xb hf (fun v1 hv hf => ?_)
  refine xc_V0 (rest := []) ⟨hx, hb, hml, hown, hts⟩ (mX4_clear (by decide) hv) (cwV 0 hts gX5_buildInstead_X4_clear rfl rfl rfl hqX4_clear ⟨Nat.le_of_ble_eq_true rfl, Nat.le_of_ble_eq_true rfl⟩) X (va_recv X.1 X.2.1 (ci := 0) (q0 := 6) rfl (wlC_t (by decide))) rfl hl.1 rfl (Nat.le_of_ble_eq_true rfl) dX5_buildInstead_4 ⟨Nat.zero_le _, Nat.zero_le _⟩ (fun H locs X => ?_)
  refine lv_iconst (v := (0 : Int32)) hx hb dX5_buildInstead_7 rfl ?_
  refine lv_istore (lv' := [(4, .int (0 : Int32)), (0, .ref (ad 14)), (1, .ref (ad j1)), (2, .ref (ad j2)), (3, .ref (ad j3))]) hx hb dX5_buildInstead_8 hl (by decide) rfl (fun ls hl => ?_)
  refine lv_iconst (v := (0 : Int32)) hx hb dX5_buildInstead_10 rfl ?_
  refine lv_istore (lv' := [(5, .int (0 : Int32)), (4, .int (0 : Int32)), (0, .ref (ad 14)), (1, .ref (ad j1)), (2, .ref (ad j2)), (3, .ref (ad j3))]) hx hb dX5_buildInstead_11 hl (by decide) rfl (fun ls hl => ?_)
  exact w13 j1 j2 j3 hj1 hj2 hj3 fu (0 : Int32) (0 : Int32) v1 tc hf _ _ _ X (lv_sub hl [2, 3, 4, 5, 1, 0] rfl)
set_option maxRecDepth 100000 in
set_option maxHeartbeats 4000000 in
theorem mX5_put {l : Launch} {dd : va_G} {cy : Nat → ClassId} {ad : Nat → Nat} {A : Nat → Prop} {fu : Nat} {ts : Nat → Int32} {tc : Nat → Nat → Int32} {rk : Nat → Int32} {pl : Nat → Int32} {ru : Nat → Int64} {sl : Nat → Int32} {bg : Nat → Int32} {kn : Nat → Int64} {rm : Int32} {ol : Nat → Int64} {od : Nat → UInt64} {x1 : Int32} {x2 : Int32} {x3 : Int32} {x4 : Int32} {rv : Int32} {tso : Nat → Int32} {tco : Nat → Nat → Int32} (hf : fX5_put fu ts tc x1 x2 x3 x4 = some (.ok rv, tso, tco)) : Met l yX5_put wsX5_put { frames := 5, cells := 0, slots := 0, locals := 108 } (va_Pc [.ref (ad 14), .int x1, .int x2, .int x3, .int x4] (IW dd cy A (wlC ad cy ts tc rk pl ru sl bg kn rm ol od))) (QX dd cy A (some (.int rv)) (wlC ad cy tso tco rk pl ru sl bg kn rm ol od)) 0 0 A := by
  refine Met.ofW (cc := cX5_put) (maxL := 10) (ret := some .int) (by decide) rfl ?_
  intro p e s m args below meth c s₁ B hml hv
  obtain ⟨hav, hI⟩ := hv
  have hx := B.exec
  have hb := B.bytes
  have hr := B.returns
  have hts := atoms_spec (ws := wsX5_put) B.pre
  have hown : s.vm.findClass RX5 = some m.cls := findClass_of_methodNamed B.named
  have hlocks := B.notSynchronized
  have X := XW.of hI
  refine xe_in hav (Nat.le_of_ble_eq_true rfl) rfl (fun ls hl => ?_)
  rw [fX5_put] at hf
  refine lv_aload_n hx hb dX5_put_0 rfl (lv_at hl 0 rfl) ?_
  refine lv_iload_n hx hb dX5_put_1 rfl (lv_at hl 1 rfl) ?_
  refine xb hf (fun v1 hv1 hf => ?_)
  refine exb_c hf (fun e9 h9 hf => ?_) (fun r2 h9 hf => ?_)
  · cases hf
  · have hr2 : r2 < 7 := fX5_textOf_lt (exo_s hv1 h9)
    refine xc_V1 (rest := []) ⟨hx, hb, hml, hown, hts⟩ (mX5_textOf (exo_s hv1 h9)) (cwV 1 hts gX5_put_X5_textOf rfl rfl rfl hqX5_textOf ⟨Nat.le_of_ble_eq_true rfl, Nat.le_of_ble_eq_true rfl⟩) X (va_recv X.1 X.2.1 (ci := 1) (q0 := 14) rfl wlC_14) rfl hl.1 rfl (Nat.le_of_ble_eq_true rfl) dX5_put_2 ⟨Nat.zero_le _, Nat.zero_le _⟩ (fun H locs X => ?_)
    refine lv_astore (lv' := [(5, .ref (ad r2)), (0, .ref (ad 14)), (1, .int x1), (2, .int x2), (3, .int x3), (4, .int x4)]) hx hb dX5_put_5 hl (by decide) rfl (fun ls hl => ?_)
    refine lv_aload_n hx hb dX5_put_7 rfl (lv_at hl 1 rfl) ?_
    refine lv_iload_n hx hb dX5_put_8 rfl (lv_at hl 3 rfl) ?_
    refine xb hf (fun v3 hv3 hf => ?_)
    refine exb_c hf (fun e9 h9 hf => ?_) (fun r4 h9 hf => ?_)
    · cases hf
    · have hr4 : r4 < 7 := fX5_textOf_lt (exo_s hv3 h9)
      refine xc_V1 (rest := []) ⟨hx, hb, hml, hown, hts⟩ (mX5_textOf (exo_s hv3 h9)) (cwV 1 hts gX5_put_X5_textOf rfl rfl rfl hqX5_textOf ⟨Nat.le_of_ble_eq_true rfl, Nat.le_of_ble_eq_true rfl⟩) X (va_recv X.1 X.2.1 (ci := 1) (q0 := 14) rfl wlC_14) rfl hl.1 rfl (Nat.le_of_ble_eq_true rfl) dX5_put_9 ⟨Nat.zero_le _, Nat.zero_le _⟩ (fun H locs X => ?_)
      refine lv_astore (lv' := [(6, .ref (ad r4)), (5, .ref (ad r2)), (0, .ref (ad 14)), (1, .int x1), (2, .int x2), (3, .int x3), (4, .int x4)]) hx hb dX5_put_12 hl (by decide) rfl (fun ls hl => ?_)
      refine lv_aload_n hx hb dX5_put_14 rfl (lv_at hl 2 rfl) ?_
      refine lv_iload_n hx hb dX5_put_15 rfl (lv_at hl 5 rfl) ?_
      refine xb hf (fun v5 hv5 hf => ?_)
      refine exb_c hf (fun e9 h9 hf => ?_) (fun r6 h9 hf => ?_)
      · cases hf
      · have hr6 : r6 < 7 := fX5_textOf_lt (exo_s hv5 h9)
        refine xc_V1 (rest := []) ⟨hx, hb, hml, hown, hts⟩ (mX5_textOf (exo_s hv5 h9)) (cwV 1 hts gX5_put_X5_textOf rfl rfl rfl hqX5_textOf ⟨Nat.le_of_ble_eq_true rfl, Nat.le_of_ble_eq_true rfl⟩) X (va_recv X.1 X.2.1 (ci := 1) (q0 := 14) rfl wlC_14) rfl hl.1 rfl (Nat.le_of_ble_eq_true rfl) dX5_put_16 ⟨Nat.zero_le _, Nat.zero_le _⟩ (fun H locs X => ?_)
        refine lv_astore (lv' := [(7, .ref (ad r6)), (6, .ref (ad r4)), (5, .ref (ad r2)), (0, .ref (ad 14)), (1, .int x1), (2, .int x2), (3, .int x3), (4, .int x4)]) hx hb dX5_put_19 hl (by decide) rfl (fun ls hl => ?_)
        refine lv_aload_n hx hb dX5_put_21 rfl (lv_at hl 3 rfl) ?_
        refine lv_iload hx hb dX5_put_22 (lv_at hl 7 rfl) ?_
        refine xb hf (fun v7 hv7 hf => ?_)
        refine exb_c hf (fun e9 h9 hf => ?_) (fun r8 h9 hf => ?_)
        · cases hf
        · have hr8 : r8 < 7 := fX5_textOf_lt (exo_s hv7 h9)
          refine xc_V1 (rest := []) ⟨hx, hb, hml, hown, hts⟩ (mX5_textOf (exo_s hv7 h9)) (cwV 1 hts gX5_put_X5_textOf rfl rfl rfl hqX5_textOf ⟨Nat.le_of_ble_eq_true rfl, Nat.le_of_ble_eq_true rfl⟩) X (va_recv X.1 X.2.1 (ci := 1) (q0 := 14) rfl wlC_14) rfl hl.1 rfl (Nat.le_of_ble_eq_true rfl) dX5_put_24 ⟨Nat.zero_le _, Nat.zero_le _⟩ (fun H locs X => ?_)
          refine lv_astore (lv' := [(8, .ref (ad r8)), (7, .ref (ad r6)), (6, .ref (ad r4)), (5, .ref (ad r2)), (0, .ref (ad 14)), (1, .int x1), (2, .int x2), (3, .int x3), (4, .int x4)]) hx hb dX5_put_27 hl (by decide) rfl (fun ls hl => ?_)
          refine lv_aload hx hb dX5_put_29 (lv_at hl 1 rfl) ?_
          refine xb hf (fun v9 hv9 hf => ?_)
          refine exb_c hf (fun e9 h9 hf => ?_) (fun r10 h9 hf => ?_)
          · cases hf
          · refine xc_S0 (rest := []) ⟨hx, hb, hml, hown, hts⟩ (mX5_requireNotEmpty hr6 (exo_s hv9 h9)) (va_cwS 1 hts gX5_put_X5_requireNotEmpty rfl rfl rfl hqX5_requireNotEmpty ⟨Nat.le_of_ble_eq_true rfl, Nat.le_of_ble_eq_true rfl⟩) X rfl hl.1 rfl (Nat.le_of_ble_eq_true rfl) dX5_put_31 ⟨Nat.zero_le _, Nat.zero_le _⟩ (fun H locs X => ?_)
            refine lv_aload hx hb dX5_put_34 (lv_at hl 2 rfl) ?_
            refine lv_aload hx hb dX5_put_36 (lv_at hl 1 rfl) ?_
            refine lv_iconst (v := (1 : Int32)) hx hb dX5_put_38 rfl ?_
            refine xb hf (fun v11 hv hf => ?_)
            refine xc_V1 (rest := []) ⟨hx, hb, hml, hown, hts⟩ (mX4_countOf hr4 hr6 hv) (cwV 2 hts gX5_put_X4_countOf rfl rfl rfl hqX4_countOf ⟨Nat.le_of_ble_eq_true rfl, Nat.le_of_ble_eq_true rfl⟩) X (va_recv X.1 X.2.1 (ci := 0) (q0 := r4) rfl (wlC_t hr4)) rfl hl.1 rfl (Nat.le_of_ble_eq_true rfl) dX5_put_39 ⟨Nat.zero_le _, Nat.zero_le _⟩ (fun H locs X => ?_)
            refine lv_istore (lv' := [(9, .int v11), (8, .ref (ad r8)), (7, .ref (ad r6)), (6, .ref (ad r4)), (5, .ref (ad r2)), (0, .ref (ad 14)), (1, .int x1), (2, .int x2), (3, .int x3), (4, .int x4)]) hx hb dX5_put_42 hl (by decide) rfl (fun ls hl => ?_)
            refine lv_aload hx hb dX5_put_44 (lv_at hl 3 rfl) ?_
            refine xb hf (fun v12 hv hf => ?_)
            refine xc_V1 (rest := []) ⟨hx, hb, hml, hown, hts⟩ (mX4_size hr4 hv) (cwV 0 hts gX5_put_X4_size rfl rfl rfl hqX4_size ⟨Nat.le_of_ble_eq_true rfl, Nat.le_of_ble_eq_true rfl⟩) X (va_recv X.1 X.2.1 (ci := 0) (q0 := r4) rfl (wlC_t hr4)) rfl hl.1 rfl (Nat.le_of_ble_eq_true rfl) dX5_put_46 ⟨Nat.zero_le _, Nat.zero_le _⟩ (fun H locs X => ?_)
            refine lv_iload hx hb dX5_put_49 (lv_at hl 0 rfl) ?_
            refine lv_aload hx hb dX5_put_51 (lv_at hl 1 rfl) ?_
            refine xb hf (fun v13 hv hf => ?_)
            refine xc_V1 (rest := [.int v11, .int v12]) ⟨hx, hb, hml, hown, hts⟩ (mX4_size hr8 hv) (cwV 0 hts gX5_put_X4_size rfl rfl rfl hqX4_size ⟨Nat.le_of_ble_eq_true rfl, Nat.le_of_ble_eq_true rfl⟩) X (va_recv X.1 X.2.1 (ci := 0) (q0 := r8) rfl (wlC_t hr8)) rfl hl.1 rfl (Nat.le_of_ble_eq_true rfl) dX5_put_53 ⟨Nat.zero_le _, Nat.zero_le _⟩ (fun H locs X => ?_)
            refine lv_aload hx hb dX5_put_56 (lv_at hl 2 rfl) ?_
            refine xb hf (fun v14 hv hf => ?_)
            refine xc_V1 (rest := [.int v13, .int v11, .int v12]) ⟨hx, hb, hml, hown, hts⟩ (mX4_size hr6 hv) (cwV 0 hts gX5_put_X4_size rfl rfl rfl hqX4_size ⟨Nat.le_of_ble_eq_true rfl, Nat.le_of_ble_eq_true rfl⟩) X (va_recv X.1 X.2.1 (ci := 0) (q0 := r6) rfl (wlC_t hr6)) rfl hl.1 rfl (Nat.le_of_ble_eq_true rfl) dX5_put_58 ⟨Nat.zero_le _, Nat.zero_le _⟩ (fun H locs X => ?_)
            refine lv_isub hx hb dX5_put_61 ?_
            refine lv_imul hx hb dX5_put_62 ?_
            refine lv_iadd hx hb dX5_put_63 ?_
            refine lv_i2l (v := ((v12 + (v11 * (v13 - v14))).toInt64)) hx hb dX5_put_64 rfl ?_
            refine xb hf (fun v15 hv15 hf => ?_)
            refine exb_c hf (fun e9 h9 hf => ?_) (fun r16 h9 hf => ?_)
            · cases hf
            · refine xc_S0 (rest := []) ⟨hx, hb, hml, hown, hts⟩ (mX5_requireRoom (exo_s hv15 h9)) (va_cwS 1 hts gX5_put_X5_requireRoom rfl rfl rfl hqX5_requireRoom ⟨Nat.le_of_ble_eq_true rfl, Nat.le_of_ble_eq_true rfl⟩) X rfl hl.1 rfl (Nat.le_of_ble_eq_true rfl) dX5_put_65 ⟨Nat.zero_le _, Nat.zero_le _⟩ (fun H locs X => ?_)
              refine lv_aload_n hx hb dX5_put_68 rfl (lv_at hl 5 rfl) ?_
              refine lv_aload hx hb dX5_put_69 (lv_at hl 3 rfl) ?_
              refine lv_aload hx hb dX5_put_71 (lv_at hl 2 rfl) ?_
              refine lv_aload hx hb dX5_put_73 (lv_at hl 1 rfl) ?_
              refine xb hf (fun v17 hv hf => ?_)
              refine xc_V0 (rest := []) ⟨hx, hb, hml, hown, hts⟩ (mX5_buildInstead hr4 hr6 hr8 hv) (cwV 3 hts gX5_put_X5_buildInstead rfl rfl rfl hqX5_buildInstead ⟨Nat.le_of_ble_eq_true rfl, Nat.le_of_ble_eq_true rfl⟩) X (va_recv X.1 X.2.1 (ci := 1) (q0 := 14) rfl wlC_14) rfl hl.1 rfl (Nat.le_of_ble_eq_true rfl) dX5_put_75 ⟨Nat.zero_le _, Nat.zero_le _⟩ (fun H locs X => ?_)
              refine lv_aload_n hx hb dX5_put_78 rfl (lv_at hl 5 rfl) ?_
              refine lv_aload hx hb dX5_put_79 (lv_at hl 4 rfl) ?_
              refine xb hf (fun v18 hv hf => ?_)
              refine xc_V1 (rest := []) ⟨hx, hb, hml, hown, hts⟩ (mX5_becomeBuilt hr2 hv) (cwV 1 hts gX5_put_X5_becomeBuilt rfl rfl rfl hqX5_becomeBuilt ⟨Nat.le_of_ble_eq_true rfl, Nat.le_of_ble_eq_true rfl⟩) X (va_recv X.1 X.2.1 (ci := 1) (q0 := 14) rfl wlC_14) rfl hl.1 rfl (Nat.le_of_ble_eq_true rfl) dX5_put_81 ⟨Nat.zero_le _, Nat.zero_le _⟩ (fun H locs X => ?_)
              cases hf
              exact xe_i hx hb hr hlocks X dX5_put_84
set_option maxRecDepth 100000 in
set_option maxHeartbeats 4000000 in
theorem eX5_put {l : Launch} {dd : va_G} {cy : Nat → ClassId} {ad : Nat → Nat} {A : Nat → Prop} {fu : Nat} {ts : Nat → Int32} {tc : Nat → Nat → Int32} {rk : Nat → Int32} {pl : Nat → Int32} {ru : Nat → Int64} {sl : Nat → Int32} {bg : Nat → Int32} {kn : Nat → Int64} {rm : Int32} {ol : Nat → Int64} {od : Nat → UInt64} {x1 : Int32} {x2 : Int32} {x3 : Int32} {x4 : Int32} {E9 : String} {tso : Nat → Int32} {tco : Nat → Nat → Int32} (htr : l.stackTraces = false) (hf : fX5_put fu ts tc x1 x2 x3 x4 = some (.error E9, tso, tco)) : vx_Met l yX5_put wsX5_put { frames := 7, cells := 1, slots := 6, locals := 121 } (va_Pc [.ref (ad 14), .int x1, .int x2, .int x3, .int x4] (IT dd cy A (wlC ad cy ts tc rk pl ru sl bg kn rm ol od))) (fun _ _ _ _ => False) (XE dd cy A E9 (wlC ad cy tso tco rk pl ru sl bg kn rm ol od)) 1 6 A := by
  refine vx_ofW (cc := cX5_put) (maxL := 10) (ret := some .int) (by decide) rfl ?_
  intro p e s m args below meth c s₁ B hml hexc hv
  obtain ⟨hav, hI, hT⟩ := hv
  have hx := B.exec
  have hb := B.bytes
  have hr := B.returns
  have hts := atoms_spec (ws := wsX5_put) B.pre
  have hown : s.vm.findClass RX5 = some m.cls := findClass_of_methodNamed B.named
  have hlocks := B.notSynchronized
  have X := XW.of hI
  refine xe_in hav (Nat.le_of_ble_eq_true rfl) rfl (fun ls hl => ?_)
  rw [fX5_put] at hf
  refine lv_aload_n hx hb dX5_put_0 rfl (lv_at hl 0 rfl) ?_
  refine lv_iload_n hx hb dX5_put_1 rfl (lv_at hl 1 rfl) ?_
  refine xb hf (fun v1 hv1 hf => ?_)
  refine exb_c hf (fun e9 h9 hf => ?_) (fun r2 h9 hf => ?_)
  · cases hf
    exact xt_V (rest := []) ⟨hx, hb, hml, hown, hts⟩ (eX5_textOf htr (exo_s hv1 h9)) (cwV 1 hts gX5_put_X5_textOf rfl rfl rfl hqX5_textOf ⟨Nat.le_of_ble_eq_true rfl, Nat.le_of_ble_eq_true rfl⟩) X hT (va_recv X.1 X.2.1 (ci := 1) (q0 := 14) rfl wlC_14) rfl hl.1 rfl (Nat.le_of_ble_eq_true rfl) dX5_put_2 ⟨Nat.le_of_ble_eq_true rfl, Nat.le_of_ble_eq_true rfl⟩ hexc hlocks
  · have hr2 : r2 < 7 := fX5_textOf_lt (exo_s hv1 h9)
    refine xc_V1 (rest := []) ⟨hx, hb, hml, hown, hts⟩ (mX5_textOf (exo_s hv1 h9)) (cwV 1 hts gX5_put_X5_textOf rfl rfl rfl hqX5_textOf ⟨Nat.le_of_ble_eq_true rfl, Nat.le_of_ble_eq_true rfl⟩) X (va_recv X.1 X.2.1 (ci := 1) (q0 := 14) rfl wlC_14) rfl hl.1 rfl (Nat.le_of_ble_eq_true rfl) dX5_put_2 ⟨Nat.zero_le _, Nat.zero_le _⟩ (fun H locs X => ?_)
    refine lv_astore (lv' := [(5, .ref (ad r2)), (0, .ref (ad 14)), (1, .int x1), (2, .int x2), (3, .int x3), (4, .int x4)]) hx hb dX5_put_5 hl (by decide) rfl (fun ls hl => ?_)
    refine lv_aload_n hx hb dX5_put_7 rfl (lv_at hl 1 rfl) ?_
    refine lv_iload_n hx hb dX5_put_8 rfl (lv_at hl 3 rfl) ?_
    refine xb hf (fun v3 hv3 hf => ?_)
    refine exb_c hf (fun e9 h9 hf => ?_) (fun r4 h9 hf => ?_)
    · cases hf
      exact xt_V (rest := []) ⟨hx, hb, hml, hown, hts⟩ (eX5_textOf htr (exo_s hv3 h9)) (cwV 1 hts gX5_put_X5_textOf rfl rfl rfl hqX5_textOf ⟨Nat.le_of_ble_eq_true rfl, Nat.le_of_ble_eq_true rfl⟩) X hT (va_recv X.1 X.2.1 (ci := 1) (q0 := 14) rfl wlC_14) rfl hl.1 rfl (Nat.le_of_ble_eq_true rfl) dX5_put_9 ⟨Nat.le_of_ble_eq_true rfl, Nat.le_of_ble_eq_true rfl⟩ hexc hlocks
    · have hr4 : r4 < 7 := fX5_textOf_lt (exo_s hv3 h9)
      refine xc_V1 (rest := []) ⟨hx, hb, hml, hown, hts⟩ (mX5_textOf (exo_s hv3 h9)) (cwV 1 hts gX5_put_X5_textOf rfl rfl rfl hqX5_textOf ⟨Nat.le_of_ble_eq_true rfl, Nat.le_of_ble_eq_true rfl⟩) X (va_recv X.1 X.2.1 (ci := 1) (q0 := 14) rfl wlC_14) rfl hl.1 rfl (Nat.le_of_ble_eq_true rfl) dX5_put_9 ⟨Nat.zero_le _, Nat.zero_le _⟩ (fun H locs X => ?_)
      refine lv_astore (lv' := [(6, .ref (ad r4)), (5, .ref (ad r2)), (0, .ref (ad 14)), (1, .int x1), (2, .int x2), (3, .int x3), (4, .int x4)]) hx hb dX5_put_12 hl (by decide) rfl (fun ls hl => ?_)
      refine lv_aload_n hx hb dX5_put_14 rfl (lv_at hl 2 rfl) ?_
      refine lv_iload_n hx hb dX5_put_15 rfl (lv_at hl 5 rfl) ?_
      refine xb hf (fun v5 hv5 hf => ?_)
      refine exb_c hf (fun e9 h9 hf => ?_) (fun r6 h9 hf => ?_)
      · cases hf
        exact xt_V (rest := []) ⟨hx, hb, hml, hown, hts⟩ (eX5_textOf htr (exo_s hv5 h9)) (cwV 1 hts gX5_put_X5_textOf rfl rfl rfl hqX5_textOf ⟨Nat.le_of_ble_eq_true rfl, Nat.le_of_ble_eq_true rfl⟩) X hT (va_recv X.1 X.2.1 (ci := 1) (q0 := 14) rfl wlC_14) rfl hl.1 rfl (Nat.le_of_ble_eq_true rfl) dX5_put_16 ⟨Nat.le_of_ble_eq_true rfl, Nat.le_of_ble_eq_true rfl⟩ hexc hlocks
      · have hr6 : r6 < 7 := fX5_textOf_lt (exo_s hv5 h9)
        refine xc_V1 (rest := []) ⟨hx, hb, hml, hown, hts⟩ (mX5_textOf (exo_s hv5 h9)) (cwV 1 hts gX5_put_X5_textOf rfl rfl rfl hqX5_textOf ⟨Nat.le_of_ble_eq_true rfl, Nat.le_of_ble_eq_true rfl⟩) X (va_recv X.1 X.2.1 (ci := 1) (q0 := 14) rfl wlC_14) rfl hl.1 rfl (Nat.le_of_ble_eq_true rfl) dX5_put_16 ⟨Nat.zero_le _, Nat.zero_le _⟩ (fun H locs X => ?_)
        refine lv_astore (lv' := [(7, .ref (ad r6)), (6, .ref (ad r4)), (5, .ref (ad r2)), (0, .ref (ad 14)), (1, .int x1), (2, .int x2), (3, .int x3), (4, .int x4)]) hx hb dX5_put_19 hl (by decide) rfl (fun ls hl => ?_)
        refine lv_aload_n hx hb dX5_put_21 rfl (lv_at hl 3 rfl) ?_
        refine lv_iload hx hb dX5_put_22 (lv_at hl 7 rfl) ?_
        refine xb hf (fun v7 hv7 hf => ?_)
        refine exb_c hf (fun e9 h9 hf => ?_) (fun r8 h9 hf => ?_)
        · cases hf
          exact xt_V (rest := []) ⟨hx, hb, hml, hown, hts⟩ (eX5_textOf htr (exo_s hv7 h9)) (cwV 1 hts gX5_put_X5_textOf rfl rfl rfl hqX5_textOf ⟨Nat.le_of_ble_eq_true rfl, Nat.le_of_ble_eq_true rfl⟩) X hT (va_recv X.1 X.2.1 (ci := 1) (q0 := 14) rfl wlC_14) rfl hl.1 rfl (Nat.le_of_ble_eq_true rfl) dX5_put_24 ⟨Nat.le_of_ble_eq_true rfl, Nat.le_of_ble_eq_true rfl⟩ hexc hlocks
        · have hr8 : r8 < 7 := fX5_textOf_lt (exo_s hv7 h9)
          refine xc_V1 (rest := []) ⟨hx, hb, hml, hown, hts⟩ (mX5_textOf (exo_s hv7 h9)) (cwV 1 hts gX5_put_X5_textOf rfl rfl rfl hqX5_textOf ⟨Nat.le_of_ble_eq_true rfl, Nat.le_of_ble_eq_true rfl⟩) X (va_recv X.1 X.2.1 (ci := 1) (q0 := 14) rfl wlC_14) rfl hl.1 rfl (Nat.le_of_ble_eq_true rfl) dX5_put_24 ⟨Nat.zero_le _, Nat.zero_le _⟩ (fun H locs X => ?_)
          refine lv_astore (lv' := [(8, .ref (ad r8)), (7, .ref (ad r6)), (6, .ref (ad r4)), (5, .ref (ad r2)), (0, .ref (ad 14)), (1, .int x1), (2, .int x2), (3, .int x3), (4, .int x4)]) hx hb dX5_put_27 hl (by decide) rfl (fun ls hl => ?_)
          refine lv_aload hx hb dX5_put_29 (lv_at hl 1 rfl) ?_
          refine xb hf (fun v9 hv9 hf => ?_)
          refine exb_c hf (fun e9 h9 hf => ?_) (fun r10 h9 hf => ?_)
          · cases hf
            exact xt_S (rest := []) ⟨hx, hb, hml, hown, hts⟩ (eX5_requireNotEmpty htr hr6 (exo_s hv9 h9)) (va_cwS 1 hts gX5_put_X5_requireNotEmpty rfl rfl rfl hqX5_requireNotEmpty ⟨Nat.le_of_ble_eq_true rfl, Nat.le_of_ble_eq_true rfl⟩) X hT rfl hl.1 rfl (Nat.le_of_ble_eq_true rfl) dX5_put_31 ⟨Nat.le_of_ble_eq_true rfl, Nat.le_of_ble_eq_true rfl⟩ hexc hlocks
          · refine xc_S0 (rest := []) ⟨hx, hb, hml, hown, hts⟩ (mX5_requireNotEmpty hr6 (exo_s hv9 h9)) (va_cwS 1 hts gX5_put_X5_requireNotEmpty rfl rfl rfl hqX5_requireNotEmpty ⟨Nat.le_of_ble_eq_true rfl, Nat.le_of_ble_eq_true rfl⟩) X rfl hl.1 rfl (Nat.le_of_ble_eq_true rfl) dX5_put_31 ⟨Nat.zero_le _, Nat.zero_le _⟩ (fun H locs X => ?_)
            refine lv_aload hx hb dX5_put_34 (lv_at hl 2 rfl) ?_
            refine lv_aload hx hb dX5_put_36 (lv_at hl 1 rfl) ?_
            refine lv_iconst (v := (1 : Int32)) hx hb dX5_put_38 rfl ?_
            refine xb hf (fun v11 hv hf => ?_)
            refine xc_V1 (rest := []) ⟨hx, hb, hml, hown, hts⟩ (mX4_countOf hr4 hr6 hv) (cwV 2 hts gX5_put_X4_countOf rfl rfl rfl hqX4_countOf ⟨Nat.le_of_ble_eq_true rfl, Nat.le_of_ble_eq_true rfl⟩) X (va_recv X.1 X.2.1 (ci := 0) (q0 := r4) rfl (wlC_t hr4)) rfl hl.1 rfl (Nat.le_of_ble_eq_true rfl) dX5_put_39 ⟨Nat.zero_le _, Nat.zero_le _⟩ (fun H locs X => ?_)
            refine lv_istore (lv' := [(9, .int v11), (8, .ref (ad r8)), (7, .ref (ad r6)), (6, .ref (ad r4)), (5, .ref (ad r2)), (0, .ref (ad 14)), (1, .int x1), (2, .int x2), (3, .int x3), (4, .int x4)]) hx hb dX5_put_42 hl (by decide) rfl (fun ls hl => ?_)
            refine lv_aload hx hb dX5_put_44 (lv_at hl 3 rfl) ?_
            refine xb hf (fun v12 hv hf => ?_)
            refine xc_V1 (rest := []) ⟨hx, hb, hml, hown, hts⟩ (mX4_size hr4 hv) (cwV 0 hts gX5_put_X4_size rfl rfl rfl hqX4_size ⟨Nat.le_of_ble_eq_true rfl, Nat.le_of_ble_eq_true rfl⟩) X (va_recv X.1 X.2.1 (ci := 0) (q0 := r4) rfl (wlC_t hr4)) rfl hl.1 rfl (Nat.le_of_ble_eq_true rfl) dX5_put_46 ⟨Nat.zero_le _, Nat.zero_le _⟩ (fun H locs X => ?_)
            refine lv_iload hx hb dX5_put_49 (lv_at hl 0 rfl) ?_
            refine lv_aload hx hb dX5_put_51 (lv_at hl 1 rfl) ?_
            refine xb hf (fun v13 hv hf => ?_)
            refine xc_V1 (rest := [.int v11, .int v12]) ⟨hx, hb, hml, hown, hts⟩ (mX4_size hr8 hv) (cwV 0 hts gX5_put_X4_size rfl rfl rfl hqX4_size ⟨Nat.le_of_ble_eq_true rfl, Nat.le_of_ble_eq_true rfl⟩) X (va_recv X.1 X.2.1 (ci := 0) (q0 := r8) rfl (wlC_t hr8)) rfl hl.1 rfl (Nat.le_of_ble_eq_true rfl) dX5_put_53 ⟨Nat.zero_le _, Nat.zero_le _⟩ (fun H locs X => ?_)
            refine lv_aload hx hb dX5_put_56 (lv_at hl 2 rfl) ?_
            refine xb hf (fun v14 hv hf => ?_)
            refine xc_V1 (rest := [.int v13, .int v11, .int v12]) ⟨hx, hb, hml, hown, hts⟩ (mX4_size hr6 hv) (cwV 0 hts gX5_put_X4_size rfl rfl rfl hqX4_size ⟨Nat.le_of_ble_eq_true rfl, Nat.le_of_ble_eq_true rfl⟩) X (va_recv X.1 X.2.1 (ci := 0) (q0 := r6) rfl (wlC_t hr6)) rfl hl.1 rfl (Nat.le_of_ble_eq_true rfl) dX5_put_58 ⟨Nat.zero_le _, Nat.zero_le _⟩ (fun H locs X => ?_)
            refine lv_isub hx hb dX5_put_61 ?_
            refine lv_imul hx hb dX5_put_62 ?_
            refine lv_iadd hx hb dX5_put_63 ?_
            refine lv_i2l (v := ((v12 + (v11 * (v13 - v14))).toInt64)) hx hb dX5_put_64 rfl ?_
            refine xb hf (fun v15 hv15 hf => ?_)
            refine exb_c hf (fun e9 h9 hf => ?_) (fun r16 h9 hf => ?_)
            · cases hf
              exact xt_S (rest := []) ⟨hx, hb, hml, hown, hts⟩ (eX5_requireRoom htr (exo_s hv15 h9)) (va_cwS 1 hts gX5_put_X5_requireRoom rfl rfl rfl hqX5_requireRoom ⟨Nat.le_of_ble_eq_true rfl, Nat.le_of_ble_eq_true rfl⟩) X hT rfl hl.1 rfl (Nat.le_of_ble_eq_true rfl) dX5_put_65 ⟨Nat.le_of_ble_eq_true rfl, Nat.le_of_ble_eq_true rfl⟩ hexc hlocks
            · refine xc_S0 (rest := []) ⟨hx, hb, hml, hown, hts⟩ (mX5_requireRoom (exo_s hv15 h9)) (va_cwS 1 hts gX5_put_X5_requireRoom rfl rfl rfl hqX5_requireRoom ⟨Nat.le_of_ble_eq_true rfl, Nat.le_of_ble_eq_true rfl⟩) X rfl hl.1 rfl (Nat.le_of_ble_eq_true rfl) dX5_put_65 ⟨Nat.zero_le _, Nat.zero_le _⟩ (fun H locs X => ?_)
              refine lv_aload_n hx hb dX5_put_68 rfl (lv_at hl 5 rfl) ?_
              refine lv_aload hx hb dX5_put_69 (lv_at hl 3 rfl) ?_
              refine lv_aload hx hb dX5_put_71 (lv_at hl 2 rfl) ?_
              refine lv_aload hx hb dX5_put_73 (lv_at hl 1 rfl) ?_
              refine xb hf (fun v17 hv hf => ?_)
              refine xc_V0 (rest := []) ⟨hx, hb, hml, hown, hts⟩ (mX5_buildInstead hr4 hr6 hr8 hv) (cwV 3 hts gX5_put_X5_buildInstead rfl rfl rfl hqX5_buildInstead ⟨Nat.le_of_ble_eq_true rfl, Nat.le_of_ble_eq_true rfl⟩) X (va_recv X.1 X.2.1 (ci := 1) (q0 := 14) rfl wlC_14) rfl hl.1 rfl (Nat.le_of_ble_eq_true rfl) dX5_put_75 ⟨Nat.zero_le _, Nat.zero_le _⟩ (fun H locs X => ?_)
              refine lv_aload_n hx hb dX5_put_78 rfl (lv_at hl 5 rfl) ?_
              refine lv_aload hx hb dX5_put_79 (lv_at hl 4 rfl) ?_
              refine xb hf (fun v18 hv hf => ?_)
              refine xc_V1 (rest := []) ⟨hx, hb, hml, hown, hts⟩ (mX5_becomeBuilt hr2 hv) (cwV 1 hts gX5_put_X5_becomeBuilt rfl rfl rfl hqX5_becomeBuilt ⟨Nat.le_of_ble_eq_true rfl, Nat.le_of_ble_eq_true rfl⟩) X (va_recv X.1 X.2.1 (ci := 1) (q0 := 14) rfl wlC_14) rfl hl.1 rfl (Nat.le_of_ble_eq_true rfl) dX5_put_81 ⟨Nat.zero_le _, Nat.zero_le _⟩ (fun H locs X => ?_)
              cases hf
set_option maxRecDepth 100000 in
set_option maxHeartbeats 4000000 in
theorem mX5_first {l : Launch} {dd : va_G} {cy : Nat → ClassId} {ad : Nat → Nat} {A : Nat → Prop} {fu : Nat} {ts : Nat → Int32} {tc : Nat → Nat → Int32} {rk : Nat → Int32} {pl : Nat → Int32} {ru : Nat → Int64} {sl : Nat → Int32} {bg : Nat → Int32} {kn : Nat → Int64} {rm : Int32} {ol : Nat → Int64} {od : Nat → UInt64} {x1 : Int32} {x2 : Int32} {x3 : Int32} {rv : Int32} (hf : fX5_first fu ts tc x1 x2 x3 = some (.ok rv)) : Met l yX5_first wsX5_first { frames := 3, cells := 0, slots := 0, locals := 79 } (va_Pc [.ref (ad 14), .int x1, .int x2, .int x3] (IW dd cy A (wlC ad cy ts tc rk pl ru sl bg kn rm ol od))) (QX dd cy A (some (.int rv)) (wlC ad cy ts tc rk pl ru sl bg kn rm ol od)) 0 0 A := by
  refine Met.ofW (cc := cX5_first) (maxL := 8) (ret := some .int) (by decide) rfl ?_
  intro p e s m args below meth c s₁ B hml hv
  obtain ⟨hav, hI⟩ := hv
  have hx := B.exec
  have hb := B.bytes
  have hr := B.returns
  have hts := atoms_spec (ws := wsX5_first) B.pre
  have hown : s.vm.findClass RX5 = some m.cls := findClass_of_methodNamed B.named
  have hlocks := B.notSynchronized
  have X := XW.of hI
  refine xe_in hav (Nat.le_of_ble_eq_true rfl) rfl (fun ls hl => ?_)
  have w42 : ∀ (t4 : Nat) (t5 : Nat) (y6 : Int32) (ht4 : t4 < 7) (ht5 : t5 < 7) (n : Nat) (y7 : Int32), fX5_first_42 fu ts tc t4 t5 y6 n y7 = some (.ok rv) → ∀ (H : Heap) (locs : List Loc) (ls : Array Slot), XW dd cy A s (wlC ad cy ts tc rk pl ru sl bg kn rm ol od) H locs → lv_has ls 8 [(4, .ref (ad t4)), (5, .ref (ad t5)), (6, .int y6), (7, .int y7)] → W p l e (headSpec wsX5_first { frames := 3, cells := 0, slots := 0, locals := 79 }).room s m args below meth c H locs 0 0 (MQ below (QX dd cy A (some (.int rv)) (wlC ad cy ts tc rk pl ru sl bg kn rm ol od)) args s 0 0 A) (F0 m 42 ls []) := by
    intro t4 t5 y6 ht4 ht5 n
    induction n with
    | zero => intro y7 hf; exact absurd hf (by simp [fX5_first_42])
    | succ n ih =>
      intro y7 hf H locs ls X hl
      rw [fX5_first_42] at hf
      refine lv_iload hx hb dX5_first_42 (lv_at hl 3 rfl) ?_
      refine lv_iload hx hb dX5_first_44 (lv_at hl 2 rfl) ?_
      refine xr_icmp_gt (tgt := 70) hx hb dX5_first_46 rfl hf (fun hf => ?_) (fun hf => ?_)
      · refine lv_iconst (v := (-1 : Int32)) hx hb dX5_first_70 rfl ?_
        cases hf
        exact xe_i hx hb hr hlocks X dX5_first_71
      · refine lv_aload hx hb dX5_first_49 (lv_at hl 0 rfl) ?_
        refine lv_iload hx hb dX5_first_51 (lv_at hl 3 rfl) ?_
        refine lv_aload hx hb dX5_first_53 (lv_at hl 1 rfl) ?_
        refine xb hf (fun v8 hv hf => ?_)
        refine xc_V1 (rest := []) ⟨hx, hb, hml, hown, hts⟩ (mX4_hasAt ht4 ht5 hv) (cwV 2 hts gX5_first_X4_hasAt rfl rfl rfl hqX4_hasAt ⟨Nat.le_of_ble_eq_true rfl, Nat.le_of_ble_eq_true rfl⟩) X (va_recv X.1 X.2.1 (ci := 0) (q0 := t4) rfl (wlC_t ht4)) rfl hl.1 rfl (Nat.le_of_ble_eq_true rfl) dX5_first_55 ⟨Nat.zero_le _, Nat.zero_le _⟩ (fun H locs X => ?_)
        refine xr_if_eq (tgt := 64) hx hb dX5_first_58 rfl hf (fun hf => ?_) (fun hf => ?_)
        · refine lv_iinc (v := (y7 + 1)) (lv' := [(7, .int (y7 + 1)), (4, .ref (ad t4)), (5, .ref (ad t5)), (6, .int y6)]) hx hb dX5_first_64 hl (k := 3) rfl ii_1 (by decide) rfl (fun ls hl => ?_)
          refine lv_goto (tgt := 42) hx hb dX5_first_67 rfl ?_
          exact ih (y7 + 1) hf _ _ _ X (lv_sub hl [1, 2, 3, 0] rfl)
        · refine lv_iload hx hb dX5_first_61 (lv_at hl 3 rfl) ?_
          cases hf
          exact xe_i hx hb hr hlocks X dX5_first_63
  rw [fX5_first] at hf
  refine lv_aload_n hx hb dX5_first_0 rfl (lv_at hl 0 rfl) ?_
  refine lv_iload_n hx hb dX5_first_1 rfl (lv_at hl 1 rfl) ?_
  refine xb hf (fun v1 hv1 hf => ?_)
  refine exb_c hf (fun e9 h9 hf => ?_) (fun r2 h9 hf => ?_)
  · cases hf
  · have hr2 : r2 < 7 := fX5_textOf_lt (exo_s hv1 h9)
    refine xc_V1 (rest := []) ⟨hx, hb, hml, hown, hts⟩ (mX5_textOf (exo_s hv1 h9)) (cwV 1 hts gX5_first_X5_textOf rfl rfl rfl hqX5_textOf ⟨Nat.le_of_ble_eq_true rfl, Nat.le_of_ble_eq_true rfl⟩) X (va_recv X.1 X.2.1 (ci := 1) (q0 := 14) rfl wlC_14) rfl hl.1 rfl (Nat.le_of_ble_eq_true rfl) dX5_first_2 ⟨Nat.zero_le _, Nat.zero_le _⟩ (fun H locs X => ?_)
    refine lv_astore (lv' := [(4, .ref (ad r2)), (0, .ref (ad 14)), (1, .int x1), (2, .int x2), (3, .int x3)]) hx hb dX5_first_5 hl (by decide) rfl (fun ls hl => ?_)
    refine lv_aload_n hx hb dX5_first_7 rfl (lv_at hl 1 rfl) ?_
    refine lv_iload_n hx hb dX5_first_8 rfl (lv_at hl 3 rfl) ?_
    refine xb hf (fun v3 hv3 hf => ?_)
    refine exb_c hf (fun e9 h9 hf => ?_) (fun r4 h9 hf => ?_)
    · cases hf
    · have hr4 : r4 < 7 := fX5_textOf_lt (exo_s hv3 h9)
      refine xc_V1 (rest := []) ⟨hx, hb, hml, hown, hts⟩ (mX5_textOf (exo_s hv3 h9)) (cwV 1 hts gX5_first_X5_textOf rfl rfl rfl hqX5_textOf ⟨Nat.le_of_ble_eq_true rfl, Nat.le_of_ble_eq_true rfl⟩) X (va_recv X.1 X.2.1 (ci := 1) (q0 := 14) rfl wlC_14) rfl hl.1 rfl (Nat.le_of_ble_eq_true rfl) dX5_first_9 ⟨Nat.zero_le _, Nat.zero_le _⟩ (fun H locs X => ?_)
      refine lv_astore (lv' := [(5, .ref (ad r4)), (4, .ref (ad r2)), (0, .ref (ad 14)), (1, .int x1), (2, .int x2), (3, .int x3)]) hx hb dX5_first_12 hl (by decide) rfl (fun ls hl => ?_)
      refine lv_aload hx hb dX5_first_14 (lv_at hl 1 rfl) ?_
      refine xb hf (fun v5 hv hf => ?_)
      refine xc_V1 (rest := []) ⟨hx, hb, hml, hown, hts⟩ (mX4_size hr2 hv) (cwV 0 hts gX5_first_X4_size rfl rfl rfl hqX4_size ⟨Nat.le_of_ble_eq_true rfl, Nat.le_of_ble_eq_true rfl⟩) X (va_recv X.1 X.2.1 (ci := 0) (q0 := r2) rfl (wlC_t hr2)) rfl hl.1 rfl (Nat.le_of_ble_eq_true rfl) dX5_first_16 ⟨Nat.zero_le _, Nat.zero_le _⟩ (fun H locs X => ?_)
      refine lv_aload hx hb dX5_first_19 (lv_at hl 0 rfl) ?_
      refine xb hf (fun v6 hv hf => ?_)
      refine xc_V1 (rest := [.int v5]) ⟨hx, hb, hml, hown, hts⟩ (mX4_size hr4 hv) (cwV 0 hts gX5_first_X4_size rfl rfl rfl hqX4_size ⟨Nat.le_of_ble_eq_true rfl, Nat.le_of_ble_eq_true rfl⟩) X (va_recv X.1 X.2.1 (ci := 0) (q0 := r4) rfl (wlC_t hr4)) rfl hl.1 rfl (Nat.le_of_ble_eq_true rfl) dX5_first_21 ⟨Nat.zero_le _, Nat.zero_le _⟩ (fun H locs X => ?_)
      refine lv_isub hx hb dX5_first_24 ?_
      refine lv_istore (lv' := [(6, .int (v5 - v6)), (5, .ref (ad r4)), (4, .ref (ad r2)), (0, .ref (ad 14)), (1, .int x1), (2, .int x2), (3, .int x3)]) hx hb dX5_first_25 hl (by decide) rfl (fun ls hl => ?_)
      refine lv_iconst (v := (0 : Int32)) hx hb dX5_first_27 rfl ?_
      refine lv_iload_n hx hb dX5_first_28 rfl (lv_at hl 6 rfl) ?_
      refine lv_aload hx hb dX5_first_29 (lv_at hl 2 rfl) ?_
      refine xb hf (fun v7 hv hf => ?_)
      refine xc_V1 (rest := [.int x3, .int (0 : Int32)]) ⟨hx, hb, hml, hown, hts⟩ (mX4_size hr2 hv) (cwV 0 hts gX5_first_X4_size rfl rfl rfl hqX4_size ⟨Nat.le_of_ble_eq_true rfl, Nat.le_of_ble_eq_true rfl⟩) X (va_recv X.1 X.2.1 (ci := 0) (q0 := r2) rfl (wlC_t hr2)) rfl hl.1 rfl (Nat.le_of_ble_eq_true rfl) dX5_first_31 ⟨Nat.zero_le _, Nat.zero_le _⟩ (fun H locs X => ?_)
      refine xr_min hx hb hts hown (hml.trans hl.1.symm) (by decide +kernel) (by decide +kernel) (by decide +kernel) (by decide +kernel) (Nat.le_of_ble_eq_true rfl) (Nat.le_of_ble_eq_true rfl) ⟨Nat.zero_le _, Nat.zero_le _⟩ dX5_first_34 ?_
      refine xr_max hx hb hts hown (hml.trans hl.1.symm) (by decide +kernel) (by decide +kernel) (by decide +kernel) (by decide +kernel) (Nat.le_of_ble_eq_true rfl) (Nat.le_of_ble_eq_true rfl) ⟨Nat.zero_le _, Nat.zero_le _⟩ dX5_first_37 ?_
      refine lv_istore (lv' := [(7, .int (mxI (0 : Int32) (miI x3 v7))), (6, .int (v5 - v6)), (5, .ref (ad r4)), (4, .ref (ad r2)), (0, .ref (ad 14)), (1, .int x1), (2, .int x2), (3, .int x3)]) hx hb dX5_first_40 hl (by decide) rfl (fun ls hl => ?_)
      exact w42 r2 r4 (v5 - v6) hr2 hr4 fu (mxI (0 : Int32) (miI x3 v7)) hf _ _ _ X (lv_sub hl [3, 2, 1, 0] rfl)
set_option maxRecDepth 100000 in
set_option maxHeartbeats 4000000 in
theorem eX5_first {l : Launch} {dd : va_G} {cy : Nat → ClassId} {ad : Nat → Nat} {A : Nat → Prop} {fu : Nat} {ts : Nat → Int32} {tc : Nat → Nat → Int32} {rk : Nat → Int32} {pl : Nat → Int32} {ru : Nat → Int64} {sl : Nat → Int32} {bg : Nat → Int32} {kn : Nat → Int64} {rm : Int32} {ol : Nat → Int64} {od : Nat → UInt64} {x1 : Int32} {x2 : Int32} {x3 : Int32} {E9 : String} (htr : l.stackTraces = false) (hf : fX5_first fu ts tc x1 x2 x3 = some (.error E9)) : vx_Met l yX5_first wsX5_first { frames := 7, cells := 1, slots := 6, locals := 121 } (va_Pc [.ref (ad 14), .int x1, .int x2, .int x3] (IT dd cy A (wlC ad cy ts tc rk pl ru sl bg kn rm ol od))) (fun _ _ _ _ => False) (XE dd cy A E9 (wlC ad cy ts tc rk pl ru sl bg kn rm ol od)) 1 6 A := by
  refine vx_ofW (cc := cX5_first) (maxL := 8) (ret := some .int) (by decide) rfl ?_
  intro p e s m args below meth c s₁ B hml hexc hv
  obtain ⟨hav, hI, hT⟩ := hv
  have hx := B.exec
  have hb := B.bytes
  have hr := B.returns
  have hts := atoms_spec (ws := wsX5_first) B.pre
  have hown : s.vm.findClass RX5 = some m.cls := findClass_of_methodNamed B.named
  have hlocks := B.notSynchronized
  have X := XW.of hI
  refine xe_in hav (Nat.le_of_ble_eq_true rfl) rfl (fun ls hl => ?_)
  have w42 : ∀ (t4 : Nat) (t5 : Nat) (y6 : Int32) (ht4 : t4 < 7) (ht5 : t5 < 7) (n : Nat) (y7 : Int32), fX5_first_42 fu ts tc t4 t5 y6 n y7 = some (.error E9) → ∀ (H : Heap) (locs : List Loc) (ls : Array Slot), XW dd cy A s (wlC ad cy ts tc rk pl ru sl bg kn rm ol od) H locs → lv_has ls 8 [(4, .ref (ad t4)), (5, .ref (ad t5)), (6, .int y6), (7, .int y7)] → W p l e (headSpec wsX5_first { frames := 7, cells := 1, slots := 6, locals := 121 }).room s m args below meth c H locs 0 0 (vx_MQ below (fun _ _ _ _ => False) (XE dd cy A E9 (wlC ad cy ts tc rk pl ru sl bg kn rm ol od)) args s 1 6 A) (F0 m 42 ls []) := by
    intro t4 t5 y6 ht4 ht5 n
    induction n with
    | zero => intro y7 hf; exact absurd hf (by simp [fX5_first_42])
    | succ n ih =>
      intro y7 hf H locs ls X hl
      rw [fX5_first_42] at hf
      refine lv_iload hx hb dX5_first_42 (lv_at hl 3 rfl) ?_
      refine lv_iload hx hb dX5_first_44 (lv_at hl 2 rfl) ?_
      refine xr_icmp_gt (tgt := 70) hx hb dX5_first_46 rfl hf (fun hf => ?_) (fun hf => ?_)
      · refine lv_iconst (v := (-1 : Int32)) hx hb dX5_first_70 rfl ?_
        cases hf
      · refine lv_aload hx hb dX5_first_49 (lv_at hl 0 rfl) ?_
        refine lv_iload hx hb dX5_first_51 (lv_at hl 3 rfl) ?_
        refine lv_aload hx hb dX5_first_53 (lv_at hl 1 rfl) ?_
        refine xb hf (fun v8 hv hf => ?_)
        refine xc_V1 (rest := []) ⟨hx, hb, hml, hown, hts⟩ (mX4_hasAt ht4 ht5 hv) (cwV 2 hts gX5_first_X4_hasAt rfl rfl rfl hqX4_hasAt ⟨Nat.le_of_ble_eq_true rfl, Nat.le_of_ble_eq_true rfl⟩) X (va_recv X.1 X.2.1 (ci := 0) (q0 := t4) rfl (wlC_t ht4)) rfl hl.1 rfl (Nat.le_of_ble_eq_true rfl) dX5_first_55 ⟨Nat.zero_le _, Nat.zero_le _⟩ (fun H locs X => ?_)
        refine xr_if_eq (tgt := 64) hx hb dX5_first_58 rfl hf (fun hf => ?_) (fun hf => ?_)
        · refine lv_iinc (v := (y7 + 1)) (lv' := [(7, .int (y7 + 1)), (4, .ref (ad t4)), (5, .ref (ad t5)), (6, .int y6)]) hx hb dX5_first_64 hl (k := 3) rfl ii_1 (by decide) rfl (fun ls hl => ?_)
          refine lv_goto (tgt := 42) hx hb dX5_first_67 rfl ?_
          exact ih (y7 + 1) hf _ _ _ X (lv_sub hl [1, 2, 3, 0] rfl)
        · refine lv_iload hx hb dX5_first_61 (lv_at hl 3 rfl) ?_
          cases hf
  rw [fX5_first] at hf
  refine lv_aload_n hx hb dX5_first_0 rfl (lv_at hl 0 rfl) ?_
  refine lv_iload_n hx hb dX5_first_1 rfl (lv_at hl 1 rfl) ?_
  refine xb hf (fun v1 hv1 hf => ?_)
  refine exb_c hf (fun e9 h9 hf => ?_) (fun r2 h9 hf => ?_)
  · cases hf
    exact xt_V (rest := []) ⟨hx, hb, hml, hown, hts⟩ (eX5_textOf htr (exo_s hv1 h9)) (cwV 1 hts gX5_first_X5_textOf rfl rfl rfl hqX5_textOf ⟨Nat.le_of_ble_eq_true rfl, Nat.le_of_ble_eq_true rfl⟩) X hT (va_recv X.1 X.2.1 (ci := 1) (q0 := 14) rfl wlC_14) rfl hl.1 rfl (Nat.le_of_ble_eq_true rfl) dX5_first_2 ⟨Nat.le_of_ble_eq_true rfl, Nat.le_of_ble_eq_true rfl⟩ hexc hlocks
  · have hr2 : r2 < 7 := fX5_textOf_lt (exo_s hv1 h9)
    refine xc_V1 (rest := []) ⟨hx, hb, hml, hown, hts⟩ (mX5_textOf (exo_s hv1 h9)) (cwV 1 hts gX5_first_X5_textOf rfl rfl rfl hqX5_textOf ⟨Nat.le_of_ble_eq_true rfl, Nat.le_of_ble_eq_true rfl⟩) X (va_recv X.1 X.2.1 (ci := 1) (q0 := 14) rfl wlC_14) rfl hl.1 rfl (Nat.le_of_ble_eq_true rfl) dX5_first_2 ⟨Nat.zero_le _, Nat.zero_le _⟩ (fun H locs X => ?_)
    refine lv_astore (lv' := [(4, .ref (ad r2)), (0, .ref (ad 14)), (1, .int x1), (2, .int x2), (3, .int x3)]) hx hb dX5_first_5 hl (by decide) rfl (fun ls hl => ?_)
    refine lv_aload_n hx hb dX5_first_7 rfl (lv_at hl 1 rfl) ?_
    refine lv_iload_n hx hb dX5_first_8 rfl (lv_at hl 3 rfl) ?_
    refine xb hf (fun v3 hv3 hf => ?_)
    refine exb_c hf (fun e9 h9 hf => ?_) (fun r4 h9 hf => ?_)
    · cases hf
      exact xt_V (rest := []) ⟨hx, hb, hml, hown, hts⟩ (eX5_textOf htr (exo_s hv3 h9)) (cwV 1 hts gX5_first_X5_textOf rfl rfl rfl hqX5_textOf ⟨Nat.le_of_ble_eq_true rfl, Nat.le_of_ble_eq_true rfl⟩) X hT (va_recv X.1 X.2.1 (ci := 1) (q0 := 14) rfl wlC_14) rfl hl.1 rfl (Nat.le_of_ble_eq_true rfl) dX5_first_9 ⟨Nat.le_of_ble_eq_true rfl, Nat.le_of_ble_eq_true rfl⟩ hexc hlocks
    · have hr4 : r4 < 7 := fX5_textOf_lt (exo_s hv3 h9)
      refine xc_V1 (rest := []) ⟨hx, hb, hml, hown, hts⟩ (mX5_textOf (exo_s hv3 h9)) (cwV 1 hts gX5_first_X5_textOf rfl rfl rfl hqX5_textOf ⟨Nat.le_of_ble_eq_true rfl, Nat.le_of_ble_eq_true rfl⟩) X (va_recv X.1 X.2.1 (ci := 1) (q0 := 14) rfl wlC_14) rfl hl.1 rfl (Nat.le_of_ble_eq_true rfl) dX5_first_9 ⟨Nat.zero_le _, Nat.zero_le _⟩ (fun H locs X => ?_)
      refine lv_astore (lv' := [(5, .ref (ad r4)), (4, .ref (ad r2)), (0, .ref (ad 14)), (1, .int x1), (2, .int x2), (3, .int x3)]) hx hb dX5_first_12 hl (by decide) rfl (fun ls hl => ?_)
      refine lv_aload hx hb dX5_first_14 (lv_at hl 1 rfl) ?_
      refine xb hf (fun v5 hv hf => ?_)
      refine xc_V1 (rest := []) ⟨hx, hb, hml, hown, hts⟩ (mX4_size hr2 hv) (cwV 0 hts gX5_first_X4_size rfl rfl rfl hqX4_size ⟨Nat.le_of_ble_eq_true rfl, Nat.le_of_ble_eq_true rfl⟩) X (va_recv X.1 X.2.1 (ci := 0) (q0 := r2) rfl (wlC_t hr2)) rfl hl.1 rfl (Nat.le_of_ble_eq_true rfl) dX5_first_16 ⟨Nat.zero_le _, Nat.zero_le _⟩ (fun H locs X => ?_)
      refine lv_aload hx hb dX5_first_19 (lv_at hl 0 rfl) ?_
      refine xb hf (fun v6 hv hf => ?_)
      refine xc_V1 (rest := [.int v5]) ⟨hx, hb, hml, hown, hts⟩ (mX4_size hr4 hv) (cwV 0 hts gX5_first_X4_size rfl rfl rfl hqX4_size ⟨Nat.le_of_ble_eq_true rfl, Nat.le_of_ble_eq_true rfl⟩) X (va_recv X.1 X.2.1 (ci := 0) (q0 := r4) rfl (wlC_t hr4)) rfl hl.1 rfl (Nat.le_of_ble_eq_true rfl) dX5_first_21 ⟨Nat.zero_le _, Nat.zero_le _⟩ (fun H locs X => ?_)
      refine lv_isub hx hb dX5_first_24 ?_
      refine lv_istore (lv' := [(6, .int (v5 - v6)), (5, .ref (ad r4)), (4, .ref (ad r2)), (0, .ref (ad 14)), (1, .int x1), (2, .int x2), (3, .int x3)]) hx hb dX5_first_25 hl (by decide) rfl (fun ls hl => ?_)
      refine lv_iconst (v := (0 : Int32)) hx hb dX5_first_27 rfl ?_
      refine lv_iload_n hx hb dX5_first_28 rfl (lv_at hl 6 rfl) ?_
      refine lv_aload hx hb dX5_first_29 (lv_at hl 2 rfl) ?_
      refine xb hf (fun v7 hv hf => ?_)
      refine xc_V1 (rest := [.int x3, .int (0 : Int32)]) ⟨hx, hb, hml, hown, hts⟩ (mX4_size hr2 hv) (cwV 0 hts gX5_first_X4_size rfl rfl rfl hqX4_size ⟨Nat.le_of_ble_eq_true rfl, Nat.le_of_ble_eq_true rfl⟩) X (va_recv X.1 X.2.1 (ci := 0) (q0 := r2) rfl (wlC_t hr2)) rfl hl.1 rfl (Nat.le_of_ble_eq_true rfl) dX5_first_31 ⟨Nat.zero_le _, Nat.zero_le _⟩ (fun H locs X => ?_)
      refine xr_min hx hb hts hown (hml.trans hl.1.symm) (by decide +kernel) (by decide +kernel) (by decide +kernel) (by decide +kernel) (Nat.le_of_ble_eq_true rfl) (Nat.le_of_ble_eq_true rfl) ⟨Nat.zero_le _, Nat.zero_le _⟩ dX5_first_34 ?_
      refine xr_max hx hb hts hown (hml.trans hl.1.symm) (by decide +kernel) (by decide +kernel) (by decide +kernel) (by decide +kernel) (Nat.le_of_ble_eq_true rfl) (Nat.le_of_ble_eq_true rfl) ⟨Nat.zero_le _, Nat.zero_le _⟩ dX5_first_37 ?_
      refine lv_istore (lv' := [(7, .int (mxI (0 : Int32) (miI x3 v7))), (6, .int (v5 - v6)), (5, .ref (ad r4)), (4, .ref (ad r2)), (0, .ref (ad 14)), (1, .int x1), (2, .int x2), (3, .int x3)]) hx hb dX5_first_40 hl (by decide) rfl (fun ls hl => ?_)
      exact w42 r2 r4 (v5 - v6) hr2 hr4 fu (mxI (0 : Int32) (miI x3 v7)) hf _ _ _ X (lv_sub hl [3, 2, 1, 0] rfl)
set_option maxRecDepth 100000 in
set_option maxHeartbeats 4000000 in
theorem mX5_last {l : Launch} {dd : va_G} {cy : Nat → ClassId} {ad : Nat → Nat} {A : Nat → Prop} {fu : Nat} {ts : Nat → Int32} {tc : Nat → Nat → Int32} {rk : Nat → Int32} {pl : Nat → Int32} {ru : Nat → Int64} {sl : Nat → Int32} {bg : Nat → Int32} {kn : Nat → Int64} {rm : Int32} {ol : Nat → Int64} {od : Nat → UInt64} {x1 : Int32} {x2 : Int32} {x3 : Int32} {rv : Int32} (hf : fX5_last fu ts tc x1 x2 x3 = some (.ok rv)) : Met l yX5_last wsX5_last { frames := 3, cells := 0, slots := 0, locals := 79 } (va_Pc [.ref (ad 14), .int x1, .int x2, .int x3] (IW dd cy A (wlC ad cy ts tc rk pl ru sl bg kn rm ol od))) (QX dd cy A (some (.int rv)) (wlC ad cy ts tc rk pl ru sl bg kn rm ol od)) 0 0 A := by
  refine Met.ofW (cc := cX5_last) (maxL := 7) (ret := some .int) (by decide) rfl ?_
  intro p e s m args below meth c s₁ B hml hv
  obtain ⟨hav, hI⟩ := hv
  have hx := B.exec
  have hb := B.bytes
  have hr := B.returns
  have hts := atoms_spec (ws := wsX5_last) B.pre
  have hown : s.vm.findClass RX5 = some m.cls := findClass_of_methodNamed B.named
  have hlocks := B.notSynchronized
  have X := XW.of hI
  refine xe_in hav (Nat.le_of_ble_eq_true rfl) rfl (fun ls hl => ?_)
  have w31 : ∀ (t4 : Nat) (t5 : Nat) (ht4 : t4 < 7) (ht5 : t5 < 7) (n : Nat) (y6 : Int32), fX5_last_31 fu ts tc t4 t5 n y6 = some (.ok rv) → ∀ (H : Heap) (locs : List Loc) (ls : Array Slot), XW dd cy A s (wlC ad cy ts tc rk pl ru sl bg kn rm ol od) H locs → lv_has ls 7 [(4, .ref (ad t4)), (5, .ref (ad t5)), (6, .int y6)] → W p l e (headSpec wsX5_last { frames := 3, cells := 0, slots := 0, locals := 79 }).room s m args below meth c H locs 0 0 (MQ below (QX dd cy A (some (.int rv)) (wlC ad cy ts tc rk pl ru sl bg kn rm ol od)) args s 0 0 A) (F0 m 31 ls []) := by
    intro t4 t5 ht4 ht5 n
    induction n with
    | zero => intro y6 hf; exact absurd hf (by simp [fX5_last_31])
    | succ n ih =>
      intro y6 hf H locs ls X hl
      rw [fX5_last_31] at hf
      refine lv_iload hx hb dX5_last_31 (lv_at hl 2 rfl) ?_
      refine xr_if_lt (tgt := 57) hx hb dX5_last_33 rfl hf (fun hf => ?_) (fun hf => ?_)
      · refine lv_iconst (v := (-1 : Int32)) hx hb dX5_last_57 rfl ?_
        cases hf
        exact xe_i hx hb hr hlocks X dX5_last_58
      · refine lv_aload hx hb dX5_last_36 (lv_at hl 0 rfl) ?_
        refine lv_iload hx hb dX5_last_38 (lv_at hl 2 rfl) ?_
        refine lv_aload hx hb dX5_last_40 (lv_at hl 1 rfl) ?_
        refine xb hf (fun v7 hv hf => ?_)
        refine xc_V1 (rest := []) ⟨hx, hb, hml, hown, hts⟩ (mX4_hasAt ht4 ht5 hv) (cwV 2 hts gX5_last_X4_hasAt rfl rfl rfl hqX4_hasAt ⟨Nat.le_of_ble_eq_true rfl, Nat.le_of_ble_eq_true rfl⟩) X (va_recv X.1 X.2.1 (ci := 0) (q0 := t4) rfl (wlC_t ht4)) rfl hl.1 rfl (Nat.le_of_ble_eq_true rfl) dX5_last_42 ⟨Nat.zero_le _, Nat.zero_le _⟩ (fun H locs X => ?_)
        refine xr_if_eq (tgt := 51) hx hb dX5_last_45 rfl hf (fun hf => ?_) (fun hf => ?_)
        · refine lv_iinc (v := (y6 + (-1))) (lv' := [(6, .int (y6 + (-1))), (4, .ref (ad t4)), (5, .ref (ad t5))]) hx hb dX5_last_51 hl (k := 2) rfl ii_m1 (by decide) rfl (fun ls hl => ?_)
          refine lv_goto (tgt := 31) hx hb dX5_last_54 rfl ?_
          exact ih (y6 + (-1)) hf _ _ _ X (lv_sub hl [1, 2, 0] rfl)
        · refine lv_iload hx hb dX5_last_48 (lv_at hl 2 rfl) ?_
          cases hf
          exact xe_i hx hb hr hlocks X dX5_last_50
  rw [fX5_last] at hf
  refine lv_aload_n hx hb dX5_last_0 rfl (lv_at hl 0 rfl) ?_
  refine lv_iload_n hx hb dX5_last_1 rfl (lv_at hl 1 rfl) ?_
  refine xb hf (fun v1 hv1 hf => ?_)
  refine exb_c hf (fun e9 h9 hf => ?_) (fun r2 h9 hf => ?_)
  · cases hf
  · have hr2 : r2 < 7 := fX5_textOf_lt (exo_s hv1 h9)
    refine xc_V1 (rest := []) ⟨hx, hb, hml, hown, hts⟩ (mX5_textOf (exo_s hv1 h9)) (cwV 1 hts gX5_last_X5_textOf rfl rfl rfl hqX5_textOf ⟨Nat.le_of_ble_eq_true rfl, Nat.le_of_ble_eq_true rfl⟩) X (va_recv X.1 X.2.1 (ci := 1) (q0 := 14) rfl wlC_14) rfl hl.1 rfl (Nat.le_of_ble_eq_true rfl) dX5_last_2 ⟨Nat.zero_le _, Nat.zero_le _⟩ (fun H locs X => ?_)
    refine lv_astore (lv' := [(4, .ref (ad r2)), (0, .ref (ad 14)), (1, .int x1), (2, .int x2), (3, .int x3)]) hx hb dX5_last_5 hl (by decide) rfl (fun ls hl => ?_)
    refine lv_aload_n hx hb dX5_last_7 rfl (lv_at hl 1 rfl) ?_
    refine lv_iload_n hx hb dX5_last_8 rfl (lv_at hl 3 rfl) ?_
    refine xb hf (fun v3 hv3 hf => ?_)
    refine exb_c hf (fun e9 h9 hf => ?_) (fun r4 h9 hf => ?_)
    · cases hf
    · have hr4 : r4 < 7 := fX5_textOf_lt (exo_s hv3 h9)
      refine xc_V1 (rest := []) ⟨hx, hb, hml, hown, hts⟩ (mX5_textOf (exo_s hv3 h9)) (cwV 1 hts gX5_last_X5_textOf rfl rfl rfl hqX5_textOf ⟨Nat.le_of_ble_eq_true rfl, Nat.le_of_ble_eq_true rfl⟩) X (va_recv X.1 X.2.1 (ci := 1) (q0 := 14) rfl wlC_14) rfl hl.1 rfl (Nat.le_of_ble_eq_true rfl) dX5_last_9 ⟨Nat.zero_le _, Nat.zero_le _⟩ (fun H locs X => ?_)
      refine lv_astore (lv' := [(5, .ref (ad r4)), (4, .ref (ad r2)), (0, .ref (ad 14)), (1, .int x1), (2, .int x2), (3, .int x3)]) hx hb dX5_last_12 hl (by decide) rfl (fun ls hl => ?_)
      refine lv_iload_n hx hb dX5_last_14 rfl (lv_at hl 5 rfl) ?_
      refine lv_aload hx hb dX5_last_15 (lv_at hl 1 rfl) ?_
      refine xb hf (fun v5 hv hf => ?_)
      refine xc_V1 (rest := [.int x3]) ⟨hx, hb, hml, hown, hts⟩ (mX4_size hr2 hv) (cwV 0 hts gX5_last_X4_size rfl rfl rfl hqX4_size ⟨Nat.le_of_ble_eq_true rfl, Nat.le_of_ble_eq_true rfl⟩) X (va_recv X.1 X.2.1 (ci := 0) (q0 := r2) rfl (wlC_t hr2)) rfl hl.1 rfl (Nat.le_of_ble_eq_true rfl) dX5_last_17 ⟨Nat.zero_le _, Nat.zero_le _⟩ (fun H locs X => ?_)
      refine lv_aload hx hb dX5_last_20 (lv_at hl 0 rfl) ?_
      refine xb hf (fun v6 hv hf => ?_)
      refine xc_V1 (rest := [.int v5, .int x3]) ⟨hx, hb, hml, hown, hts⟩ (mX4_size hr4 hv) (cwV 0 hts gX5_last_X4_size rfl rfl rfl hqX4_size ⟨Nat.le_of_ble_eq_true rfl, Nat.le_of_ble_eq_true rfl⟩) X (va_recv X.1 X.2.1 (ci := 0) (q0 := r4) rfl (wlC_t hr4)) rfl hl.1 rfl (Nat.le_of_ble_eq_true rfl) dX5_last_22 ⟨Nat.zero_le _, Nat.zero_le _⟩ (fun H locs X => ?_)
      refine lv_isub hx hb dX5_last_25 ?_
      refine xr_min hx hb hts hown (hml.trans hl.1.symm) (by decide +kernel) (by decide +kernel) (by decide +kernel) (by decide +kernel) (Nat.le_of_ble_eq_true rfl) (Nat.le_of_ble_eq_true rfl) ⟨Nat.zero_le _, Nat.zero_le _⟩ dX5_last_26 ?_
      refine lv_istore (lv' := [(6, .int (miI x3 (v5 - v6))), (5, .ref (ad r4)), (4, .ref (ad r2)), (0, .ref (ad 14)), (1, .int x1), (2, .int x2), (3, .int x3)]) hx hb dX5_last_29 hl (by decide) rfl (fun ls hl => ?_)
      exact w31 r2 r4 hr2 hr4 fu (miI x3 (v5 - v6)) hf _ _ _ X (lv_sub hl [2, 1, 0] rfl)
set_option maxRecDepth 100000 in
set_option maxHeartbeats 4000000 in
theorem eX5_last {l : Launch} {dd : va_G} {cy : Nat → ClassId} {ad : Nat → Nat} {A : Nat → Prop} {fu : Nat} {ts : Nat → Int32} {tc : Nat → Nat → Int32} {rk : Nat → Int32} {pl : Nat → Int32} {ru : Nat → Int64} {sl : Nat → Int32} {bg : Nat → Int32} {kn : Nat → Int64} {rm : Int32} {ol : Nat → Int64} {od : Nat → UInt64} {x1 : Int32} {x2 : Int32} {x3 : Int32} {E9 : String} (htr : l.stackTraces = false) (hf : fX5_last fu ts tc x1 x2 x3 = some (.error E9)) : vx_Met l yX5_last wsX5_last { frames := 7, cells := 1, slots := 6, locals := 121 } (va_Pc [.ref (ad 14), .int x1, .int x2, .int x3] (IT dd cy A (wlC ad cy ts tc rk pl ru sl bg kn rm ol od))) (fun _ _ _ _ => False) (XE dd cy A E9 (wlC ad cy ts tc rk pl ru sl bg kn rm ol od)) 1 6 A := by
  refine vx_ofW (cc := cX5_last) (maxL := 7) (ret := some .int) (by decide) rfl ?_
  intro p e s m args below meth c s₁ B hml hexc hv
  obtain ⟨hav, hI, hT⟩ := hv
  have hx := B.exec
  have hb := B.bytes
  have hr := B.returns
  have hts := atoms_spec (ws := wsX5_last) B.pre
  have hown : s.vm.findClass RX5 = some m.cls := findClass_of_methodNamed B.named
  have hlocks := B.notSynchronized
  have X := XW.of hI
  refine xe_in hav (Nat.le_of_ble_eq_true rfl) rfl (fun ls hl => ?_)
  have w31 : ∀ (t4 : Nat) (t5 : Nat) (ht4 : t4 < 7) (ht5 : t5 < 7) (n : Nat) (y6 : Int32), fX5_last_31 fu ts tc t4 t5 n y6 = some (.error E9) → ∀ (H : Heap) (locs : List Loc) (ls : Array Slot), XW dd cy A s (wlC ad cy ts tc rk pl ru sl bg kn rm ol od) H locs → lv_has ls 7 [(4, .ref (ad t4)), (5, .ref (ad t5)), (6, .int y6)] → W p l e (headSpec wsX5_last { frames := 7, cells := 1, slots := 6, locals := 121 }).room s m args below meth c H locs 0 0 (vx_MQ below (fun _ _ _ _ => False) (XE dd cy A E9 (wlC ad cy ts tc rk pl ru sl bg kn rm ol od)) args s 1 6 A) (F0 m 31 ls []) := by
    intro t4 t5 ht4 ht5 n
    induction n with
    | zero => intro y6 hf; exact absurd hf (by simp [fX5_last_31])
    | succ n ih =>
      intro y6 hf H locs ls X hl
      rw [fX5_last_31] at hf
      refine lv_iload hx hb dX5_last_31 (lv_at hl 2 rfl) ?_
      refine xr_if_lt (tgt := 57) hx hb dX5_last_33 rfl hf (fun hf => ?_) (fun hf => ?_)
      · refine lv_iconst (v := (-1 : Int32)) hx hb dX5_last_57 rfl ?_
        cases hf
      · refine lv_aload hx hb dX5_last_36 (lv_at hl 0 rfl) ?_
        refine lv_iload hx hb dX5_last_38 (lv_at hl 2 rfl) ?_
        refine lv_aload hx hb dX5_last_40 (lv_at hl 1 rfl) ?_
        refine xb hf (fun v7 hv hf => ?_)
        refine xc_V1 (rest := []) ⟨hx, hb, hml, hown, hts⟩ (mX4_hasAt ht4 ht5 hv) (cwV 2 hts gX5_last_X4_hasAt rfl rfl rfl hqX4_hasAt ⟨Nat.le_of_ble_eq_true rfl, Nat.le_of_ble_eq_true rfl⟩) X (va_recv X.1 X.2.1 (ci := 0) (q0 := t4) rfl (wlC_t ht4)) rfl hl.1 rfl (Nat.le_of_ble_eq_true rfl) dX5_last_42 ⟨Nat.zero_le _, Nat.zero_le _⟩ (fun H locs X => ?_)
        refine xr_if_eq (tgt := 51) hx hb dX5_last_45 rfl hf (fun hf => ?_) (fun hf => ?_)
        · refine lv_iinc (v := (y6 + (-1))) (lv' := [(6, .int (y6 + (-1))), (4, .ref (ad t4)), (5, .ref (ad t5))]) hx hb dX5_last_51 hl (k := 2) rfl ii_m1 (by decide) rfl (fun ls hl => ?_)
          refine lv_goto (tgt := 31) hx hb dX5_last_54 rfl ?_
          exact ih (y6 + (-1)) hf _ _ _ X (lv_sub hl [1, 2, 0] rfl)
        · refine lv_iload hx hb dX5_last_48 (lv_at hl 2 rfl) ?_
          cases hf
  rw [fX5_last] at hf
  refine lv_aload_n hx hb dX5_last_0 rfl (lv_at hl 0 rfl) ?_
  refine lv_iload_n hx hb dX5_last_1 rfl (lv_at hl 1 rfl) ?_
  refine xb hf (fun v1 hv1 hf => ?_)
  refine exb_c hf (fun e9 h9 hf => ?_) (fun r2 h9 hf => ?_)
  · cases hf
    exact xt_V (rest := []) ⟨hx, hb, hml, hown, hts⟩ (eX5_textOf htr (exo_s hv1 h9)) (cwV 1 hts gX5_last_X5_textOf rfl rfl rfl hqX5_textOf ⟨Nat.le_of_ble_eq_true rfl, Nat.le_of_ble_eq_true rfl⟩) X hT (va_recv X.1 X.2.1 (ci := 1) (q0 := 14) rfl wlC_14) rfl hl.1 rfl (Nat.le_of_ble_eq_true rfl) dX5_last_2 ⟨Nat.le_of_ble_eq_true rfl, Nat.le_of_ble_eq_true rfl⟩ hexc hlocks
  · have hr2 : r2 < 7 := fX5_textOf_lt (exo_s hv1 h9)
    refine xc_V1 (rest := []) ⟨hx, hb, hml, hown, hts⟩ (mX5_textOf (exo_s hv1 h9)) (cwV 1 hts gX5_last_X5_textOf rfl rfl rfl hqX5_textOf ⟨Nat.le_of_ble_eq_true rfl, Nat.le_of_ble_eq_true rfl⟩) X (va_recv X.1 X.2.1 (ci := 1) (q0 := 14) rfl wlC_14) rfl hl.1 rfl (Nat.le_of_ble_eq_true rfl) dX5_last_2 ⟨Nat.zero_le _, Nat.zero_le _⟩ (fun H locs X => ?_)
    refine lv_astore (lv' := [(4, .ref (ad r2)), (0, .ref (ad 14)), (1, .int x1), (2, .int x2), (3, .int x3)]) hx hb dX5_last_5 hl (by decide) rfl (fun ls hl => ?_)
    refine lv_aload_n hx hb dX5_last_7 rfl (lv_at hl 1 rfl) ?_
    refine lv_iload_n hx hb dX5_last_8 rfl (lv_at hl 3 rfl) ?_
    refine xb hf (fun v3 hv3 hf => ?_)
    refine exb_c hf (fun e9 h9 hf => ?_) (fun r4 h9 hf => ?_)
    · cases hf
      exact xt_V (rest := []) ⟨hx, hb, hml, hown, hts⟩ (eX5_textOf htr (exo_s hv3 h9)) (cwV 1 hts gX5_last_X5_textOf rfl rfl rfl hqX5_textOf ⟨Nat.le_of_ble_eq_true rfl, Nat.le_of_ble_eq_true rfl⟩) X hT (va_recv X.1 X.2.1 (ci := 1) (q0 := 14) rfl wlC_14) rfl hl.1 rfl (Nat.le_of_ble_eq_true rfl) dX5_last_9 ⟨Nat.le_of_ble_eq_true rfl, Nat.le_of_ble_eq_true rfl⟩ hexc hlocks
    · have hr4 : r4 < 7 := fX5_textOf_lt (exo_s hv3 h9)
      refine xc_V1 (rest := []) ⟨hx, hb, hml, hown, hts⟩ (mX5_textOf (exo_s hv3 h9)) (cwV 1 hts gX5_last_X5_textOf rfl rfl rfl hqX5_textOf ⟨Nat.le_of_ble_eq_true rfl, Nat.le_of_ble_eq_true rfl⟩) X (va_recv X.1 X.2.1 (ci := 1) (q0 := 14) rfl wlC_14) rfl hl.1 rfl (Nat.le_of_ble_eq_true rfl) dX5_last_9 ⟨Nat.zero_le _, Nat.zero_le _⟩ (fun H locs X => ?_)
      refine lv_astore (lv' := [(5, .ref (ad r4)), (4, .ref (ad r2)), (0, .ref (ad 14)), (1, .int x1), (2, .int x2), (3, .int x3)]) hx hb dX5_last_12 hl (by decide) rfl (fun ls hl => ?_)
      refine lv_iload_n hx hb dX5_last_14 rfl (lv_at hl 5 rfl) ?_
      refine lv_aload hx hb dX5_last_15 (lv_at hl 1 rfl) ?_
      refine xb hf (fun v5 hv hf => ?_)
      refine xc_V1 (rest := [.int x3]) ⟨hx, hb, hml, hown, hts⟩ (mX4_size hr2 hv) (cwV 0 hts gX5_last_X4_size rfl rfl rfl hqX4_size ⟨Nat.le_of_ble_eq_true rfl, Nat.le_of_ble_eq_true rfl⟩) X (va_recv X.1 X.2.1 (ci := 0) (q0 := r2) rfl (wlC_t hr2)) rfl hl.1 rfl (Nat.le_of_ble_eq_true rfl) dX5_last_17 ⟨Nat.zero_le _, Nat.zero_le _⟩ (fun H locs X => ?_)
      refine lv_aload hx hb dX5_last_20 (lv_at hl 0 rfl) ?_
      refine xb hf (fun v6 hv hf => ?_)
      refine xc_V1 (rest := [.int v5, .int x3]) ⟨hx, hb, hml, hown, hts⟩ (mX4_size hr4 hv) (cwV 0 hts gX5_last_X4_size rfl rfl rfl hqX4_size ⟨Nat.le_of_ble_eq_true rfl, Nat.le_of_ble_eq_true rfl⟩) X (va_recv X.1 X.2.1 (ci := 0) (q0 := r4) rfl (wlC_t hr4)) rfl hl.1 rfl (Nat.le_of_ble_eq_true rfl) dX5_last_22 ⟨Nat.zero_le _, Nat.zero_le _⟩ (fun H locs X => ?_)
      refine lv_isub hx hb dX5_last_25 ?_
      refine xr_min hx hb hts hown (hml.trans hl.1.symm) (by decide +kernel) (by decide +kernel) (by decide +kernel) (by decide +kernel) (Nat.le_of_ble_eq_true rfl) (Nat.le_of_ble_eq_true rfl) ⟨Nat.zero_le _, Nat.zero_le _⟩ dX5_last_26 ?_
      refine lv_istore (lv' := [(6, .int (miI x3 (v5 - v6))), (5, .ref (ad r4)), (4, .ref (ad r2)), (0, .ref (ad 14)), (1, .int x1), (2, .int x2), (3, .int x3)]) hx hb dX5_last_29 hl (by decide) rfl (fun ls hl => ?_)
      exact w31 r2 r4 hr2 hr4 fu (miI x3 (v5 - v6)) hf _ _ _ X (lv_sub hl [2, 1, 0] rfl)
set_option maxRecDepth 100000 in
set_option maxHeartbeats 4000000 in
theorem mX5_many {l : Launch} {dd : va_G} {cy : Nat → ClassId} {ad : Nat → Nat} {A : Nat → Prop} {fu : Nat} {ts : Nat → Int32} {tc : Nat → Nat → Int32} {rk : Nat → Int32} {pl : Nat → Int32} {ru : Nat → Int64} {sl : Nat → Int32} {bg : Nat → Int32} {kn : Nat → Int64} {rm : Int32} {ol : Nat → Int64} {od : Nat → UInt64} {x1 : Int32} {x2 : Int32} {x3 : Int32} {rv : Int32} (hf : fX5_many fu ts tc x1 x2 x3 = some (.ok rv)) : Met l yX5_many wsX5_many { frames := 4, cells := 0, slots := 0, locals := 104 } (va_Pc [.ref (ad 14), .int x1, .int x2, .int x3] (IW dd cy A (wlC ad cy ts tc rk pl ru sl bg kn rm ol od))) (QX dd cy A (some (.int rv)) (wlC ad cy ts tc rk pl ru sl bg kn rm ol od)) 0 0 A := by
  refine Met.ofW (cc := cX5_many) (maxL := 6) (ret := some .int) (by decide) rfl ?_
  intro p e s m args below meth c s₁ B hml hv
  obtain ⟨hav, hI⟩ := hv
  have hx := B.exec
  have hb := B.bytes
  have hr := B.returns
  have hts := atoms_spec (ws := wsX5_many) B.pre
  have hown : s.vm.findClass RX5 = some m.cls := findClass_of_methodNamed B.named
  have hlocks := B.notSynchronized
  have X := XW.of hI
  refine xe_in hav (Nat.le_of_ble_eq_true rfl) rfl (fun ls hl => ?_)
  rw [fX5_many] at hf
  refine lv_aload_n hx hb dX5_many_0 rfl (lv_at hl 0 rfl) ?_
  refine lv_iload_n hx hb dX5_many_1 rfl (lv_at hl 1 rfl) ?_
  refine xb hf (fun v1 hv1 hf => ?_)
  refine exb_c hf (fun e9 h9 hf => ?_) (fun r2 h9 hf => ?_)
  · cases hf
  · have hr2 : r2 < 7 := fX5_textOf_lt (exo_s hv1 h9)
    refine xc_V1 (rest := []) ⟨hx, hb, hml, hown, hts⟩ (mX5_textOf (exo_s hv1 h9)) (cwV 1 hts gX5_many_X5_textOf rfl rfl rfl hqX5_textOf ⟨Nat.le_of_ble_eq_true rfl, Nat.le_of_ble_eq_true rfl⟩) X (va_recv X.1 X.2.1 (ci := 1) (q0 := 14) rfl wlC_14) rfl hl.1 rfl (Nat.le_of_ble_eq_true rfl) dX5_many_2 ⟨Nat.zero_le _, Nat.zero_le _⟩ (fun H locs X => ?_)
    refine lv_astore (lv' := [(4, .ref (ad r2)), (0, .ref (ad 14)), (1, .int x1), (2, .int x2), (3, .int x3)]) hx hb dX5_many_5 hl (by decide) rfl (fun ls hl => ?_)
    refine lv_aload_n hx hb dX5_many_7 rfl (lv_at hl 1 rfl) ?_
    refine lv_iload_n hx hb dX5_many_8 rfl (lv_at hl 3 rfl) ?_
    refine xb hf (fun v3 hv3 hf => ?_)
    refine exb_c hf (fun e9 h9 hf => ?_) (fun r4 h9 hf => ?_)
    · cases hf
    · have hr4 : r4 < 7 := fX5_textOf_lt (exo_s hv3 h9)
      refine xc_V1 (rest := []) ⟨hx, hb, hml, hown, hts⟩ (mX5_textOf (exo_s hv3 h9)) (cwV 1 hts gX5_many_X5_textOf rfl rfl rfl hqX5_textOf ⟨Nat.le_of_ble_eq_true rfl, Nat.le_of_ble_eq_true rfl⟩) X (va_recv X.1 X.2.1 (ci := 1) (q0 := 14) rfl wlC_14) rfl hl.1 rfl (Nat.le_of_ble_eq_true rfl) dX5_many_9 ⟨Nat.zero_le _, Nat.zero_le _⟩ (fun H locs X => ?_)
      refine lv_astore (lv' := [(5, .ref (ad r4)), (4, .ref (ad r2)), (0, .ref (ad 14)), (1, .int x1), (2, .int x2), (3, .int x3)]) hx hb dX5_many_12 hl (by decide) rfl (fun ls hl => ?_)
      refine lv_aload hx hb dX5_many_14 (lv_at hl 0 rfl) ?_
      refine xb hf (fun v5 hv5 hf => ?_)
      refine exb_c hf (fun e9 h9 hf => ?_) (fun r6 h9 hf => ?_)
      · cases hf
      · refine xc_S0 (rest := []) ⟨hx, hb, hml, hown, hts⟩ (mX5_requireNotEmpty hr4 (exo_s hv5 h9)) (va_cwS 1 hts gX5_many_X5_requireNotEmpty rfl rfl rfl hqX5_requireNotEmpty ⟨Nat.le_of_ble_eq_true rfl, Nat.le_of_ble_eq_true rfl⟩) X rfl hl.1 rfl (Nat.le_of_ble_eq_true rfl) dX5_many_16 ⟨Nat.zero_le _, Nat.zero_le _⟩ (fun H locs X => ?_)
        refine lv_aload hx hb dX5_many_19 (lv_at hl 1 rfl) ?_
        refine lv_aload hx hb dX5_many_21 (lv_at hl 0 rfl) ?_
        refine lv_iload_n hx hb dX5_many_23 rfl (lv_at hl 5 rfl) ?_
        refine xb hf (fun v7 hv hf => ?_)
        refine xc_V1 (rest := []) ⟨hx, hb, hml, hown, hts⟩ (mX4_countOf hr2 hr4 hv) (cwV 2 hts gX5_many_X4_countOf rfl rfl rfl hqX4_countOf ⟨Nat.le_of_ble_eq_true rfl, Nat.le_of_ble_eq_true rfl⟩) X (va_recv X.1 X.2.1 (ci := 0) (q0 := r2) rfl (wlC_t hr2)) rfl hl.1 rfl (Nat.le_of_ble_eq_true rfl) dX5_many_24 ⟨Nat.zero_le _, Nat.zero_le _⟩ (fun H locs X => ?_)
        cases hf
        exact xe_i hx hb hr hlocks X dX5_many_27
set_option maxRecDepth 100000 in
set_option maxHeartbeats 4000000 in
theorem eX5_many {l : Launch} {dd : va_G} {cy : Nat → ClassId} {ad : Nat → Nat} {A : Nat → Prop} {fu : Nat} {ts : Nat → Int32} {tc : Nat → Nat → Int32} {rk : Nat → Int32} {pl : Nat → Int32} {ru : Nat → Int64} {sl : Nat → Int32} {bg : Nat → Int32} {kn : Nat → Int64} {rm : Int32} {ol : Nat → Int64} {od : Nat → UInt64} {x1 : Int32} {x2 : Int32} {x3 : Int32} {E9 : String} (htr : l.stackTraces = false) (hf : fX5_many fu ts tc x1 x2 x3 = some (.error E9)) : vx_Met l yX5_many wsX5_many { frames := 7, cells := 1, slots := 6, locals := 121 } (va_Pc [.ref (ad 14), .int x1, .int x2, .int x3] (IT dd cy A (wlC ad cy ts tc rk pl ru sl bg kn rm ol od))) (fun _ _ _ _ => False) (XE dd cy A E9 (wlC ad cy ts tc rk pl ru sl bg kn rm ol od)) 1 6 A := by
  refine vx_ofW (cc := cX5_many) (maxL := 6) (ret := some .int) (by decide) rfl ?_
  intro p e s m args below meth c s₁ B hml hexc hv
  obtain ⟨hav, hI, hT⟩ := hv
  have hx := B.exec
  have hb := B.bytes
  have hr := B.returns
  have hts := atoms_spec (ws := wsX5_many) B.pre
  have hown : s.vm.findClass RX5 = some m.cls := findClass_of_methodNamed B.named
  have hlocks := B.notSynchronized
  have X := XW.of hI
  refine xe_in hav (Nat.le_of_ble_eq_true rfl) rfl (fun ls hl => ?_)
  rw [fX5_many] at hf
  refine lv_aload_n hx hb dX5_many_0 rfl (lv_at hl 0 rfl) ?_
  refine lv_iload_n hx hb dX5_many_1 rfl (lv_at hl 1 rfl) ?_
  refine xb hf (fun v1 hv1 hf => ?_)
  refine exb_c hf (fun e9 h9 hf => ?_) (fun r2 h9 hf => ?_)
  · cases hf
    exact xt_V (rest := []) ⟨hx, hb, hml, hown, hts⟩ (eX5_textOf htr (exo_s hv1 h9)) (cwV 1 hts gX5_many_X5_textOf rfl rfl rfl hqX5_textOf ⟨Nat.le_of_ble_eq_true rfl, Nat.le_of_ble_eq_true rfl⟩) X hT (va_recv X.1 X.2.1 (ci := 1) (q0 := 14) rfl wlC_14) rfl hl.1 rfl (Nat.le_of_ble_eq_true rfl) dX5_many_2 ⟨Nat.le_of_ble_eq_true rfl, Nat.le_of_ble_eq_true rfl⟩ hexc hlocks
  · have hr2 : r2 < 7 := fX5_textOf_lt (exo_s hv1 h9)
    refine xc_V1 (rest := []) ⟨hx, hb, hml, hown, hts⟩ (mX5_textOf (exo_s hv1 h9)) (cwV 1 hts gX5_many_X5_textOf rfl rfl rfl hqX5_textOf ⟨Nat.le_of_ble_eq_true rfl, Nat.le_of_ble_eq_true rfl⟩) X (va_recv X.1 X.2.1 (ci := 1) (q0 := 14) rfl wlC_14) rfl hl.1 rfl (Nat.le_of_ble_eq_true rfl) dX5_many_2 ⟨Nat.zero_le _, Nat.zero_le _⟩ (fun H locs X => ?_)
    refine lv_astore (lv' := [(4, .ref (ad r2)), (0, .ref (ad 14)), (1, .int x1), (2, .int x2), (3, .int x3)]) hx hb dX5_many_5 hl (by decide) rfl (fun ls hl => ?_)
    refine lv_aload_n hx hb dX5_many_7 rfl (lv_at hl 1 rfl) ?_
    refine lv_iload_n hx hb dX5_many_8 rfl (lv_at hl 3 rfl) ?_
    refine xb hf (fun v3 hv3 hf => ?_)
    refine exb_c hf (fun e9 h9 hf => ?_) (fun r4 h9 hf => ?_)
    · cases hf
      exact xt_V (rest := []) ⟨hx, hb, hml, hown, hts⟩ (eX5_textOf htr (exo_s hv3 h9)) (cwV 1 hts gX5_many_X5_textOf rfl rfl rfl hqX5_textOf ⟨Nat.le_of_ble_eq_true rfl, Nat.le_of_ble_eq_true rfl⟩) X hT (va_recv X.1 X.2.1 (ci := 1) (q0 := 14) rfl wlC_14) rfl hl.1 rfl (Nat.le_of_ble_eq_true rfl) dX5_many_9 ⟨Nat.le_of_ble_eq_true rfl, Nat.le_of_ble_eq_true rfl⟩ hexc hlocks
    · have hr4 : r4 < 7 := fX5_textOf_lt (exo_s hv3 h9)
      refine xc_V1 (rest := []) ⟨hx, hb, hml, hown, hts⟩ (mX5_textOf (exo_s hv3 h9)) (cwV 1 hts gX5_many_X5_textOf rfl rfl rfl hqX5_textOf ⟨Nat.le_of_ble_eq_true rfl, Nat.le_of_ble_eq_true rfl⟩) X (va_recv X.1 X.2.1 (ci := 1) (q0 := 14) rfl wlC_14) rfl hl.1 rfl (Nat.le_of_ble_eq_true rfl) dX5_many_9 ⟨Nat.zero_le _, Nat.zero_le _⟩ (fun H locs X => ?_)
      refine lv_astore (lv' := [(5, .ref (ad r4)), (4, .ref (ad r2)), (0, .ref (ad 14)), (1, .int x1), (2, .int x2), (3, .int x3)]) hx hb dX5_many_12 hl (by decide) rfl (fun ls hl => ?_)
      refine lv_aload hx hb dX5_many_14 (lv_at hl 0 rfl) ?_
      refine xb hf (fun v5 hv5 hf => ?_)
      refine exb_c hf (fun e9 h9 hf => ?_) (fun r6 h9 hf => ?_)
      · cases hf
        exact xt_S (rest := []) ⟨hx, hb, hml, hown, hts⟩ (eX5_requireNotEmpty htr hr4 (exo_s hv5 h9)) (va_cwS 1 hts gX5_many_X5_requireNotEmpty rfl rfl rfl hqX5_requireNotEmpty ⟨Nat.le_of_ble_eq_true rfl, Nat.le_of_ble_eq_true rfl⟩) X hT rfl hl.1 rfl (Nat.le_of_ble_eq_true rfl) dX5_many_16 ⟨Nat.le_of_ble_eq_true rfl, Nat.le_of_ble_eq_true rfl⟩ hexc hlocks
      · refine xc_S0 (rest := []) ⟨hx, hb, hml, hown, hts⟩ (mX5_requireNotEmpty hr4 (exo_s hv5 h9)) (va_cwS 1 hts gX5_many_X5_requireNotEmpty rfl rfl rfl hqX5_requireNotEmpty ⟨Nat.le_of_ble_eq_true rfl, Nat.le_of_ble_eq_true rfl⟩) X rfl hl.1 rfl (Nat.le_of_ble_eq_true rfl) dX5_many_16 ⟨Nat.zero_le _, Nat.zero_le _⟩ (fun H locs X => ?_)
        refine lv_aload hx hb dX5_many_19 (lv_at hl 1 rfl) ?_
        refine lv_aload hx hb dX5_many_21 (lv_at hl 0 rfl) ?_
        refine lv_iload_n hx hb dX5_many_23 rfl (lv_at hl 5 rfl) ?_
        refine xb hf (fun v7 hv hf => ?_)
        refine xc_V1 (rest := []) ⟨hx, hb, hml, hown, hts⟩ (mX4_countOf hr2 hr4 hv) (cwV 2 hts gX5_many_X4_countOf rfl rfl rfl hqX4_countOf ⟨Nat.le_of_ble_eq_true rfl, Nat.le_of_ble_eq_true rfl⟩) X (va_recv X.1 X.2.1 (ci := 0) (q0 := r2) rfl (wlC_t hr2)) rfl hl.1 rfl (Nat.le_of_ble_eq_true rfl) dX5_many_24 ⟨Nat.zero_le _, Nat.zero_le _⟩ (fun H locs X => ?_)
        cases hf
set_option maxRecDepth 100000 in
set_option maxHeartbeats 4000000 in
theorem mX5_isSame {l : Launch} {dd : va_G} {cy : Nat → ClassId} {ad : Nat → Nat} {A : Nat → Prop} {fu : Nat} {ts : Nat → Int32} {tc : Nat → Nat → Int32} {rk : Nat → Int32} {pl : Nat → Int32} {ru : Nat → Int64} {sl : Nat → Int32} {bg : Nat → Int32} {kn : Nat → Int64} {rm : Int32} {ol : Nat → Int64} {od : Nat → UInt64} {x1 : Int32} {x2 : Int32} {rv : Int32} (hf : fX5_isSame fu ts tc x1 x2 = some (.ok rv)) : Met l yX5_isSame wsX5_isSame { frames := 3, cells := 0, slots := 0, locals := 79 } (va_Pc [.ref (ad 14), .int x1, .int x2] (IW dd cy A (wlC ad cy ts tc rk pl ru sl bg kn rm ol od))) (QX dd cy A (some (.int rv)) (wlC ad cy ts tc rk pl ru sl bg kn rm ol od)) 0 0 A := by
  refine Met.ofW (cc := cX5_isSame) (maxL := 3) (ret := some .boolean) (by decide) rfl ?_
  intro p e s m args below meth c s₁ B hml hv
  obtain ⟨hav, hI⟩ := hv
  have hx := B.exec
  have hb := B.bytes
  have hr := B.returns
  have hts := atoms_spec (ws := wsX5_isSame) B.pre
  have hown : s.vm.findClass RX5 = some m.cls := findClass_of_methodNamed B.named
  have hlocks := B.notSynchronized
  have X := XW.of hI
  refine xe_in hav (Nat.le_of_ble_eq_true rfl) rfl (fun ls hl => ?_)
  rw [fX5_isSame] at hf
  refine lv_aload_n hx hb dX5_isSame_0 rfl (lv_at hl 0 rfl) ?_
  refine lv_iload_n hx hb dX5_isSame_1 rfl (lv_at hl 1 rfl) ?_
  refine xb hf (fun v1 hv1 hf => ?_)
  refine exb_c hf (fun e9 h9 hf => ?_) (fun r2 h9 hf => ?_)
  · cases hf
  · have hr2 : r2 < 7 := fX5_textOf_lt (exo_s hv1 h9)
    refine xc_V1 (rest := []) ⟨hx, hb, hml, hown, hts⟩ (mX5_textOf (exo_s hv1 h9)) (cwV 1 hts gX5_isSame_X5_textOf rfl rfl rfl hqX5_textOf ⟨Nat.le_of_ble_eq_true rfl, Nat.le_of_ble_eq_true rfl⟩) X (va_recv X.1 X.2.1 (ci := 1) (q0 := 14) rfl wlC_14) rfl hl.1 rfl (Nat.le_of_ble_eq_true rfl) dX5_isSame_2 ⟨Nat.zero_le _, Nat.zero_le _⟩ (fun H locs X => ?_)
    refine lv_aload_n hx hb dX5_isSame_5 rfl (lv_at hl 0 rfl) ?_
    refine lv_iload_n hx hb dX5_isSame_6 rfl (lv_at hl 2 rfl) ?_
    refine xb hf (fun v3 hv3 hf => ?_)
    refine exb_c hf (fun e9 h9 hf => ?_) (fun r4 h9 hf => ?_)
    · cases hf
    · have hr4 : r4 < 7 := fX5_textOf_lt (exo_s hv3 h9)
      refine xc_V1 (rest := [.ref (ad r2)]) ⟨hx, hb, hml, hown, hts⟩ (mX5_textOf (exo_s hv3 h9)) (cwV 1 hts gX5_isSame_X5_textOf rfl rfl rfl hqX5_textOf ⟨Nat.le_of_ble_eq_true rfl, Nat.le_of_ble_eq_true rfl⟩) X (va_recv X.1 X.2.1 (ci := 1) (q0 := 14) rfl wlC_14) rfl hl.1 rfl (Nat.le_of_ble_eq_true rfl) dX5_isSame_7 ⟨Nat.zero_le _, Nat.zero_le _⟩ (fun H locs X => ?_)
      refine xb hf (fun v5 hv hf => ?_)
      refine xc_V1 (rest := []) ⟨hx, hb, hml, hown, hts⟩ (mX4_compareWith hr2 hr4 hv) (cwV 1 hts gX5_isSame_X4_compareWith rfl rfl rfl hqX4_compareWith ⟨Nat.le_of_ble_eq_true rfl, Nat.le_of_ble_eq_true rfl⟩) X (va_recv X.1 X.2.1 (ci := 0) (q0 := r2) rfl (wlC_t hr2)) rfl hl.1 rfl (Nat.le_of_ble_eq_true rfl) dX5_isSame_10 ⟨Nat.zero_le _, Nat.zero_le _⟩ (fun H locs X => ?_)
      refine xr_if_ne (tgt := 20) hx hb dX5_isSame_13 rfl hf (fun hf => ?_) (fun hf => ?_)
      · refine lv_iconst (v := (0 : Int32)) hx hb dX5_isSame_20 rfl ?_
        cases hf
        exact xe_z hx hb hr hlocks X rfl dX5_isSame_21
      · refine lv_iconst (v := (1 : Int32)) hx hb dX5_isSame_16 rfl ?_
        refine lv_goto (tgt := 21) hx hb dX5_isSame_17 rfl ?_
        cases hf
        exact xe_z hx hb hr hlocks X rfl dX5_isSame_21
set_option maxRecDepth 100000 in
set_option maxHeartbeats 4000000 in
theorem eX5_isSame {l : Launch} {dd : va_G} {cy : Nat → ClassId} {ad : Nat → Nat} {A : Nat → Prop} {fu : Nat} {ts : Nat → Int32} {tc : Nat → Nat → Int32} {rk : Nat → Int32} {pl : Nat → Int32} {ru : Nat → Int64} {sl : Nat → Int32} {bg : Nat → Int32} {kn : Nat → Int64} {rm : Int32} {ol : Nat → Int64} {od : Nat → UInt64} {x1 : Int32} {x2 : Int32} {E9 : String} (htr : l.stackTraces = false) (hf : fX5_isSame fu ts tc x1 x2 = some (.error E9)) : vx_Met l yX5_isSame wsX5_isSame { frames := 7, cells := 1, slots := 6, locals := 121 } (va_Pc [.ref (ad 14), .int x1, .int x2] (IT dd cy A (wlC ad cy ts tc rk pl ru sl bg kn rm ol od))) (fun _ _ _ _ => False) (XE dd cy A E9 (wlC ad cy ts tc rk pl ru sl bg kn rm ol od)) 1 6 A := by
  refine vx_ofW (cc := cX5_isSame) (maxL := 3) (ret := some .boolean) (by decide) rfl ?_
  intro p e s m args below meth c s₁ B hml hexc hv
  obtain ⟨hav, hI, hT⟩ := hv
  have hx := B.exec
  have hb := B.bytes
  have hr := B.returns
  have hts := atoms_spec (ws := wsX5_isSame) B.pre
  have hown : s.vm.findClass RX5 = some m.cls := findClass_of_methodNamed B.named
  have hlocks := B.notSynchronized
  have X := XW.of hI
  refine xe_in hav (Nat.le_of_ble_eq_true rfl) rfl (fun ls hl => ?_)
  rw [fX5_isSame] at hf
  refine lv_aload_n hx hb dX5_isSame_0 rfl (lv_at hl 0 rfl) ?_
  refine lv_iload_n hx hb dX5_isSame_1 rfl (lv_at hl 1 rfl) ?_
  refine xb hf (fun v1 hv1 hf => ?_)
  refine exb_c hf (fun e9 h9 hf => ?_) (fun r2 h9 hf => ?_)
  · cases hf
    exact xt_V (rest := []) ⟨hx, hb, hml, hown, hts⟩ (eX5_textOf htr (exo_s hv1 h9)) (cwV 1 hts gX5_isSame_X5_textOf rfl rfl rfl hqX5_textOf ⟨Nat.le_of_ble_eq_true rfl, Nat.le_of_ble_eq_true rfl⟩) X hT (va_recv X.1 X.2.1 (ci := 1) (q0 := 14) rfl wlC_14) rfl hl.1 rfl (Nat.le_of_ble_eq_true rfl) dX5_isSame_2 ⟨Nat.le_of_ble_eq_true rfl, Nat.le_of_ble_eq_true rfl⟩ hexc hlocks
  · have hr2 : r2 < 7 := fX5_textOf_lt (exo_s hv1 h9)
    refine xc_V1 (rest := []) ⟨hx, hb, hml, hown, hts⟩ (mX5_textOf (exo_s hv1 h9)) (cwV 1 hts gX5_isSame_X5_textOf rfl rfl rfl hqX5_textOf ⟨Nat.le_of_ble_eq_true rfl, Nat.le_of_ble_eq_true rfl⟩) X (va_recv X.1 X.2.1 (ci := 1) (q0 := 14) rfl wlC_14) rfl hl.1 rfl (Nat.le_of_ble_eq_true rfl) dX5_isSame_2 ⟨Nat.zero_le _, Nat.zero_le _⟩ (fun H locs X => ?_)
    refine lv_aload_n hx hb dX5_isSame_5 rfl (lv_at hl 0 rfl) ?_
    refine lv_iload_n hx hb dX5_isSame_6 rfl (lv_at hl 2 rfl) ?_
    refine xb hf (fun v3 hv3 hf => ?_)
    refine exb_c hf (fun e9 h9 hf => ?_) (fun r4 h9 hf => ?_)
    · cases hf
      exact xt_V (rest := [.ref (ad r2)]) ⟨hx, hb, hml, hown, hts⟩ (eX5_textOf htr (exo_s hv3 h9)) (cwV 1 hts gX5_isSame_X5_textOf rfl rfl rfl hqX5_textOf ⟨Nat.le_of_ble_eq_true rfl, Nat.le_of_ble_eq_true rfl⟩) X hT (va_recv X.1 X.2.1 (ci := 1) (q0 := 14) rfl wlC_14) rfl hl.1 rfl (Nat.le_of_ble_eq_true rfl) dX5_isSame_7 ⟨Nat.le_of_ble_eq_true rfl, Nat.le_of_ble_eq_true rfl⟩ hexc hlocks
    · have hr4 : r4 < 7 := fX5_textOf_lt (exo_s hv3 h9)
      refine xc_V1 (rest := [.ref (ad r2)]) ⟨hx, hb, hml, hown, hts⟩ (mX5_textOf (exo_s hv3 h9)) (cwV 1 hts gX5_isSame_X5_textOf rfl rfl rfl hqX5_textOf ⟨Nat.le_of_ble_eq_true rfl, Nat.le_of_ble_eq_true rfl⟩) X (va_recv X.1 X.2.1 (ci := 1) (q0 := 14) rfl wlC_14) rfl hl.1 rfl (Nat.le_of_ble_eq_true rfl) dX5_isSame_7 ⟨Nat.zero_le _, Nat.zero_le _⟩ (fun H locs X => ?_)
      refine xb hf (fun v5 hv hf => ?_)
      refine xc_V1 (rest := []) ⟨hx, hb, hml, hown, hts⟩ (mX4_compareWith hr2 hr4 hv) (cwV 1 hts gX5_isSame_X4_compareWith rfl rfl rfl hqX4_compareWith ⟨Nat.le_of_ble_eq_true rfl, Nat.le_of_ble_eq_true rfl⟩) X (va_recv X.1 X.2.1 (ci := 0) (q0 := r2) rfl (wlC_t hr2)) rfl hl.1 rfl (Nat.le_of_ble_eq_true rfl) dX5_isSame_10 ⟨Nat.zero_le _, Nat.zero_le _⟩ (fun H locs X => ?_)
      refine xr_if_ne (tgt := 20) hx hb dX5_isSame_13 rfl hf (fun hf => ?_) (fun hf => ?_)
      · refine lv_iconst (v := (0 : Int32)) hx hb dX5_isSame_20 rfl ?_
        cases hf
      · refine lv_iconst (v := (1 : Int32)) hx hb dX5_isSame_16 rfl ?_
        refine lv_goto (tgt := 21) hx hb dX5_isSame_17 rfl ?_
        cases hf
set_option maxRecDepth 100000 in
set_option maxHeartbeats 4000000 in
theorem mX5_compare {l : Launch} {dd : va_G} {cy : Nat → ClassId} {ad : Nat → Nat} {A : Nat → Prop} {fu : Nat} {ts : Nat → Int32} {tc : Nat → Nat → Int32} {rk : Nat → Int32} {pl : Nat → Int32} {ru : Nat → Int64} {sl : Nat → Int32} {bg : Nat → Int32} {kn : Nat → Int64} {rm : Int32} {ol : Nat → Int64} {od : Nat → UInt64} {x1 : Int32} {x2 : Int32} {rv : Int32} (hf : fX5_compare fu ts tc x1 x2 = some (.ok rv)) : Met l yX5_compare wsX5_compare { frames := 3, cells := 0, slots := 0, locals := 79 } (va_Pc [.ref (ad 14), .int x1, .int x2] (IW dd cy A (wlC ad cy ts tc rk pl ru sl bg kn rm ol od))) (QX dd cy A (some (.int rv)) (wlC ad cy ts tc rk pl ru sl bg kn rm ol od)) 0 0 A := by
  refine Met.ofW (cc := cX5_compare) (maxL := 3) (ret := some .int) (by decide) rfl ?_
  intro p e s m args below meth c s₁ B hml hv
  obtain ⟨hav, hI⟩ := hv
  have hx := B.exec
  have hb := B.bytes
  have hr := B.returns
  have hts := atoms_spec (ws := wsX5_compare) B.pre
  have hown : s.vm.findClass RX5 = some m.cls := findClass_of_methodNamed B.named
  have hlocks := B.notSynchronized
  have X := XW.of hI
  refine xe_in hav (Nat.le_of_ble_eq_true rfl) rfl (fun ls hl => ?_)
  rw [fX5_compare] at hf
  refine lv_aload_n hx hb dX5_compare_0 rfl (lv_at hl 0 rfl) ?_
  refine lv_iload_n hx hb dX5_compare_1 rfl (lv_at hl 1 rfl) ?_
  refine xb hf (fun v1 hv1 hf => ?_)
  refine exb_c hf (fun e9 h9 hf => ?_) (fun r2 h9 hf => ?_)
  · cases hf
  · have hr2 : r2 < 7 := fX5_textOf_lt (exo_s hv1 h9)
    refine xc_V1 (rest := []) ⟨hx, hb, hml, hown, hts⟩ (mX5_textOf (exo_s hv1 h9)) (cwV 1 hts gX5_compare_X5_textOf rfl rfl rfl hqX5_textOf ⟨Nat.le_of_ble_eq_true rfl, Nat.le_of_ble_eq_true rfl⟩) X (va_recv X.1 X.2.1 (ci := 1) (q0 := 14) rfl wlC_14) rfl hl.1 rfl (Nat.le_of_ble_eq_true rfl) dX5_compare_2 ⟨Nat.zero_le _, Nat.zero_le _⟩ (fun H locs X => ?_)
    refine lv_aload_n hx hb dX5_compare_5 rfl (lv_at hl 0 rfl) ?_
    refine lv_iload_n hx hb dX5_compare_6 rfl (lv_at hl 2 rfl) ?_
    refine xb hf (fun v3 hv3 hf => ?_)
    refine exb_c hf (fun e9 h9 hf => ?_) (fun r4 h9 hf => ?_)
    · cases hf
    · have hr4 : r4 < 7 := fX5_textOf_lt (exo_s hv3 h9)
      refine xc_V1 (rest := [.ref (ad r2)]) ⟨hx, hb, hml, hown, hts⟩ (mX5_textOf (exo_s hv3 h9)) (cwV 1 hts gX5_compare_X5_textOf rfl rfl rfl hqX5_textOf ⟨Nat.le_of_ble_eq_true rfl, Nat.le_of_ble_eq_true rfl⟩) X (va_recv X.1 X.2.1 (ci := 1) (q0 := 14) rfl wlC_14) rfl hl.1 rfl (Nat.le_of_ble_eq_true rfl) dX5_compare_7 ⟨Nat.zero_le _, Nat.zero_le _⟩ (fun H locs X => ?_)
      refine xb hf (fun v5 hv hf => ?_)
      refine xc_V1 (rest := []) ⟨hx, hb, hml, hown, hts⟩ (mX4_compareWith hr2 hr4 hv) (cwV 1 hts gX5_compare_X4_compareWith rfl rfl rfl hqX4_compareWith ⟨Nat.le_of_ble_eq_true rfl, Nat.le_of_ble_eq_true rfl⟩) X (va_recv X.1 X.2.1 (ci := 0) (q0 := r2) rfl (wlC_t hr2)) rfl hl.1 rfl (Nat.le_of_ble_eq_true rfl) dX5_compare_10 ⟨Nat.zero_le _, Nat.zero_le _⟩ (fun H locs X => ?_)
      cases hf
      exact xe_i hx hb hr hlocks X dX5_compare_13
set_option maxRecDepth 100000 in
set_option maxHeartbeats 4000000 in
theorem eX5_compare {l : Launch} {dd : va_G} {cy : Nat → ClassId} {ad : Nat → Nat} {A : Nat → Prop} {fu : Nat} {ts : Nat → Int32} {tc : Nat → Nat → Int32} {rk : Nat → Int32} {pl : Nat → Int32} {ru : Nat → Int64} {sl : Nat → Int32} {bg : Nat → Int32} {kn : Nat → Int64} {rm : Int32} {ol : Nat → Int64} {od : Nat → UInt64} {x1 : Int32} {x2 : Int32} {E9 : String} (htr : l.stackTraces = false) (hf : fX5_compare fu ts tc x1 x2 = some (.error E9)) : vx_Met l yX5_compare wsX5_compare { frames := 7, cells := 1, slots := 6, locals := 121 } (va_Pc [.ref (ad 14), .int x1, .int x2] (IT dd cy A (wlC ad cy ts tc rk pl ru sl bg kn rm ol od))) (fun _ _ _ _ => False) (XE dd cy A E9 (wlC ad cy ts tc rk pl ru sl bg kn rm ol od)) 1 6 A := by
  refine vx_ofW (cc := cX5_compare) (maxL := 3) (ret := some .int) (by decide) rfl ?_
  intro p e s m args below meth c s₁ B hml hexc hv
  obtain ⟨hav, hI, hT⟩ := hv
  have hx := B.exec
  have hb := B.bytes
  have hr := B.returns
  have hts := atoms_spec (ws := wsX5_compare) B.pre
  have hown : s.vm.findClass RX5 = some m.cls := findClass_of_methodNamed B.named
  have hlocks := B.notSynchronized
  have X := XW.of hI
  refine xe_in hav (Nat.le_of_ble_eq_true rfl) rfl (fun ls hl => ?_)
  rw [fX5_compare] at hf
  refine lv_aload_n hx hb dX5_compare_0 rfl (lv_at hl 0 rfl) ?_
  refine lv_iload_n hx hb dX5_compare_1 rfl (lv_at hl 1 rfl) ?_
  refine xb hf (fun v1 hv1 hf => ?_)
  refine exb_c hf (fun e9 h9 hf => ?_) (fun r2 h9 hf => ?_)
  · cases hf
    exact xt_V (rest := []) ⟨hx, hb, hml, hown, hts⟩ (eX5_textOf htr (exo_s hv1 h9)) (cwV 1 hts gX5_compare_X5_textOf rfl rfl rfl hqX5_textOf ⟨Nat.le_of_ble_eq_true rfl, Nat.le_of_ble_eq_true rfl⟩) X hT (va_recv X.1 X.2.1 (ci := 1) (q0 := 14) rfl wlC_14) rfl hl.1 rfl (Nat.le_of_ble_eq_true rfl) dX5_compare_2 ⟨Nat.le_of_ble_eq_true rfl, Nat.le_of_ble_eq_true rfl⟩ hexc hlocks
  · have hr2 : r2 < 7 := fX5_textOf_lt (exo_s hv1 h9)
    refine xc_V1 (rest := []) ⟨hx, hb, hml, hown, hts⟩ (mX5_textOf (exo_s hv1 h9)) (cwV 1 hts gX5_compare_X5_textOf rfl rfl rfl hqX5_textOf ⟨Nat.le_of_ble_eq_true rfl, Nat.le_of_ble_eq_true rfl⟩) X (va_recv X.1 X.2.1 (ci := 1) (q0 := 14) rfl wlC_14) rfl hl.1 rfl (Nat.le_of_ble_eq_true rfl) dX5_compare_2 ⟨Nat.zero_le _, Nat.zero_le _⟩ (fun H locs X => ?_)
    refine lv_aload_n hx hb dX5_compare_5 rfl (lv_at hl 0 rfl) ?_
    refine lv_iload_n hx hb dX5_compare_6 rfl (lv_at hl 2 rfl) ?_
    refine xb hf (fun v3 hv3 hf => ?_)
    refine exb_c hf (fun e9 h9 hf => ?_) (fun r4 h9 hf => ?_)
    · cases hf
      exact xt_V (rest := [.ref (ad r2)]) ⟨hx, hb, hml, hown, hts⟩ (eX5_textOf htr (exo_s hv3 h9)) (cwV 1 hts gX5_compare_X5_textOf rfl rfl rfl hqX5_textOf ⟨Nat.le_of_ble_eq_true rfl, Nat.le_of_ble_eq_true rfl⟩) X hT (va_recv X.1 X.2.1 (ci := 1) (q0 := 14) rfl wlC_14) rfl hl.1 rfl (Nat.le_of_ble_eq_true rfl) dX5_compare_7 ⟨Nat.le_of_ble_eq_true rfl, Nat.le_of_ble_eq_true rfl⟩ hexc hlocks
    · have hr4 : r4 < 7 := fX5_textOf_lt (exo_s hv3 h9)
      refine xc_V1 (rest := [.ref (ad r2)]) ⟨hx, hb, hml, hown, hts⟩ (mX5_textOf (exo_s hv3 h9)) (cwV 1 hts gX5_compare_X5_textOf rfl rfl rfl hqX5_textOf ⟨Nat.le_of_ble_eq_true rfl, Nat.le_of_ble_eq_true rfl⟩) X (va_recv X.1 X.2.1 (ci := 1) (q0 := 14) rfl wlC_14) rfl hl.1 rfl (Nat.le_of_ble_eq_true rfl) dX5_compare_7 ⟨Nat.zero_le _, Nat.zero_le _⟩ (fun H locs X => ?_)
      refine xb hf (fun v5 hv hf => ?_)
      refine xc_V1 (rest := []) ⟨hx, hb, hml, hown, hts⟩ (mX4_compareWith hr2 hr4 hv) (cwV 1 hts gX5_compare_X4_compareWith rfl rfl rfl hqX4_compareWith ⟨Nat.le_of_ble_eq_true rfl, Nat.le_of_ble_eq_true rfl⟩) X (va_recv X.1 X.2.1 (ci := 0) (q0 := r2) rfl (wlC_t hr2)) rfl hl.1 rfl (Nat.le_of_ble_eq_true rfl) dX5_compare_10 ⟨Nat.zero_le _, Nat.zero_le _⟩ (fun H locs X => ?_)
      cases hf
set_option maxRecDepth 100000 in
set_option maxHeartbeats 4000000 in
theorem mX5_common {l : Launch} {dd : va_G} {cy : Nat → ClassId} {ad : Nat → Nat} {A : Nat → Prop} {fu : Nat} {ts : Nat → Int32} {tc : Nat → Nat → Int32} {rk : Nat → Int32} {pl : Nat → Int32} {ru : Nat → Int64} {sl : Nat → Int32} {bg : Nat → Int32} {kn : Nat → Int64} {rm : Int32} {ol : Nat → Int64} {od : Nat → UInt64} {x1 : Int32} {x2 : Int32} {rv : Int32} (hf : fX5_common fu ts tc x1 x2 = some (.ok rv)) : Met l yX5_common wsX5_common { frames := 2, cells := 0, slots := 0, locals := 57 } (va_Pc [.ref (ad 14), .int x1, .int x2] (IW dd cy A (wlC ad cy ts tc rk pl ru sl bg kn rm ol od))) (QX dd cy A (some (.int rv)) (wlC ad cy ts tc rk pl ru sl bg kn rm ol od)) 0 0 A := by
  refine Met.ofW (cc := cX5_common) (maxL := 3) (ret := some .int) (by decide) rfl ?_
  intro p e s m args below meth c s₁ B hml hv
  obtain ⟨hav, hI⟩ := hv
  have hx := B.exec
  have hb := B.bytes
  have hr := B.returns
  have hts := atoms_spec (ws := wsX5_common) B.pre
  have hown : s.vm.findClass RX5 = some m.cls := findClass_of_methodNamed B.named
  have hlocks := B.notSynchronized
  have X := XW.of hI
  refine xe_in hav (Nat.le_of_ble_eq_true rfl) rfl (fun ls hl => ?_)
  rw [fX5_common] at hf
  refine lv_aload_n hx hb dX5_common_0 rfl (lv_at hl 0 rfl) ?_
  refine lv_iload_n hx hb dX5_common_1 rfl (lv_at hl 1 rfl) ?_
  refine xb hf (fun v1 hv1 hf => ?_)
  refine exb_c hf (fun e9 h9 hf => ?_) (fun r2 h9 hf => ?_)
  · cases hf
  · have hr2 : r2 < 7 := fX5_textOf_lt (exo_s hv1 h9)
    refine xc_V1 (rest := []) ⟨hx, hb, hml, hown, hts⟩ (mX5_textOf (exo_s hv1 h9)) (cwV 1 hts gX5_common_X5_textOf rfl rfl rfl hqX5_textOf ⟨Nat.le_of_ble_eq_true rfl, Nat.le_of_ble_eq_true rfl⟩) X (va_recv X.1 X.2.1 (ci := 1) (q0 := 14) rfl wlC_14) rfl hl.1 rfl (Nat.le_of_ble_eq_true rfl) dX5_common_2 ⟨Nat.zero_le _, Nat.zero_le _⟩ (fun H locs X => ?_)
    refine lv_iconst (v := (0 : Int32)) hx hb dX5_common_5 rfl ?_
    refine lv_aload_n hx hb dX5_common_6 rfl (lv_at hl 0 rfl) ?_
    refine lv_iload_n hx hb dX5_common_7 rfl (lv_at hl 2 rfl) ?_
    refine xb hf (fun v3 hv3 hf => ?_)
    refine exb_c hf (fun e9 h9 hf => ?_) (fun r4 h9 hf => ?_)
    · cases hf
    · have hr4 : r4 < 7 := fX5_textOf_lt (exo_s hv3 h9)
      refine xc_V1 (rest := [.int (0 : Int32), .ref (ad r2)]) ⟨hx, hb, hml, hown, hts⟩ (mX5_textOf (exo_s hv3 h9)) (cwV 1 hts gX5_common_X5_textOf rfl rfl rfl hqX5_textOf ⟨Nat.le_of_ble_eq_true rfl, Nat.le_of_ble_eq_true rfl⟩) X (va_recv X.1 X.2.1 (ci := 1) (q0 := 14) rfl wlC_14) rfl hl.1 rfl (Nat.le_of_ble_eq_true rfl) dX5_common_8 ⟨Nat.zero_le _, Nat.zero_le _⟩ (fun H locs X => ?_)
      refine lv_iconst (v := (0 : Int32)) hx hb dX5_common_11 rfl ?_
      refine xb hf (fun v5 hv hf => ?_)
      refine xc_V1 (rest := []) ⟨hx, hb, hml, hown, hts⟩ (mX4_alike hr2 hr4 hv) (cwV 3 hts gX5_common_X4_alike rfl rfl rfl hqX4_alike ⟨Nat.le_of_ble_eq_true rfl, Nat.le_of_ble_eq_true rfl⟩) X (va_recv X.1 X.2.1 (ci := 0) (q0 := r2) rfl (wlC_t hr2)) rfl hl.1 rfl (Nat.le_of_ble_eq_true rfl) dX5_common_12 ⟨Nat.zero_le _, Nat.zero_le _⟩ (fun H locs X => ?_)
      cases hf
      exact xe_i hx hb hr hlocks X dX5_common_15
set_option maxRecDepth 100000 in
set_option maxHeartbeats 4000000 in
theorem eX5_common {l : Launch} {dd : va_G} {cy : Nat → ClassId} {ad : Nat → Nat} {A : Nat → Prop} {fu : Nat} {ts : Nat → Int32} {tc : Nat → Nat → Int32} {rk : Nat → Int32} {pl : Nat → Int32} {ru : Nat → Int64} {sl : Nat → Int32} {bg : Nat → Int32} {kn : Nat → Int64} {rm : Int32} {ol : Nat → Int64} {od : Nat → UInt64} {x1 : Int32} {x2 : Int32} {E9 : String} (htr : l.stackTraces = false) (hf : fX5_common fu ts tc x1 x2 = some (.error E9)) : vx_Met l yX5_common wsX5_common { frames := 7, cells := 1, slots := 6, locals := 121 } (va_Pc [.ref (ad 14), .int x1, .int x2] (IT dd cy A (wlC ad cy ts tc rk pl ru sl bg kn rm ol od))) (fun _ _ _ _ => False) (XE dd cy A E9 (wlC ad cy ts tc rk pl ru sl bg kn rm ol od)) 1 6 A := by
  refine vx_ofW (cc := cX5_common) (maxL := 3) (ret := some .int) (by decide) rfl ?_
  intro p e s m args below meth c s₁ B hml hexc hv
  obtain ⟨hav, hI, hT⟩ := hv
  have hx := B.exec
  have hb := B.bytes
  have hr := B.returns
  have hts := atoms_spec (ws := wsX5_common) B.pre
  have hown : s.vm.findClass RX5 = some m.cls := findClass_of_methodNamed B.named
  have hlocks := B.notSynchronized
  have X := XW.of hI
  refine xe_in hav (Nat.le_of_ble_eq_true rfl) rfl (fun ls hl => ?_)
  rw [fX5_common] at hf
  refine lv_aload_n hx hb dX5_common_0 rfl (lv_at hl 0 rfl) ?_
  refine lv_iload_n hx hb dX5_common_1 rfl (lv_at hl 1 rfl) ?_
  refine xb hf (fun v1 hv1 hf => ?_)
  refine exb_c hf (fun e9 h9 hf => ?_) (fun r2 h9 hf => ?_)
  · cases hf
    exact xt_V (rest := []) ⟨hx, hb, hml, hown, hts⟩ (eX5_textOf htr (exo_s hv1 h9)) (cwV 1 hts gX5_common_X5_textOf rfl rfl rfl hqX5_textOf ⟨Nat.le_of_ble_eq_true rfl, Nat.le_of_ble_eq_true rfl⟩) X hT (va_recv X.1 X.2.1 (ci := 1) (q0 := 14) rfl wlC_14) rfl hl.1 rfl (Nat.le_of_ble_eq_true rfl) dX5_common_2 ⟨Nat.le_of_ble_eq_true rfl, Nat.le_of_ble_eq_true rfl⟩ hexc hlocks
  · have hr2 : r2 < 7 := fX5_textOf_lt (exo_s hv1 h9)
    refine xc_V1 (rest := []) ⟨hx, hb, hml, hown, hts⟩ (mX5_textOf (exo_s hv1 h9)) (cwV 1 hts gX5_common_X5_textOf rfl rfl rfl hqX5_textOf ⟨Nat.le_of_ble_eq_true rfl, Nat.le_of_ble_eq_true rfl⟩) X (va_recv X.1 X.2.1 (ci := 1) (q0 := 14) rfl wlC_14) rfl hl.1 rfl (Nat.le_of_ble_eq_true rfl) dX5_common_2 ⟨Nat.zero_le _, Nat.zero_le _⟩ (fun H locs X => ?_)
    refine lv_iconst (v := (0 : Int32)) hx hb dX5_common_5 rfl ?_
    refine lv_aload_n hx hb dX5_common_6 rfl (lv_at hl 0 rfl) ?_
    refine lv_iload_n hx hb dX5_common_7 rfl (lv_at hl 2 rfl) ?_
    refine xb hf (fun v3 hv3 hf => ?_)
    refine exb_c hf (fun e9 h9 hf => ?_) (fun r4 h9 hf => ?_)
    · cases hf
      exact xt_V (rest := [.int (0 : Int32), .ref (ad r2)]) ⟨hx, hb, hml, hown, hts⟩ (eX5_textOf htr (exo_s hv3 h9)) (cwV 1 hts gX5_common_X5_textOf rfl rfl rfl hqX5_textOf ⟨Nat.le_of_ble_eq_true rfl, Nat.le_of_ble_eq_true rfl⟩) X hT (va_recv X.1 X.2.1 (ci := 1) (q0 := 14) rfl wlC_14) rfl hl.1 rfl (Nat.le_of_ble_eq_true rfl) dX5_common_8 ⟨Nat.le_of_ble_eq_true rfl, Nat.le_of_ble_eq_true rfl⟩ hexc hlocks
    · have hr4 : r4 < 7 := fX5_textOf_lt (exo_s hv3 h9)
      refine xc_V1 (rest := [.int (0 : Int32), .ref (ad r2)]) ⟨hx, hb, hml, hown, hts⟩ (mX5_textOf (exo_s hv3 h9)) (cwV 1 hts gX5_common_X5_textOf rfl rfl rfl hqX5_textOf ⟨Nat.le_of_ble_eq_true rfl, Nat.le_of_ble_eq_true rfl⟩) X (va_recv X.1 X.2.1 (ci := 1) (q0 := 14) rfl wlC_14) rfl hl.1 rfl (Nat.le_of_ble_eq_true rfl) dX5_common_8 ⟨Nat.zero_le _, Nat.zero_le _⟩ (fun H locs X => ?_)
      refine lv_iconst (v := (0 : Int32)) hx hb dX5_common_11 rfl ?_
      refine xb hf (fun v5 hv hf => ?_)
      refine xc_V1 (rest := []) ⟨hx, hb, hml, hown, hts⟩ (mX4_alike hr2 hr4 hv) (cwV 3 hts gX5_common_X4_alike rfl rfl rfl hqX4_alike ⟨Nat.le_of_ble_eq_true rfl, Nat.le_of_ble_eq_true rfl⟩) X (va_recv X.1 X.2.1 (ci := 0) (q0 := r2) rfl (wlC_t hr2)) rfl hl.1 rfl (Nat.le_of_ble_eq_true rfl) dX5_common_12 ⟨Nat.zero_le _, Nat.zero_le _⟩ (fun H locs X => ?_)
      cases hf
set_option maxRecDepth 100000 in
set_option maxHeartbeats 4000000 in
theorem mX5_commonEnd {l : Launch} {dd : va_G} {cy : Nat → ClassId} {ad : Nat → Nat} {A : Nat → Prop} {fu : Nat} {ts : Nat → Int32} {tc : Nat → Nat → Int32} {rk : Nat → Int32} {pl : Nat → Int32} {ru : Nat → Int64} {sl : Nat → Int32} {bg : Nat → Int32} {kn : Nat → Int64} {rm : Int32} {ol : Nat → Int64} {od : Nat → UInt64} {x1 : Int32} {x2 : Int32} {rv : Int32} (hf : fX5_commonEnd fu ts tc x1 x2 = some (.ok rv)) : Met l yX5_commonEnd wsX5_commonEnd { frames := 2, cells := 0, slots := 0, locals := 55 } (va_Pc [.ref (ad 14), .int x1, .int x2] (IW dd cy A (wlC ad cy ts tc rk pl ru sl bg kn rm ol od))) (QX dd cy A (some (.int rv)) (wlC ad cy ts tc rk pl ru sl bg kn rm ol od)) 0 0 A := by
  refine Met.ofW (cc := cX5_commonEnd) (maxL := 3) (ret := some .int) (by decide) rfl ?_
  intro p e s m args below meth c s₁ B hml hv
  obtain ⟨hav, hI⟩ := hv
  have hx := B.exec
  have hb := B.bytes
  have hr := B.returns
  have hts := atoms_spec (ws := wsX5_commonEnd) B.pre
  have hown : s.vm.findClass RX5 = some m.cls := findClass_of_methodNamed B.named
  have hlocks := B.notSynchronized
  have X := XW.of hI
  refine xe_in hav (Nat.le_of_ble_eq_true rfl) rfl (fun ls hl => ?_)
  rw [fX5_commonEnd] at hf
  refine lv_aload_n hx hb dX5_commonEnd_0 rfl (lv_at hl 0 rfl) ?_
  refine lv_iload_n hx hb dX5_commonEnd_1 rfl (lv_at hl 1 rfl) ?_
  refine xb hf (fun v1 hv1 hf => ?_)
  refine exb_c hf (fun e9 h9 hf => ?_) (fun r2 h9 hf => ?_)
  · cases hf
  · have hr2 : r2 < 7 := fX5_textOf_lt (exo_s hv1 h9)
    refine xc_V1 (rest := []) ⟨hx, hb, hml, hown, hts⟩ (mX5_textOf (exo_s hv1 h9)) (cwV 1 hts gX5_commonEnd_X5_textOf rfl rfl rfl hqX5_textOf ⟨Nat.le_of_ble_eq_true rfl, Nat.le_of_ble_eq_true rfl⟩) X (va_recv X.1 X.2.1 (ci := 1) (q0 := 14) rfl wlC_14) rfl hl.1 rfl (Nat.le_of_ble_eq_true rfl) dX5_commonEnd_2 ⟨Nat.zero_le _, Nat.zero_le _⟩ (fun H locs X => ?_)
    refine lv_aload_n hx hb dX5_commonEnd_5 rfl (lv_at hl 0 rfl) ?_
    refine lv_iload_n hx hb dX5_commonEnd_6 rfl (lv_at hl 2 rfl) ?_
    refine xb hf (fun v3 hv3 hf => ?_)
    refine exb_c hf (fun e9 h9 hf => ?_) (fun r4 h9 hf => ?_)
    · cases hf
    · have hr4 : r4 < 7 := fX5_textOf_lt (exo_s hv3 h9)
      refine xc_V1 (rest := [.ref (ad r2)]) ⟨hx, hb, hml, hown, hts⟩ (mX5_textOf (exo_s hv3 h9)) (cwV 1 hts gX5_commonEnd_X5_textOf rfl rfl rfl hqX5_textOf ⟨Nat.le_of_ble_eq_true rfl, Nat.le_of_ble_eq_true rfl⟩) X (va_recv X.1 X.2.1 (ci := 1) (q0 := 14) rfl wlC_14) rfl hl.1 rfl (Nat.le_of_ble_eq_true rfl) dX5_commonEnd_7 ⟨Nat.zero_le _, Nat.zero_le _⟩ (fun H locs X => ?_)
      refine xb hf (fun v5 hv hf => ?_)
      refine xc_V1 (rest := []) ⟨hx, hb, hml, hown, hts⟩ (mX4_alikeAtEnd hr2 hr4 hv) (cwV 1 hts gX5_commonEnd_X4_alikeAtEnd rfl rfl rfl hqX4_alikeAtEnd ⟨Nat.le_of_ble_eq_true rfl, Nat.le_of_ble_eq_true rfl⟩) X (va_recv X.1 X.2.1 (ci := 0) (q0 := r2) rfl (wlC_t hr2)) rfl hl.1 rfl (Nat.le_of_ble_eq_true rfl) dX5_commonEnd_10 ⟨Nat.zero_le _, Nat.zero_le _⟩ (fun H locs X => ?_)
      cases hf
      exact xe_i hx hb hr hlocks X dX5_commonEnd_13
set_option maxRecDepth 100000 in
set_option maxHeartbeats 4000000 in
theorem eX5_commonEnd {l : Launch} {dd : va_G} {cy : Nat → ClassId} {ad : Nat → Nat} {A : Nat → Prop} {fu : Nat} {ts : Nat → Int32} {tc : Nat → Nat → Int32} {rk : Nat → Int32} {pl : Nat → Int32} {ru : Nat → Int64} {sl : Nat → Int32} {bg : Nat → Int32} {kn : Nat → Int64} {rm : Int32} {ol : Nat → Int64} {od : Nat → UInt64} {x1 : Int32} {x2 : Int32} {E9 : String} (htr : l.stackTraces = false) (hf : fX5_commonEnd fu ts tc x1 x2 = some (.error E9)) : vx_Met l yX5_commonEnd wsX5_commonEnd { frames := 7, cells := 1, slots := 6, locals := 121 } (va_Pc [.ref (ad 14), .int x1, .int x2] (IT dd cy A (wlC ad cy ts tc rk pl ru sl bg kn rm ol od))) (fun _ _ _ _ => False) (XE dd cy A E9 (wlC ad cy ts tc rk pl ru sl bg kn rm ol od)) 1 6 A := by
  refine vx_ofW (cc := cX5_commonEnd) (maxL := 3) (ret := some .int) (by decide) rfl ?_
  intro p e s m args below meth c s₁ B hml hexc hv
  obtain ⟨hav, hI, hT⟩ := hv
  have hx := B.exec
  have hb := B.bytes
  have hr := B.returns
  have hts := atoms_spec (ws := wsX5_commonEnd) B.pre
  have hown : s.vm.findClass RX5 = some m.cls := findClass_of_methodNamed B.named
  have hlocks := B.notSynchronized
  have X := XW.of hI
  refine xe_in hav (Nat.le_of_ble_eq_true rfl) rfl (fun ls hl => ?_)
  rw [fX5_commonEnd] at hf
  refine lv_aload_n hx hb dX5_commonEnd_0 rfl (lv_at hl 0 rfl) ?_
  refine lv_iload_n hx hb dX5_commonEnd_1 rfl (lv_at hl 1 rfl) ?_
  refine xb hf (fun v1 hv1 hf => ?_)
  refine exb_c hf (fun e9 h9 hf => ?_) (fun r2 h9 hf => ?_)
  · cases hf
    exact xt_V (rest := []) ⟨hx, hb, hml, hown, hts⟩ (eX5_textOf htr (exo_s hv1 h9)) (cwV 1 hts gX5_commonEnd_X5_textOf rfl rfl rfl hqX5_textOf ⟨Nat.le_of_ble_eq_true rfl, Nat.le_of_ble_eq_true rfl⟩) X hT (va_recv X.1 X.2.1 (ci := 1) (q0 := 14) rfl wlC_14) rfl hl.1 rfl (Nat.le_of_ble_eq_true rfl) dX5_commonEnd_2 ⟨Nat.le_of_ble_eq_true rfl, Nat.le_of_ble_eq_true rfl⟩ hexc hlocks
  · have hr2 : r2 < 7 := fX5_textOf_lt (exo_s hv1 h9)
    refine xc_V1 (rest := []) ⟨hx, hb, hml, hown, hts⟩ (mX5_textOf (exo_s hv1 h9)) (cwV 1 hts gX5_commonEnd_X5_textOf rfl rfl rfl hqX5_textOf ⟨Nat.le_of_ble_eq_true rfl, Nat.le_of_ble_eq_true rfl⟩) X (va_recv X.1 X.2.1 (ci := 1) (q0 := 14) rfl wlC_14) rfl hl.1 rfl (Nat.le_of_ble_eq_true rfl) dX5_commonEnd_2 ⟨Nat.zero_le _, Nat.zero_le _⟩ (fun H locs X => ?_)
    refine lv_aload_n hx hb dX5_commonEnd_5 rfl (lv_at hl 0 rfl) ?_
    refine lv_iload_n hx hb dX5_commonEnd_6 rfl (lv_at hl 2 rfl) ?_
    refine xb hf (fun v3 hv3 hf => ?_)
    refine exb_c hf (fun e9 h9 hf => ?_) (fun r4 h9 hf => ?_)
    · cases hf
      exact xt_V (rest := [.ref (ad r2)]) ⟨hx, hb, hml, hown, hts⟩ (eX5_textOf htr (exo_s hv3 h9)) (cwV 1 hts gX5_commonEnd_X5_textOf rfl rfl rfl hqX5_textOf ⟨Nat.le_of_ble_eq_true rfl, Nat.le_of_ble_eq_true rfl⟩) X hT (va_recv X.1 X.2.1 (ci := 1) (q0 := 14) rfl wlC_14) rfl hl.1 rfl (Nat.le_of_ble_eq_true rfl) dX5_commonEnd_7 ⟨Nat.le_of_ble_eq_true rfl, Nat.le_of_ble_eq_true rfl⟩ hexc hlocks
    · have hr4 : r4 < 7 := fX5_textOf_lt (exo_s hv3 h9)
      refine xc_V1 (rest := [.ref (ad r2)]) ⟨hx, hb, hml, hown, hts⟩ (mX5_textOf (exo_s hv3 h9)) (cwV 1 hts gX5_commonEnd_X5_textOf rfl rfl rfl hqX5_textOf ⟨Nat.le_of_ble_eq_true rfl, Nat.le_of_ble_eq_true rfl⟩) X (va_recv X.1 X.2.1 (ci := 1) (q0 := 14) rfl wlC_14) rfl hl.1 rfl (Nat.le_of_ble_eq_true rfl) dX5_commonEnd_7 ⟨Nat.zero_le _, Nat.zero_le _⟩ (fun H locs X => ?_)
      refine xb hf (fun v5 hv hf => ?_)
      refine xc_V1 (rest := []) ⟨hx, hb, hml, hown, hts⟩ (mX4_alikeAtEnd hr2 hr4 hv) (cwV 1 hts gX5_commonEnd_X4_alikeAtEnd rfl rfl rfl hqX4_alikeAtEnd ⟨Nat.le_of_ble_eq_true rfl, Nat.le_of_ble_eq_true rfl⟩) X (va_recv X.1 X.2.1 (ci := 0) (q0 := r2) rfl (wlC_t hr2)) rfl hl.1 rfl (Nat.le_of_ble_eq_true rfl) dX5_commonEnd_10 ⟨Nat.zero_le _, Nat.zero_le _⟩ (fun H locs X => ?_)
      cases hf
set_option maxRecDepth 100000 in
set_option maxHeartbeats 4000000 in
theorem mX5_hash {l : Launch} {dd : va_G} {cy : Nat → ClassId} {ad : Nat → Nat} {A : Nat → Prop} {fu : Nat} {ts : Nat → Int32} {tc : Nat → Nat → Int32} {rk : Nat → Int32} {pl : Nat → Int32} {ru : Nat → Int64} {sl : Nat → Int32} {bg : Nat → Int32} {kn : Nat → Int64} {rm : Int32} {ol : Nat → Int64} {od : Nat → UInt64} {x1 : Int32} {rv : Int32} (hf : fX5_hash fu ts tc x1 = some (.ok rv)) : Met l yX5_hash wsX5_hash { frames := 2, cells := 0, slots := 0, locals := 44 } (va_Pc [.ref (ad 14), .int x1] (IW dd cy A (wlC ad cy ts tc rk pl ru sl bg kn rm ol od))) (QX dd cy A (some (.int rv)) (wlC ad cy ts tc rk pl ru sl bg kn rm ol od)) 0 0 A := by
  refine Met.ofW (cc := cX5_hash) (maxL := 2) (ret := some .int) (by decide) rfl ?_
  intro p e s m args below meth c s₁ B hml hv
  obtain ⟨hav, hI⟩ := hv
  have hx := B.exec
  have hb := B.bytes
  have hr := B.returns
  have hts := atoms_spec (ws := wsX5_hash) B.pre
  have hown : s.vm.findClass RX5 = some m.cls := findClass_of_methodNamed B.named
  have hlocks := B.notSynchronized
  have X := XW.of hI
  refine xe_in hav (Nat.le_of_ble_eq_true rfl) rfl (fun ls hl => ?_)
  rw [fX5_hash] at hf
  refine lv_aload_n hx hb dX5_hash_0 rfl (lv_at hl 0 rfl) ?_
  refine lv_iload_n hx hb dX5_hash_1 rfl (lv_at hl 1 rfl) ?_
  refine xb hf (fun v1 hv1 hf => ?_)
  refine exb_c hf (fun e9 h9 hf => ?_) (fun r2 h9 hf => ?_)
  · cases hf
  · have hr2 : r2 < 7 := fX5_textOf_lt (exo_s hv1 h9)
    refine xc_V1 (rest := []) ⟨hx, hb, hml, hown, hts⟩ (mX5_textOf (exo_s hv1 h9)) (cwV 1 hts gX5_hash_X5_textOf rfl rfl rfl hqX5_textOf ⟨Nat.le_of_ble_eq_true rfl, Nat.le_of_ble_eq_true rfl⟩) X (va_recv X.1 X.2.1 (ci := 1) (q0 := 14) rfl wlC_14) rfl hl.1 rfl (Nat.le_of_ble_eq_true rfl) dX5_hash_2 ⟨Nat.zero_le _, Nat.zero_le _⟩ (fun H locs X => ?_)
    refine lv_iconst (v := (0 : Int32)) hx hb dX5_hash_5 rfl ?_
    refine xb hf (fun v3 hv hf => ?_)
    refine xc_V1 (rest := []) ⟨hx, hb, hml, hown, hts⟩ (mX4_hashFrom hr2 hv) (cwV 1 hts gX5_hash_X4_hashFrom rfl rfl rfl hqX4_hashFrom ⟨Nat.le_of_ble_eq_true rfl, Nat.le_of_ble_eq_true rfl⟩) X (va_recv X.1 X.2.1 (ci := 0) (q0 := r2) rfl (wlC_t hr2)) rfl hl.1 rfl (Nat.le_of_ble_eq_true rfl) dX5_hash_6 ⟨Nat.zero_le _, Nat.zero_le _⟩ (fun H locs X => ?_)
    cases hf
    exact xe_i hx hb hr hlocks X dX5_hash_9
set_option maxRecDepth 100000 in
set_option maxHeartbeats 4000000 in
theorem eX5_hash {l : Launch} {dd : va_G} {cy : Nat → ClassId} {ad : Nat → Nat} {A : Nat → Prop} {fu : Nat} {ts : Nat → Int32} {tc : Nat → Nat → Int32} {rk : Nat → Int32} {pl : Nat → Int32} {ru : Nat → Int64} {sl : Nat → Int32} {bg : Nat → Int32} {kn : Nat → Int64} {rm : Int32} {ol : Nat → Int64} {od : Nat → UInt64} {x1 : Int32} {E9 : String} (htr : l.stackTraces = false) (hf : fX5_hash fu ts tc x1 = some (.error E9)) : vx_Met l yX5_hash wsX5_hash { frames := 7, cells := 1, slots := 6, locals := 121 } (va_Pc [.ref (ad 14), .int x1] (IT dd cy A (wlC ad cy ts tc rk pl ru sl bg kn rm ol od))) (fun _ _ _ _ => False) (XE dd cy A E9 (wlC ad cy ts tc rk pl ru sl bg kn rm ol od)) 1 6 A := by
  refine vx_ofW (cc := cX5_hash) (maxL := 2) (ret := some .int) (by decide) rfl ?_
  intro p e s m args below meth c s₁ B hml hexc hv
  obtain ⟨hav, hI, hT⟩ := hv
  have hx := B.exec
  have hb := B.bytes
  have hr := B.returns
  have hts := atoms_spec (ws := wsX5_hash) B.pre
  have hown : s.vm.findClass RX5 = some m.cls := findClass_of_methodNamed B.named
  have hlocks := B.notSynchronized
  have X := XW.of hI
  refine xe_in hav (Nat.le_of_ble_eq_true rfl) rfl (fun ls hl => ?_)
  rw [fX5_hash] at hf
  refine lv_aload_n hx hb dX5_hash_0 rfl (lv_at hl 0 rfl) ?_
  refine lv_iload_n hx hb dX5_hash_1 rfl (lv_at hl 1 rfl) ?_
  refine xb hf (fun v1 hv1 hf => ?_)
  refine exb_c hf (fun e9 h9 hf => ?_) (fun r2 h9 hf => ?_)
  · cases hf
    exact xt_V (rest := []) ⟨hx, hb, hml, hown, hts⟩ (eX5_textOf htr (exo_s hv1 h9)) (cwV 1 hts gX5_hash_X5_textOf rfl rfl rfl hqX5_textOf ⟨Nat.le_of_ble_eq_true rfl, Nat.le_of_ble_eq_true rfl⟩) X hT (va_recv X.1 X.2.1 (ci := 1) (q0 := 14) rfl wlC_14) rfl hl.1 rfl (Nat.le_of_ble_eq_true rfl) dX5_hash_2 ⟨Nat.le_of_ble_eq_true rfl, Nat.le_of_ble_eq_true rfl⟩ hexc hlocks
  · have hr2 : r2 < 7 := fX5_textOf_lt (exo_s hv1 h9)
    refine xc_V1 (rest := []) ⟨hx, hb, hml, hown, hts⟩ (mX5_textOf (exo_s hv1 h9)) (cwV 1 hts gX5_hash_X5_textOf rfl rfl rfl hqX5_textOf ⟨Nat.le_of_ble_eq_true rfl, Nat.le_of_ble_eq_true rfl⟩) X (va_recv X.1 X.2.1 (ci := 1) (q0 := 14) rfl wlC_14) rfl hl.1 rfl (Nat.le_of_ble_eq_true rfl) dX5_hash_2 ⟨Nat.zero_le _, Nat.zero_le _⟩ (fun H locs X => ?_)
    refine lv_iconst (v := (0 : Int32)) hx hb dX5_hash_5 rfl ?_
    refine xb hf (fun v3 hv hf => ?_)
    refine xc_V1 (rest := []) ⟨hx, hb, hml, hown, hts⟩ (mX4_hashFrom hr2 hv) (cwV 1 hts gX5_hash_X4_hashFrom rfl rfl rfl hqX4_hashFrom ⟨Nat.le_of_ble_eq_true rfl, Nat.le_of_ble_eq_true rfl⟩) X (va_recv X.1 X.2.1 (ci := 0) (q0 := r2) rfl (wlC_t hr2)) rfl hl.1 rfl (Nat.le_of_ble_eq_true rfl) dX5_hash_6 ⟨Nat.zero_le _, Nat.zero_le _⟩ (fun H locs X => ?_)
    cases hf
set_option maxRecDepth 100000 in
set_option maxHeartbeats 4000000 in
theorem mX5_hashJoined {l : Launch} {dd : va_G} {cy : Nat → ClassId} {ad : Nat → Nat} {A : Nat → Prop} {fu : Nat} {ts : Nat → Int32} {tc : Nat → Nat → Int32} {rk : Nat → Int32} {pl : Nat → Int32} {ru : Nat → Int64} {sl : Nat → Int32} {bg : Nat → Int32} {kn : Nat → Int64} {rm : Int32} {ol : Nat → Int64} {od : Nat → UInt64} {x1 : Int32} {x2 : Int32} {rv : Int32} (hf : fX5_hashJoined fu ts tc x1 x2 = some (.ok rv)) : Met l yX5_hashJoined wsX5_hashJoined { frames := 2, cells := 0, slots := 0, locals := 44 } (va_Pc [.ref (ad 14), .int x1, .int x2] (IW dd cy A (wlC ad cy ts tc rk pl ru sl bg kn rm ol od))) (QX dd cy A (some (.int rv)) (wlC ad cy ts tc rk pl ru sl bg kn rm ol od)) 0 0 A := by
  refine Met.ofW (cc := cX5_hashJoined) (maxL := 5) (ret := some .int) (by decide) rfl ?_
  intro p e s m args below meth c s₁ B hml hv
  obtain ⟨hav, hI⟩ := hv
  have hx := B.exec
  have hb := B.bytes
  have hr := B.returns
  have hts := atoms_spec (ws := wsX5_hashJoined) B.pre
  have hown : s.vm.findClass RX5 = some m.cls := findClass_of_methodNamed B.named
  have hlocks := B.notSynchronized
  have X := XW.of hI
  refine xe_in hav (Nat.le_of_ble_eq_true rfl) rfl (fun ls hl => ?_)
  rw [fX5_hashJoined] at hf
  refine lv_aload_n hx hb dX5_hashJoined_0 rfl (lv_at hl 0 rfl) ?_
  refine lv_iload_n hx hb dX5_hashJoined_1 rfl (lv_at hl 1 rfl) ?_
  refine xb hf (fun v1 hv1 hf => ?_)
  refine exb_c hf (fun e9 h9 hf => ?_) (fun r2 h9 hf => ?_)
  · cases hf
  · have hr2 : r2 < 7 := fX5_textOf_lt (exo_s hv1 h9)
    refine xc_V1 (rest := []) ⟨hx, hb, hml, hown, hts⟩ (mX5_textOf (exo_s hv1 h9)) (cwV 1 hts gX5_hashJoined_X5_textOf rfl rfl rfl hqX5_textOf ⟨Nat.le_of_ble_eq_true rfl, Nat.le_of_ble_eq_true rfl⟩) X (va_recv X.1 X.2.1 (ci := 1) (q0 := 14) rfl wlC_14) rfl hl.1 rfl (Nat.le_of_ble_eq_true rfl) dX5_hashJoined_2 ⟨Nat.zero_le _, Nat.zero_le _⟩ (fun H locs X => ?_)
    refine lv_astore_n (lv' := [(3, .ref (ad r2)), (0, .ref (ad 14)), (1, .int x1), (2, .int x2)]) hx hb dX5_hashJoined_5 rfl hl (by decide) rfl (fun ls hl => ?_)
    refine lv_aload_n hx hb dX5_hashJoined_6 rfl (lv_at hl 1 rfl) ?_
    refine lv_iload_n hx hb dX5_hashJoined_7 rfl (lv_at hl 3 rfl) ?_
    refine xb hf (fun v3 hv3 hf => ?_)
    refine exb_c hf (fun e9 h9 hf => ?_) (fun r4 h9 hf => ?_)
    · cases hf
    · have hr4 : r4 < 7 := fX5_textOf_lt (exo_s hv3 h9)
      refine xc_V1 (rest := []) ⟨hx, hb, hml, hown, hts⟩ (mX5_textOf (exo_s hv3 h9)) (cwV 1 hts gX5_hashJoined_X5_textOf rfl rfl rfl hqX5_textOf ⟨Nat.le_of_ble_eq_true rfl, Nat.le_of_ble_eq_true rfl⟩) X (va_recv X.1 X.2.1 (ci := 1) (q0 := 14) rfl wlC_14) rfl hl.1 rfl (Nat.le_of_ble_eq_true rfl) dX5_hashJoined_8 ⟨Nat.zero_le _, Nat.zero_le _⟩ (fun H locs X => ?_)
      refine lv_astore (lv' := [(4, .ref (ad r4)), (3, .ref (ad r2)), (0, .ref (ad 14)), (1, .int x1), (2, .int x2)]) hx hb dX5_hashJoined_11 hl (by decide) rfl (fun ls hl => ?_)
      refine lv_aload hx hb dX5_hashJoined_13 (lv_at hl 0 rfl) ?_
      refine lv_aload_n hx hb dX5_hashJoined_15 rfl (lv_at hl 1 rfl) ?_
      refine lv_iconst (v := (0 : Int32)) hx hb dX5_hashJoined_16 rfl ?_
      refine xb hf (fun v5 hv hf => ?_)
      refine xc_V1 (rest := [.ref (ad r4)]) ⟨hx, hb, hml, hown, hts⟩ (mX4_hashFrom hr2 hv) (cwV 1 hts gX5_hashJoined_X4_hashFrom rfl rfl rfl hqX4_hashFrom ⟨Nat.le_of_ble_eq_true rfl, Nat.le_of_ble_eq_true rfl⟩) X (va_recv X.1 X.2.1 (ci := 0) (q0 := r2) rfl (wlC_t hr2)) rfl hl.1 rfl (Nat.le_of_ble_eq_true rfl) dX5_hashJoined_17 ⟨Nat.zero_le _, Nat.zero_le _⟩ (fun H locs X => ?_)
      refine xb hf (fun v6 hv hf => ?_)
      refine xc_V1 (rest := []) ⟨hx, hb, hml, hown, hts⟩ (mX4_hashFrom hr4 hv) (cwV 1 hts gX5_hashJoined_X4_hashFrom rfl rfl rfl hqX4_hashFrom ⟨Nat.le_of_ble_eq_true rfl, Nat.le_of_ble_eq_true rfl⟩) X (va_recv X.1 X.2.1 (ci := 0) (q0 := r4) rfl (wlC_t hr4)) rfl hl.1 rfl (Nat.le_of_ble_eq_true rfl) dX5_hashJoined_20 ⟨Nat.zero_le _, Nat.zero_le _⟩ (fun H locs X => ?_)
      cases hf
      exact xe_i hx hb hr hlocks X dX5_hashJoined_23
set_option maxRecDepth 100000 in
set_option maxHeartbeats 4000000 in
theorem eX5_hashJoined {l : Launch} {dd : va_G} {cy : Nat → ClassId} {ad : Nat → Nat} {A : Nat → Prop} {fu : Nat} {ts : Nat → Int32} {tc : Nat → Nat → Int32} {rk : Nat → Int32} {pl : Nat → Int32} {ru : Nat → Int64} {sl : Nat → Int32} {bg : Nat → Int32} {kn : Nat → Int64} {rm : Int32} {ol : Nat → Int64} {od : Nat → UInt64} {x1 : Int32} {x2 : Int32} {E9 : String} (htr : l.stackTraces = false) (hf : fX5_hashJoined fu ts tc x1 x2 = some (.error E9)) : vx_Met l yX5_hashJoined wsX5_hashJoined { frames := 7, cells := 1, slots := 6, locals := 121 } (va_Pc [.ref (ad 14), .int x1, .int x2] (IT dd cy A (wlC ad cy ts tc rk pl ru sl bg kn rm ol od))) (fun _ _ _ _ => False) (XE dd cy A E9 (wlC ad cy ts tc rk pl ru sl bg kn rm ol od)) 1 6 A := by
  refine vx_ofW (cc := cX5_hashJoined) (maxL := 5) (ret := some .int) (by decide) rfl ?_
  intro p e s m args below meth c s₁ B hml hexc hv
  obtain ⟨hav, hI, hT⟩ := hv
  have hx := B.exec
  have hb := B.bytes
  have hr := B.returns
  have hts := atoms_spec (ws := wsX5_hashJoined) B.pre
  have hown : s.vm.findClass RX5 = some m.cls := findClass_of_methodNamed B.named
  have hlocks := B.notSynchronized
  have X := XW.of hI
  refine xe_in hav (Nat.le_of_ble_eq_true rfl) rfl (fun ls hl => ?_)
  rw [fX5_hashJoined] at hf
  refine lv_aload_n hx hb dX5_hashJoined_0 rfl (lv_at hl 0 rfl) ?_
  refine lv_iload_n hx hb dX5_hashJoined_1 rfl (lv_at hl 1 rfl) ?_
  refine xb hf (fun v1 hv1 hf => ?_)
  refine exb_c hf (fun e9 h9 hf => ?_) (fun r2 h9 hf => ?_)
  · cases hf
    exact xt_V (rest := []) ⟨hx, hb, hml, hown, hts⟩ (eX5_textOf htr (exo_s hv1 h9)) (cwV 1 hts gX5_hashJoined_X5_textOf rfl rfl rfl hqX5_textOf ⟨Nat.le_of_ble_eq_true rfl, Nat.le_of_ble_eq_true rfl⟩) X hT (va_recv X.1 X.2.1 (ci := 1) (q0 := 14) rfl wlC_14) rfl hl.1 rfl (Nat.le_of_ble_eq_true rfl) dX5_hashJoined_2 ⟨Nat.le_of_ble_eq_true rfl, Nat.le_of_ble_eq_true rfl⟩ hexc hlocks
  · have hr2 : r2 < 7 := fX5_textOf_lt (exo_s hv1 h9)
    refine xc_V1 (rest := []) ⟨hx, hb, hml, hown, hts⟩ (mX5_textOf (exo_s hv1 h9)) (cwV 1 hts gX5_hashJoined_X5_textOf rfl rfl rfl hqX5_textOf ⟨Nat.le_of_ble_eq_true rfl, Nat.le_of_ble_eq_true rfl⟩) X (va_recv X.1 X.2.1 (ci := 1) (q0 := 14) rfl wlC_14) rfl hl.1 rfl (Nat.le_of_ble_eq_true rfl) dX5_hashJoined_2 ⟨Nat.zero_le _, Nat.zero_le _⟩ (fun H locs X => ?_)
    refine lv_astore_n (lv' := [(3, .ref (ad r2)), (0, .ref (ad 14)), (1, .int x1), (2, .int x2)]) hx hb dX5_hashJoined_5 rfl hl (by decide) rfl (fun ls hl => ?_)
    refine lv_aload_n hx hb dX5_hashJoined_6 rfl (lv_at hl 1 rfl) ?_
    refine lv_iload_n hx hb dX5_hashJoined_7 rfl (lv_at hl 3 rfl) ?_
    refine xb hf (fun v3 hv3 hf => ?_)
    refine exb_c hf (fun e9 h9 hf => ?_) (fun r4 h9 hf => ?_)
    · cases hf
      exact xt_V (rest := []) ⟨hx, hb, hml, hown, hts⟩ (eX5_textOf htr (exo_s hv3 h9)) (cwV 1 hts gX5_hashJoined_X5_textOf rfl rfl rfl hqX5_textOf ⟨Nat.le_of_ble_eq_true rfl, Nat.le_of_ble_eq_true rfl⟩) X hT (va_recv X.1 X.2.1 (ci := 1) (q0 := 14) rfl wlC_14) rfl hl.1 rfl (Nat.le_of_ble_eq_true rfl) dX5_hashJoined_8 ⟨Nat.le_of_ble_eq_true rfl, Nat.le_of_ble_eq_true rfl⟩ hexc hlocks
    · have hr4 : r4 < 7 := fX5_textOf_lt (exo_s hv3 h9)
      refine xc_V1 (rest := []) ⟨hx, hb, hml, hown, hts⟩ (mX5_textOf (exo_s hv3 h9)) (cwV 1 hts gX5_hashJoined_X5_textOf rfl rfl rfl hqX5_textOf ⟨Nat.le_of_ble_eq_true rfl, Nat.le_of_ble_eq_true rfl⟩) X (va_recv X.1 X.2.1 (ci := 1) (q0 := 14) rfl wlC_14) rfl hl.1 rfl (Nat.le_of_ble_eq_true rfl) dX5_hashJoined_8 ⟨Nat.zero_le _, Nat.zero_le _⟩ (fun H locs X => ?_)
      refine lv_astore (lv' := [(4, .ref (ad r4)), (3, .ref (ad r2)), (0, .ref (ad 14)), (1, .int x1), (2, .int x2)]) hx hb dX5_hashJoined_11 hl (by decide) rfl (fun ls hl => ?_)
      refine lv_aload hx hb dX5_hashJoined_13 (lv_at hl 0 rfl) ?_
      refine lv_aload_n hx hb dX5_hashJoined_15 rfl (lv_at hl 1 rfl) ?_
      refine lv_iconst (v := (0 : Int32)) hx hb dX5_hashJoined_16 rfl ?_
      refine xb hf (fun v5 hv hf => ?_)
      refine xc_V1 (rest := [.ref (ad r4)]) ⟨hx, hb, hml, hown, hts⟩ (mX4_hashFrom hr2 hv) (cwV 1 hts gX5_hashJoined_X4_hashFrom rfl rfl rfl hqX4_hashFrom ⟨Nat.le_of_ble_eq_true rfl, Nat.le_of_ble_eq_true rfl⟩) X (va_recv X.1 X.2.1 (ci := 0) (q0 := r2) rfl (wlC_t hr2)) rfl hl.1 rfl (Nat.le_of_ble_eq_true rfl) dX5_hashJoined_17 ⟨Nat.zero_le _, Nat.zero_le _⟩ (fun H locs X => ?_)
      refine xb hf (fun v6 hv hf => ?_)
      refine xc_V1 (rest := []) ⟨hx, hb, hml, hown, hts⟩ (mX4_hashFrom hr4 hv) (cwV 1 hts gX5_hashJoined_X4_hashFrom rfl rfl rfl hqX4_hashFrom ⟨Nat.le_of_ble_eq_true rfl, Nat.le_of_ble_eq_true rfl⟩) X (va_recv X.1 X.2.1 (ci := 0) (q0 := r4) rfl (wlC_t hr4)) rfl hl.1 rfl (Nat.le_of_ble_eq_true rfl) dX5_hashJoined_20 ⟨Nat.zero_le _, Nat.zero_le _⟩ (fun H locs X => ?_)
      cases hf
set_option maxRecDepth 100000 in
set_option maxHeartbeats 4000000 in
theorem mX5_hashRepeated {l : Launch} {dd : va_G} {cy : Nat → ClassId} {ad : Nat → Nat} {A : Nat → Prop} {fu : Nat} {ts : Nat → Int32} {tc : Nat → Nat → Int32} {rk : Nat → Int32} {pl : Nat → Int32} {ru : Nat → Int64} {sl : Nat → Int32} {bg : Nat → Int32} {kn : Nat → Int64} {rm : Int32} {ol : Nat → Int64} {od : Nat → UInt64} {x1 : Int32} {x2 : Int32} {rv : Int32} (hf : fX5_hashRepeated fu ts tc x1 x2 = some (.ok rv)) : Met l yX5_hashRepeated wsX5_hashRepeated { frames := 2, cells := 0, slots := 0, locals := 44 } (va_Pc [.ref (ad 14), .int x1, .int x2] (IW dd cy A (wlC ad cy ts tc rk pl ru sl bg kn rm ol od))) (QX dd cy A (some (.int rv)) (wlC ad cy ts tc rk pl ru sl bg kn rm ol od)) 0 0 A := by
  refine Met.ofW (cc := cX5_hashRepeated) (maxL := 8) (ret := some .int) (by decide) rfl ?_
  intro p e s m args below meth c s₁ B hml hv
  obtain ⟨hav, hI⟩ := hv
  have hx := B.exec
  have hb := B.bytes
  have hr := B.returns
  have hts := atoms_spec (ws := wsX5_hashRepeated) B.pre
  have hown : s.vm.findClass RX5 = some m.cls := findClass_of_methodNamed B.named
  have hlocks := B.notSynchronized
  have X := XW.of hI
  refine xe_in hav (Nat.le_of_ble_eq_true rfl) rfl (fun ls hl => ?_)
  have w46 : ∀ (y2 : Int32) (y4 : Int32) (y5 : Int32) (n : Nat) (y6 : Int32) (y7 : Int32), fX5_hashRepeated_46 fu ts tc y2 y4 y5 n y6 y7 = some (.ok rv) → ∀ (H : Heap) (locs : List Loc) (ls : Array Slot), XW dd cy A s (wlC ad cy ts tc rk pl ru sl bg kn rm ol od) H locs → lv_has ls 8 [(2, .int y2), (4, .int y4), (5, .int y5), (6, .int y6), (7, .int y7)] → W p l e (headSpec wsX5_hashRepeated { frames := 2, cells := 0, slots := 0, locals := 44 }).room s m args below meth c H locs 0 0 (MQ below (QX dd cy A (some (.int rv)) (wlC ad cy ts tc rk pl ru sl bg kn rm ol od)) args s 0 0 A) (F0 m 46 ls []) := by
    intro y2 y4 y5 n
    induction n with
    | zero => intro y6 y7 hf; exact absurd hf (by simp [fX5_hashRepeated_46])
    | succ n ih =>
      intro y6 y7 hf H locs ls X hl
      rw [fX5_hashRepeated_46] at hf
      refine lv_iload hx hb dX5_hashRepeated_46 (lv_at hl 4 rfl) ?_
      refine lv_iload_n hx hb dX5_hashRepeated_48 rfl (lv_at hl 0 rfl) ?_
      refine xr_icmp_ge (tgt := 68) hx hb dX5_hashRepeated_49 rfl hf (fun hf => ?_) (fun hf => ?_)
      · refine lv_iload hx hb dX5_hashRepeated_68 (lv_at hl 3 rfl) ?_
        cases hf
        exact xe_i hx hb hr hlocks X dX5_hashRepeated_70
      · refine lv_iload hx hb dX5_hashRepeated_52 (lv_at hl 3 rfl) ?_
        refine lv_iload hx hb dX5_hashRepeated_54 (lv_at hl 2 rfl) ?_
        refine lv_imul hx hb dX5_hashRepeated_56 ?_
        refine lv_iload hx hb dX5_hashRepeated_57 (lv_at hl 1 rfl) ?_
        refine lv_iadd hx hb dX5_hashRepeated_59 ?_
        refine lv_istore (lv' := [(6, .int ((y6 * y5) + y4)), (2, .int y2), (4, .int y4), (5, .int y5), (7, .int y7)]) hx hb dX5_hashRepeated_60 hl (by decide) rfl (fun ls hl => ?_)
        refine lv_iinc (v := (y7 + 1)) (lv' := [(7, .int (y7 + 1)), (6, .int ((y6 * y5) + y4)), (2, .int y2), (4, .int y4), (5, .int y5)]) hx hb dX5_hashRepeated_62 hl (k := 4) rfl ii_1 (by decide) rfl (fun ls hl => ?_)
        refine lv_goto (tgt := 46) hx hb dX5_hashRepeated_65 rfl ?_
        exact ih ((y6 * y5) + y4) (y7 + 1) hf _ _ _ X (lv_sub hl [2, 3, 4, 1, 0] rfl)
  rw [fX5_hashRepeated] at hf
  refine lv_aload_n hx hb dX5_hashRepeated_0 rfl (lv_at hl 0 rfl) ?_
  refine lv_iload_n hx hb dX5_hashRepeated_1 rfl (lv_at hl 1 rfl) ?_
  refine xb hf (fun v1 hv1 hf => ?_)
  refine exb_c hf (fun e9 h9 hf => ?_) (fun r2 h9 hf => ?_)
  · cases hf
  · have hr2 : r2 < 7 := fX5_textOf_lt (exo_s hv1 h9)
    refine xc_V1 (rest := []) ⟨hx, hb, hml, hown, hts⟩ (mX5_textOf (exo_s hv1 h9)) (cwV 1 hts gX5_hashRepeated_X5_textOf rfl rfl rfl hqX5_textOf ⟨Nat.le_of_ble_eq_true rfl, Nat.le_of_ble_eq_true rfl⟩) X (va_recv X.1 X.2.1 (ci := 1) (q0 := 14) rfl wlC_14) rfl hl.1 rfl (Nat.le_of_ble_eq_true rfl) dX5_hashRepeated_2 ⟨Nat.zero_le _, Nat.zero_le _⟩ (fun H locs X => ?_)
    refine lv_astore_n (lv' := [(3, .ref (ad r2)), (0, .ref (ad 14)), (1, .int x1), (2, .int x2)]) hx hb dX5_hashRepeated_5 rfl hl (by decide) rfl (fun ls hl => ?_)
    refine lv_iload_n hx hb dX5_hashRepeated_6 rfl (lv_at hl 3 rfl) ?_
    refine xr_if_lt (tgt := 17) hx hb dX5_hashRepeated_7 rfl hf (fun hf => ?_) (fun hf => ?_)
    · cases hf
    · refine lv_iload_n hx hb dX5_hashRepeated_10 rfl (lv_at hl 3 rfl) ?_
      refine lv_sipush (v := (1000 : Int32)) hx hb dX5_hashRepeated_11 rfl ?_
      refine xr_icmp_le (tgt := 27) hx hb dX5_hashRepeated_14 rfl hf (fun hf => ?_) (fun hf => ?_)
      · refine lv_aload_n hx hb dX5_hashRepeated_27 rfl (lv_at hl 0 rfl) ?_
        refine lv_iconst (v := (0 : Int32)) hx hb dX5_hashRepeated_28 rfl ?_
        refine xb hf (fun v3 hv hf => ?_)
        refine xc_V1 (rest := []) ⟨hx, hb, hml, hown, hts⟩ (mX4_hashFrom hr2 hv) (cwV 1 hts gX5_hashRepeated_X4_hashFrom rfl rfl rfl hqX4_hashFrom ⟨Nat.le_of_ble_eq_true rfl, Nat.le_of_ble_eq_true rfl⟩) X (va_recv X.1 X.2.1 (ci := 0) (q0 := r2) rfl (wlC_t hr2)) rfl hl.1 rfl (Nat.le_of_ble_eq_true rfl) dX5_hashRepeated_29 ⟨Nat.zero_le _, Nat.zero_le _⟩ (fun H locs X => ?_)
        refine lv_istore (lv' := [(4, .int v3), (3, .ref (ad r2)), (0, .ref (ad 14)), (1, .int x1), (2, .int x2)]) hx hb dX5_hashRepeated_32 hl (by decide) rfl (fun ls hl => ?_)
        refine lv_aload_n hx hb dX5_hashRepeated_34 rfl (lv_at hl 1 rfl) ?_
        refine xb hf (fun v4 hv hf => ?_)
        refine xc_V1 (rest := []) ⟨hx, hb, hml, hown, hts⟩ (mX4_hashFactor hr2 hv) (cwV 0 hts gX5_hashRepeated_X4_hashFactor rfl rfl rfl hqX4_hashFactor ⟨Nat.le_of_ble_eq_true rfl, Nat.le_of_ble_eq_true rfl⟩) X (va_recv X.1 X.2.1 (ci := 0) (q0 := r2) rfl (wlC_t hr2)) rfl hl.1 rfl (Nat.le_of_ble_eq_true rfl) dX5_hashRepeated_35 ⟨Nat.zero_le _, Nat.zero_le _⟩ (fun H locs X => ?_)
        refine lv_istore (lv' := [(5, .int v4), (4, .int v3), (3, .ref (ad r2)), (0, .ref (ad 14)), (1, .int x1), (2, .int x2)]) hx hb dX5_hashRepeated_38 hl (by decide) rfl (fun ls hl => ?_)
        refine lv_iconst (v := (0 : Int32)) hx hb dX5_hashRepeated_40 rfl ?_
        refine lv_istore (lv' := [(6, .int (0 : Int32)), (5, .int v4), (4, .int v3), (3, .ref (ad r2)), (0, .ref (ad 14)), (1, .int x1), (2, .int x2)]) hx hb dX5_hashRepeated_41 hl (by decide) rfl (fun ls hl => ?_)
        refine lv_iconst (v := (0 : Int32)) hx hb dX5_hashRepeated_43 rfl ?_
        refine lv_istore (lv' := [(7, .int (0 : Int32)), (6, .int (0 : Int32)), (5, .int v4), (4, .int v3), (3, .ref (ad r2)), (0, .ref (ad 14)), (1, .int x1), (2, .int x2)]) hx hb dX5_hashRepeated_44 hl (by decide) rfl (fun ls hl => ?_)
        exact w46 x2 v3 v4 fu (0 : Int32) (0 : Int32) hf _ _ _ X (lv_sub hl [7, 3, 2, 1, 0] rfl)
      · cases hf
set_option maxRecDepth 100000 in
set_option maxHeartbeats 4000000 in
theorem eX5_hashRepeated {l : Launch} {dd : va_G} {cy : Nat → ClassId} {ad : Nat → Nat} {A : Nat → Prop} {fu : Nat} {ts : Nat → Int32} {tc : Nat → Nat → Int32} {rk : Nat → Int32} {pl : Nat → Int32} {ru : Nat → Int64} {sl : Nat → Int32} {bg : Nat → Int32} {kn : Nat → Int64} {rm : Int32} {ol : Nat → Int64} {od : Nat → UInt64} {x1 : Int32} {x2 : Int32} {E9 : String} (htr : l.stackTraces = false) (hf : fX5_hashRepeated fu ts tc x1 x2 = some (.error E9)) : vx_Met l yX5_hashRepeated wsX5_hashRepeated { frames := 7, cells := 1, slots := 6, locals := 121 } (va_Pc [.ref (ad 14), .int x1, .int x2] (IT dd cy A (wlC ad cy ts tc rk pl ru sl bg kn rm ol od))) (fun _ _ _ _ => False) (XE dd cy A E9 (wlC ad cy ts tc rk pl ru sl bg kn rm ol od)) 1 6 A := by
  refine vx_ofW (cc := cX5_hashRepeated) (maxL := 8) (ret := some .int) (by decide) rfl ?_
  intro p e s m args below meth c s₁ B hml hexc hv
  obtain ⟨hav, hI, hT⟩ := hv
  have hx := B.exec
  have hb := B.bytes
  have hr := B.returns
  have hts := atoms_spec (ws := wsX5_hashRepeated) B.pre
  have hown : s.vm.findClass RX5 = some m.cls := findClass_of_methodNamed B.named
  have hlocks := B.notSynchronized
  have X := XW.of hI
  refine xe_in hav (Nat.le_of_ble_eq_true rfl) rfl (fun ls hl => ?_)
  have w46 : ∀ (y2 : Int32) (y4 : Int32) (y5 : Int32) (n : Nat) (y6 : Int32) (y7 : Int32), fX5_hashRepeated_46 fu ts tc y2 y4 y5 n y6 y7 = some (.error E9) → ∀ (H : Heap) (locs : List Loc) (ls : Array Slot), XW dd cy A s (wlC ad cy ts tc rk pl ru sl bg kn rm ol od) H locs → lv_has ls 8 [(2, .int y2), (4, .int y4), (5, .int y5), (6, .int y6), (7, .int y7)] → W p l e (headSpec wsX5_hashRepeated { frames := 7, cells := 1, slots := 6, locals := 121 }).room s m args below meth c H locs 0 0 (vx_MQ below (fun _ _ _ _ => False) (XE dd cy A E9 (wlC ad cy ts tc rk pl ru sl bg kn rm ol od)) args s 1 6 A) (F0 m 46 ls []) := by
    intro y2 y4 y5 n
    induction n with
    | zero => intro y6 y7 hf; exact absurd hf (by simp [fX5_hashRepeated_46])
    | succ n ih =>
      intro y6 y7 hf H locs ls X hl
      rw [fX5_hashRepeated_46] at hf
      refine lv_iload hx hb dX5_hashRepeated_46 (lv_at hl 4 rfl) ?_
      refine lv_iload_n hx hb dX5_hashRepeated_48 rfl (lv_at hl 0 rfl) ?_
      refine xr_icmp_ge (tgt := 68) hx hb dX5_hashRepeated_49 rfl hf (fun hf => ?_) (fun hf => ?_)
      · refine lv_iload hx hb dX5_hashRepeated_68 (lv_at hl 3 rfl) ?_
        cases hf
      · refine lv_iload hx hb dX5_hashRepeated_52 (lv_at hl 3 rfl) ?_
        refine lv_iload hx hb dX5_hashRepeated_54 (lv_at hl 2 rfl) ?_
        refine lv_imul hx hb dX5_hashRepeated_56 ?_
        refine lv_iload hx hb dX5_hashRepeated_57 (lv_at hl 1 rfl) ?_
        refine lv_iadd hx hb dX5_hashRepeated_59 ?_
        refine lv_istore (lv' := [(6, .int ((y6 * y5) + y4)), (2, .int y2), (4, .int y4), (5, .int y5), (7, .int y7)]) hx hb dX5_hashRepeated_60 hl (by decide) rfl (fun ls hl => ?_)
        refine lv_iinc (v := (y7 + 1)) (lv' := [(7, .int (y7 + 1)), (6, .int ((y6 * y5) + y4)), (2, .int y2), (4, .int y4), (5, .int y5)]) hx hb dX5_hashRepeated_62 hl (k := 4) rfl ii_1 (by decide) rfl (fun ls hl => ?_)
        refine lv_goto (tgt := 46) hx hb dX5_hashRepeated_65 rfl ?_
        exact ih ((y6 * y5) + y4) (y7 + 1) hf _ _ _ X (lv_sub hl [2, 3, 4, 1, 0] rfl)
  rw [fX5_hashRepeated] at hf
  refine lv_aload_n hx hb dX5_hashRepeated_0 rfl (lv_at hl 0 rfl) ?_
  refine lv_iload_n hx hb dX5_hashRepeated_1 rfl (lv_at hl 1 rfl) ?_
  refine xb hf (fun v1 hv1 hf => ?_)
  refine exb_c hf (fun e9 h9 hf => ?_) (fun r2 h9 hf => ?_)
  · cases hf
    exact xt_V (rest := []) ⟨hx, hb, hml, hown, hts⟩ (eX5_textOf htr (exo_s hv1 h9)) (cwV 1 hts gX5_hashRepeated_X5_textOf rfl rfl rfl hqX5_textOf ⟨Nat.le_of_ble_eq_true rfl, Nat.le_of_ble_eq_true rfl⟩) X hT (va_recv X.1 X.2.1 (ci := 1) (q0 := 14) rfl wlC_14) rfl hl.1 rfl (Nat.le_of_ble_eq_true rfl) dX5_hashRepeated_2 ⟨Nat.le_of_ble_eq_true rfl, Nat.le_of_ble_eq_true rfl⟩ hexc hlocks
  · have hr2 : r2 < 7 := fX5_textOf_lt (exo_s hv1 h9)
    refine xc_V1 (rest := []) ⟨hx, hb, hml, hown, hts⟩ (mX5_textOf (exo_s hv1 h9)) (cwV 1 hts gX5_hashRepeated_X5_textOf rfl rfl rfl hqX5_textOf ⟨Nat.le_of_ble_eq_true rfl, Nat.le_of_ble_eq_true rfl⟩) X (va_recv X.1 X.2.1 (ci := 1) (q0 := 14) rfl wlC_14) rfl hl.1 rfl (Nat.le_of_ble_eq_true rfl) dX5_hashRepeated_2 ⟨Nat.zero_le _, Nat.zero_le _⟩ (fun H locs X => ?_)
    refine lv_astore_n (lv' := [(3, .ref (ad r2)), (0, .ref (ad 14)), (1, .int x1), (2, .int x2)]) hx hb dX5_hashRepeated_5 rfl hl (by decide) rfl (fun ls hl => ?_)
    refine lv_iload_n hx hb dX5_hashRepeated_6 rfl (lv_at hl 3 rfl) ?_
    refine xr_if_lt (tgt := 17) hx hb dX5_hashRepeated_7 rfl hf (fun hf => ?_) (fun hf => ?_)
    · cases hf
      exact xt_throw (rest := []) (text := "not 0 to 1000 times") hx hb htr hown hts hT X (by decide +kernel) (by decide +kernel) (by decide +kernel) (by decide +kernel) (by decide +kernel) (by decide +kernel) th_hn_57 th_hot_53_57 (hl.1.trans hml.symm) dX5_hashRepeated_17 dX5_hashRepeated_20 dX5_hashRepeated_21 dX5_hashRepeated_23 dX5_hashRepeated_26 hexc (Nat.le_of_ble_eq_true rfl) (Nat.le_of_ble_eq_true rfl) (Nat.le_of_ble_eq_true rfl) (Nat.le_of_ble_eq_true rfl) hlocks
    · refine lv_iload_n hx hb dX5_hashRepeated_10 rfl (lv_at hl 3 rfl) ?_
      refine lv_sipush (v := (1000 : Int32)) hx hb dX5_hashRepeated_11 rfl ?_
      refine xr_icmp_le (tgt := 27) hx hb dX5_hashRepeated_14 rfl hf (fun hf => ?_) (fun hf => ?_)
      · refine lv_aload_n hx hb dX5_hashRepeated_27 rfl (lv_at hl 0 rfl) ?_
        refine lv_iconst (v := (0 : Int32)) hx hb dX5_hashRepeated_28 rfl ?_
        refine xb hf (fun v3 hv hf => ?_)
        refine xc_V1 (rest := []) ⟨hx, hb, hml, hown, hts⟩ (mX4_hashFrom hr2 hv) (cwV 1 hts gX5_hashRepeated_X4_hashFrom rfl rfl rfl hqX4_hashFrom ⟨Nat.le_of_ble_eq_true rfl, Nat.le_of_ble_eq_true rfl⟩) X (va_recv X.1 X.2.1 (ci := 0) (q0 := r2) rfl (wlC_t hr2)) rfl hl.1 rfl (Nat.le_of_ble_eq_true rfl) dX5_hashRepeated_29 ⟨Nat.zero_le _, Nat.zero_le _⟩ (fun H locs X => ?_)
        refine lv_istore (lv' := [(4, .int v3), (3, .ref (ad r2)), (0, .ref (ad 14)), (1, .int x1), (2, .int x2)]) hx hb dX5_hashRepeated_32 hl (by decide) rfl (fun ls hl => ?_)
        refine lv_aload_n hx hb dX5_hashRepeated_34 rfl (lv_at hl 1 rfl) ?_
        refine xb hf (fun v4 hv hf => ?_)
        refine xc_V1 (rest := []) ⟨hx, hb, hml, hown, hts⟩ (mX4_hashFactor hr2 hv) (cwV 0 hts gX5_hashRepeated_X4_hashFactor rfl rfl rfl hqX4_hashFactor ⟨Nat.le_of_ble_eq_true rfl, Nat.le_of_ble_eq_true rfl⟩) X (va_recv X.1 X.2.1 (ci := 0) (q0 := r2) rfl (wlC_t hr2)) rfl hl.1 rfl (Nat.le_of_ble_eq_true rfl) dX5_hashRepeated_35 ⟨Nat.zero_le _, Nat.zero_le _⟩ (fun H locs X => ?_)
        refine lv_istore (lv' := [(5, .int v4), (4, .int v3), (3, .ref (ad r2)), (0, .ref (ad 14)), (1, .int x1), (2, .int x2)]) hx hb dX5_hashRepeated_38 hl (by decide) rfl (fun ls hl => ?_)
        refine lv_iconst (v := (0 : Int32)) hx hb dX5_hashRepeated_40 rfl ?_
        refine lv_istore (lv' := [(6, .int (0 : Int32)), (5, .int v4), (4, .int v3), (3, .ref (ad r2)), (0, .ref (ad 14)), (1, .int x1), (2, .int x2)]) hx hb dX5_hashRepeated_41 hl (by decide) rfl (fun ls hl => ?_)
        refine lv_iconst (v := (0 : Int32)) hx hb dX5_hashRepeated_43 rfl ?_
        refine lv_istore (lv' := [(7, .int (0 : Int32)), (6, .int (0 : Int32)), (5, .int v4), (4, .int v3), (3, .ref (ad r2)), (0, .ref (ad 14)), (1, .int x1), (2, .int x2)]) hx hb dX5_hashRepeated_44 hl (by decide) rfl (fun ls hl => ?_)
        exact w46 x2 v3 v4 fu (0 : Int32) (0 : Int32) hf _ _ _ X (lv_sub hl [7, 3, 2, 1, 0] rfl)
      · cases hf
        exact xt_throw (rest := []) (text := "not 0 to 1000 times") hx hb htr hown hts hT X (by decide +kernel) (by decide +kernel) (by decide +kernel) (by decide +kernel) (by decide +kernel) (by decide +kernel) th_hn_57 th_hot_53_57 (hl.1.trans hml.symm) dX5_hashRepeated_17 dX5_hashRepeated_20 dX5_hashRepeated_21 dX5_hashRepeated_23 dX5_hashRepeated_26 hexc (Nat.le_of_ble_eq_true rfl) (Nat.le_of_ble_eq_true rfl) (Nat.le_of_ble_eq_true rfl) (Nat.le_of_ble_eq_true rfl) hlocks
set_option maxRecDepth 100000 in
set_option maxHeartbeats 4000000 in
theorem mX5_periods {l : Launch} {dd : va_G} {cy : Nat → ClassId} {ad : Nat → Nat} {A : Nat → Prop} {fu : Nat} {ts : Nat → Int32} {tc : Nat → Nat → Int32} {rk : Nat → Int32} {pl : Nat → Int32} {ru : Nat → Int64} {sl : Nat → Int32} {bg : Nat → Int32} {kn : Nat → Int64} {rm : Int32} {ol : Nat → Int64} {od : Nat → UInt64} {x1 : Int32} {rv : Int32} (hf : fX5_periods fu ts tc x1 = some (.ok rv)) : Met l yX5_periods wsX5_periods { frames := 4, cells := 0, slots := 0, locals := 100 } (va_Pc [.ref (ad 14), .int x1] (IW dd cy A (wlC ad cy ts tc rk pl ru sl bg kn rm ol od))) (QX dd cy A (some (.int rv)) (wlC ad cy ts tc rk pl ru sl bg kn rm ol od)) 0 0 A := by
  refine Met.ofW (cc := cX5_periods) (maxL := 2) (ret := some .int) (by decide) rfl ?_
  intro p e s m args below meth c s₁ B hml hv
  obtain ⟨hav, hI⟩ := hv
  have hx := B.exec
  have hb := B.bytes
  have hr := B.returns
  have hts := atoms_spec (ws := wsX5_periods) B.pre
  have hown : s.vm.findClass RX5 = some m.cls := findClass_of_methodNamed B.named
  have hlocks := B.notSynchronized
  have X := XW.of hI
  refine xe_in hav (Nat.le_of_ble_eq_true rfl) rfl (fun ls hl => ?_)
  rw [fX5_periods] at hf
  refine lv_aload_n hx hb dX5_periods_0 rfl (lv_at hl 0 rfl) ?_
  refine lv_iload_n hx hb dX5_periods_1 rfl (lv_at hl 1 rfl) ?_
  refine xb hf (fun v1 hv1 hf => ?_)
  refine exb_c hf (fun e9 h9 hf => ?_) (fun r2 h9 hf => ?_)
  · cases hf
  · have hr2 : r2 < 7 := fX5_textOf_lt (exo_s hv1 h9)
    refine xc_V1 (rest := []) ⟨hx, hb, hml, hown, hts⟩ (mX5_textOf (exo_s hv1 h9)) (cwV 1 hts gX5_periods_X5_textOf rfl rfl rfl hqX5_textOf ⟨Nat.le_of_ble_eq_true rfl, Nat.le_of_ble_eq_true rfl⟩) X (va_recv X.1 X.2.1 (ci := 1) (q0 := 14) rfl wlC_14) rfl hl.1 rfl (Nat.le_of_ble_eq_true rfl) dX5_periods_2 ⟨Nat.zero_le _, Nat.zero_le _⟩ (fun H locs X => ?_)
    refine xb hf (fun v3 hv hf => ?_)
    refine xc_V1 (rest := []) ⟨hx, hb, hml, hown, hts⟩ (mX4_countPeriods hr2 hv) (cwV 0 hts gX5_periods_X4_countPeriods rfl rfl rfl hqX4_countPeriods ⟨Nat.le_of_ble_eq_true rfl, Nat.le_of_ble_eq_true rfl⟩) X (va_recv X.1 X.2.1 (ci := 0) (q0 := r2) rfl (wlC_t hr2)) rfl hl.1 rfl (Nat.le_of_ble_eq_true rfl) dX5_periods_5 ⟨Nat.zero_le _, Nat.zero_le _⟩ (fun H locs X => ?_)
    cases hf
    exact xe_i hx hb hr hlocks X dX5_periods_8
set_option maxRecDepth 100000 in
set_option maxHeartbeats 4000000 in
theorem eX5_periods {l : Launch} {dd : va_G} {cy : Nat → ClassId} {ad : Nat → Nat} {A : Nat → Prop} {fu : Nat} {ts : Nat → Int32} {tc : Nat → Nat → Int32} {rk : Nat → Int32} {pl : Nat → Int32} {ru : Nat → Int64} {sl : Nat → Int32} {bg : Nat → Int32} {kn : Nat → Int64} {rm : Int32} {ol : Nat → Int64} {od : Nat → UInt64} {x1 : Int32} {E9 : String} (htr : l.stackTraces = false) (hf : fX5_periods fu ts tc x1 = some (.error E9)) : vx_Met l yX5_periods wsX5_periods { frames := 7, cells := 1, slots := 6, locals := 121 } (va_Pc [.ref (ad 14), .int x1] (IT dd cy A (wlC ad cy ts tc rk pl ru sl bg kn rm ol od))) (fun _ _ _ _ => False) (XE dd cy A E9 (wlC ad cy ts tc rk pl ru sl bg kn rm ol od)) 1 6 A := by
  refine vx_ofW (cc := cX5_periods) (maxL := 2) (ret := some .int) (by decide) rfl ?_
  intro p e s m args below meth c s₁ B hml hexc hv
  obtain ⟨hav, hI, hT⟩ := hv
  have hx := B.exec
  have hb := B.bytes
  have hr := B.returns
  have hts := atoms_spec (ws := wsX5_periods) B.pre
  have hown : s.vm.findClass RX5 = some m.cls := findClass_of_methodNamed B.named
  have hlocks := B.notSynchronized
  have X := XW.of hI
  refine xe_in hav (Nat.le_of_ble_eq_true rfl) rfl (fun ls hl => ?_)
  rw [fX5_periods] at hf
  refine lv_aload_n hx hb dX5_periods_0 rfl (lv_at hl 0 rfl) ?_
  refine lv_iload_n hx hb dX5_periods_1 rfl (lv_at hl 1 rfl) ?_
  refine xb hf (fun v1 hv1 hf => ?_)
  refine exb_c hf (fun e9 h9 hf => ?_) (fun r2 h9 hf => ?_)
  · cases hf
    exact xt_V (rest := []) ⟨hx, hb, hml, hown, hts⟩ (eX5_textOf htr (exo_s hv1 h9)) (cwV 1 hts gX5_periods_X5_textOf rfl rfl rfl hqX5_textOf ⟨Nat.le_of_ble_eq_true rfl, Nat.le_of_ble_eq_true rfl⟩) X hT (va_recv X.1 X.2.1 (ci := 1) (q0 := 14) rfl wlC_14) rfl hl.1 rfl (Nat.le_of_ble_eq_true rfl) dX5_periods_2 ⟨Nat.le_of_ble_eq_true rfl, Nat.le_of_ble_eq_true rfl⟩ hexc hlocks
  · have hr2 : r2 < 7 := fX5_textOf_lt (exo_s hv1 h9)
    refine xc_V1 (rest := []) ⟨hx, hb, hml, hown, hts⟩ (mX5_textOf (exo_s hv1 h9)) (cwV 1 hts gX5_periods_X5_textOf rfl rfl rfl hqX5_textOf ⟨Nat.le_of_ble_eq_true rfl, Nat.le_of_ble_eq_true rfl⟩) X (va_recv X.1 X.2.1 (ci := 1) (q0 := 14) rfl wlC_14) rfl hl.1 rfl (Nat.le_of_ble_eq_true rfl) dX5_periods_2 ⟨Nat.zero_le _, Nat.zero_le _⟩ (fun H locs X => ?_)
    refine xb hf (fun v3 hv hf => ?_)
    refine xc_V1 (rest := []) ⟨hx, hb, hml, hown, hts⟩ (mX4_countPeriods hr2 hv) (cwV 0 hts gX5_periods_X4_countPeriods rfl rfl rfl hqX4_countPeriods ⟨Nat.le_of_ble_eq_true rfl, Nat.le_of_ble_eq_true rfl⟩) X (va_recv X.1 X.2.1 (ci := 0) (q0 := r2) rfl (wlC_t hr2)) rfl hl.1 rfl (Nat.le_of_ble_eq_true rfl) dX5_periods_5 ⟨Nat.zero_le _, Nat.zero_le _⟩ (fun H locs X => ?_)
    cases hf
set_option maxRecDepth 100000 in
set_option maxHeartbeats 4000000 in
theorem mX5_periodAt {l : Launch} {dd : va_G} {cy : Nat → ClassId} {ad : Nat → Nat} {A : Nat → Prop} {fu : Nat} {ts : Nat → Int32} {tc : Nat → Nat → Int32} {rk : Nat → Int32} {pl : Nat → Int32} {ru : Nat → Int64} {sl : Nat → Int32} {bg : Nat → Int32} {kn : Nat → Int64} {rm : Int32} {ol : Nat → Int64} {od : Nat → UInt64} {x1 : Int32} {x2 : Int32} {rv : Int32} (hf : fX5_periodAt fu ts tc x1 x2 = some (.ok rv)) : Met l yX5_periodAt wsX5_periodAt { frames := 3, cells := 0, slots := 0, locals := 78 } (va_Pc [.ref (ad 14), .int x1, .int x2] (IW dd cy A (wlC ad cy ts tc rk pl ru sl bg kn rm ol od))) (QX dd cy A (some (.int rv)) (wlC ad cy ts tc rk pl ru sl bg kn rm ol od)) 0 0 A := by
  refine Met.ofW (cc := cX5_periodAt) (maxL := 6) (ret := some .int) (by decide) rfl ?_
  intro p e s m args below meth c s₁ B hml hv
  obtain ⟨hav, hI⟩ := hv
  have hx := B.exec
  have hb := B.bytes
  have hr := B.returns
  have hts := atoms_spec (ws := wsX5_periodAt) B.pre
  have hown : s.vm.findClass RX5 = some m.cls := findClass_of_methodNamed B.named
  have hlocks := B.notSynchronized
  have X := XW.of hI
  refine xe_in hav (Nat.le_of_ble_eq_true rfl) rfl (fun ls hl => ?_)
  have w12 : ∀ (y2 : Int32) (t3 : Nat) (ht3 : t3 < 7) (n : Nat) (y4 : Int32) (y5 : Int32), fX5_periodAt_12 fu ts tc y2 t3 n y4 y5 = some (.ok rv) → ∀ (H : Heap) (locs : List Loc) (ls : Array Slot), XW dd cy A s (wlC ad cy ts tc rk pl ru sl bg kn rm ol od) H locs → lv_has ls 6 [(2, .int y2), (3, .ref (ad t3)), (4, .int y4), (5, .int y5)] → W p l e (headSpec wsX5_periodAt { frames := 3, cells := 0, slots := 0, locals := 78 }).room s m args below meth c H locs 0 0 (MQ below (QX dd cy A (some (.int rv)) (wlC ad cy ts tc rk pl ru sl bg kn rm ol od)) args s 0 0 A) (F0 m 12 ls []) := by
    intro y2 t3 ht3 n
    induction n with
    | zero => intro y4 y5 hf; exact absurd hf (by simp [fX5_periodAt_12])
    | succ n ih =>
      intro y4 y5 hf H locs ls X hl
      rw [fX5_periodAt_12] at hf
      refine lv_iload hx hb dX5_periodAt_12 (lv_at hl 3 rfl) ?_
      refine lv_aload_n hx hb dX5_periodAt_14 rfl (lv_at hl 1 rfl) ?_
      refine xb hf (fun v3 hv hf => ?_)
      refine xc_V1 (rest := [.int y5]) ⟨hx, hb, hml, hown, hts⟩ (mX4_size ht3 hv) (cwV 0 hts gX5_periodAt_X4_size rfl rfl rfl hqX4_size ⟨Nat.le_of_ble_eq_true rfl, Nat.le_of_ble_eq_true rfl⟩) X (va_recv X.1 X.2.1 (ci := 0) (q0 := t3) rfl (wlC_t ht3)) rfl hl.1 rfl (Nat.le_of_ble_eq_true rfl) dX5_periodAt_15 ⟨Nat.zero_le _, Nat.zero_le _⟩ (fun H locs X => ?_)
      refine xr_icmp_gt (tgt := 48) hx hb dX5_periodAt_18 rfl hf (fun hf => ?_) (fun hf => ?_)
      · cases hf
      · refine lv_aload_n hx hb dX5_periodAt_21 rfl (lv_at hl 1 rfl) ?_
        refine lv_iload hx hb dX5_periodAt_22 (lv_at hl 3 rfl) ?_
        refine xb hf (fun v4 hv hf => ?_)
        refine xc_V1 (rest := []) ⟨hx, hb, hml, hown, hts⟩ (mX4_hasPeriod ht3 hv) (cwV 1 hts gX5_periodAt_X4_hasPeriod rfl rfl rfl hqX4_hasPeriod ⟨Nat.le_of_ble_eq_true rfl, Nat.le_of_ble_eq_true rfl⟩) X (va_recv X.1 X.2.1 (ci := 0) (q0 := t3) rfl (wlC_t ht3)) rfl hl.1 rfl (Nat.le_of_ble_eq_true rfl) dX5_periodAt_24 ⟨Nat.zero_le _, Nat.zero_le _⟩ (fun H locs X => ?_)
        refine xr_if_eq (tgt := 42) hx hb dX5_periodAt_27 rfl hf (fun hf => ?_) (fun hf => ?_)
        · refine lv_iinc (v := (y5 + 1)) (lv' := [(5, .int (y5 + 1)), (2, .int y2), (3, .ref (ad t3)), (4, .int y4)]) hx hb dX5_periodAt_42 hl (k := 3) rfl ii_1 (by decide) rfl (fun ls hl => ?_)
          refine lv_goto (tgt := 12) hx hb dX5_periodAt_45 rfl ?_
          exact ih y4 (y5 + 1) hf _ _ _ X (lv_sub hl [1, 2, 3, 0] rfl)
        · refine lv_iload hx hb dX5_periodAt_30 (lv_at hl 2 rfl) ?_
          refine lv_iload_n hx hb dX5_periodAt_32 rfl (lv_at hl 0 rfl) ?_
          refine xr_icmp_ne (tgt := 39) hx hb dX5_periodAt_33 rfl hf (fun hf => ?_) (fun hf => ?_)
          · refine lv_iinc (v := (y4 + 1)) (lv' := [(4, .int (y4 + 1)), (2, .int y2), (3, .ref (ad t3)), (5, .int y5)]) hx hb dX5_periodAt_39 hl (k := 2) rfl ii_1 (by decide) rfl (fun ls hl => ?_)
            refine lv_iinc (v := (y5 + 1)) (lv' := [(5, .int (y5 + 1)), (4, .int (y4 + 1)), (2, .int y2), (3, .ref (ad t3))]) hx hb dX5_periodAt_42 hl (k := 3) rfl ii_1 (by decide) rfl (fun ls hl => ?_)
            refine lv_goto (tgt := 12) hx hb dX5_periodAt_45 rfl ?_
            exact ih (y4 + 1) (y5 + 1) hf _ _ _ X (lv_sub hl [2, 3, 1, 0] rfl)
          · refine lv_iload hx hb dX5_periodAt_36 (lv_at hl 3 rfl) ?_
            cases hf
            exact xe_i hx hb hr hlocks X dX5_periodAt_38
  rw [fX5_periodAt] at hf
  refine lv_aload_n hx hb dX5_periodAt_0 rfl (lv_at hl 0 rfl) ?_
  refine lv_iload_n hx hb dX5_periodAt_1 rfl (lv_at hl 1 rfl) ?_
  refine xb hf (fun v1 hv1 hf => ?_)
  refine exb_c hf (fun e9 h9 hf => ?_) (fun r2 h9 hf => ?_)
  · cases hf
  · have hr2 : r2 < 7 := fX5_textOf_lt (exo_s hv1 h9)
    refine xc_V1 (rest := []) ⟨hx, hb, hml, hown, hts⟩ (mX5_textOf (exo_s hv1 h9)) (cwV 1 hts gX5_periodAt_X5_textOf rfl rfl rfl hqX5_textOf ⟨Nat.le_of_ble_eq_true rfl, Nat.le_of_ble_eq_true rfl⟩) X (va_recv X.1 X.2.1 (ci := 1) (q0 := 14) rfl wlC_14) rfl hl.1 rfl (Nat.le_of_ble_eq_true rfl) dX5_periodAt_2 ⟨Nat.zero_le _, Nat.zero_le _⟩ (fun H locs X => ?_)
    refine lv_astore_n (lv' := [(3, .ref (ad r2)), (0, .ref (ad 14)), (1, .int x1), (2, .int x2)]) hx hb dX5_periodAt_5 rfl hl (by decide) rfl (fun ls hl => ?_)
    refine lv_iconst (v := (0 : Int32)) hx hb dX5_periodAt_6 rfl ?_
    refine lv_istore (lv' := [(4, .int (0 : Int32)), (3, .ref (ad r2)), (0, .ref (ad 14)), (1, .int x1), (2, .int x2)]) hx hb dX5_periodAt_7 hl (by decide) rfl (fun ls hl => ?_)
    refine lv_iconst (v := (1 : Int32)) hx hb dX5_periodAt_9 rfl ?_
    refine lv_istore (lv' := [(5, .int (1 : Int32)), (4, .int (0 : Int32)), (3, .ref (ad r2)), (0, .ref (ad 14)), (1, .int x1), (2, .int x2)]) hx hb dX5_periodAt_10 hl (by decide) rfl (fun ls hl => ?_)
    exact w12 x2 r2 hr2 fu (0 : Int32) (1 : Int32) hf _ _ _ X (lv_sub hl [5, 2, 1, 0] rfl)
set_option maxRecDepth 100000 in
set_option maxHeartbeats 4000000 in
theorem eX5_periodAt {l : Launch} {dd : va_G} {cy : Nat → ClassId} {ad : Nat → Nat} {A : Nat → Prop} {fu : Nat} {ts : Nat → Int32} {tc : Nat → Nat → Int32} {rk : Nat → Int32} {pl : Nat → Int32} {ru : Nat → Int64} {sl : Nat → Int32} {bg : Nat → Int32} {kn : Nat → Int64} {rm : Int32} {ol : Nat → Int64} {od : Nat → UInt64} {x1 : Int32} {x2 : Int32} {E9 : String} (htr : l.stackTraces = false) (hf : fX5_periodAt fu ts tc x1 x2 = some (.error E9)) : vx_Met l yX5_periodAt wsX5_periodAt { frames := 7, cells := 1, slots := 6, locals := 121 } (va_Pc [.ref (ad 14), .int x1, .int x2] (IT dd cy A (wlC ad cy ts tc rk pl ru sl bg kn rm ol od))) (fun _ _ _ _ => False) (XE dd cy A E9 (wlC ad cy ts tc rk pl ru sl bg kn rm ol od)) 1 6 A := by
  refine vx_ofW (cc := cX5_periodAt) (maxL := 6) (ret := some .int) (by decide) rfl ?_
  intro p e s m args below meth c s₁ B hml hexc hv
  obtain ⟨hav, hI, hT⟩ := hv
  have hx := B.exec
  have hb := B.bytes
  have hr := B.returns
  have hts := atoms_spec (ws := wsX5_periodAt) B.pre
  have hown : s.vm.findClass RX5 = some m.cls := findClass_of_methodNamed B.named
  have hlocks := B.notSynchronized
  have X := XW.of hI
  refine xe_in hav (Nat.le_of_ble_eq_true rfl) rfl (fun ls hl => ?_)
  have w12 : ∀ (y2 : Int32) (t3 : Nat) (ht3 : t3 < 7) (n : Nat) (y4 : Int32) (y5 : Int32), fX5_periodAt_12 fu ts tc y2 t3 n y4 y5 = some (.error E9) → ∀ (H : Heap) (locs : List Loc) (ls : Array Slot), XW dd cy A s (wlC ad cy ts tc rk pl ru sl bg kn rm ol od) H locs → lv_has ls 6 [(2, .int y2), (3, .ref (ad t3)), (4, .int y4), (5, .int y5)] → W p l e (headSpec wsX5_periodAt { frames := 7, cells := 1, slots := 6, locals := 121 }).room s m args below meth c H locs 0 0 (vx_MQ below (fun _ _ _ _ => False) (XE dd cy A E9 (wlC ad cy ts tc rk pl ru sl bg kn rm ol od)) args s 1 6 A) (F0 m 12 ls []) := by
    intro y2 t3 ht3 n
    induction n with
    | zero => intro y4 y5 hf; exact absurd hf (by simp [fX5_periodAt_12])
    | succ n ih =>
      intro y4 y5 hf H locs ls X hl
      rw [fX5_periodAt_12] at hf
      refine lv_iload hx hb dX5_periodAt_12 (lv_at hl 3 rfl) ?_
      refine lv_aload_n hx hb dX5_periodAt_14 rfl (lv_at hl 1 rfl) ?_
      refine xb hf (fun v3 hv hf => ?_)
      refine xc_V1 (rest := [.int y5]) ⟨hx, hb, hml, hown, hts⟩ (mX4_size ht3 hv) (cwV 0 hts gX5_periodAt_X4_size rfl rfl rfl hqX4_size ⟨Nat.le_of_ble_eq_true rfl, Nat.le_of_ble_eq_true rfl⟩) X (va_recv X.1 X.2.1 (ci := 0) (q0 := t3) rfl (wlC_t ht3)) rfl hl.1 rfl (Nat.le_of_ble_eq_true rfl) dX5_periodAt_15 ⟨Nat.zero_le _, Nat.zero_le _⟩ (fun H locs X => ?_)
      refine xr_icmp_gt (tgt := 48) hx hb dX5_periodAt_18 rfl hf (fun hf => ?_) (fun hf => ?_)
      · cases hf
        exact xt_throw (rest := []) (text := "no such period") hx hb htr hown hts hT X (by decide +kernel) (by decide +kernel) (by decide +kernel) (by decide +kernel) (by decide +kernel) (by decide +kernel) th_hn_154 th_hot_150_154 (hl.1.trans hml.symm) dX5_periodAt_48 dX5_periodAt_51 dX5_periodAt_52 dX5_periodAt_54 dX5_periodAt_57 hexc (Nat.le_of_ble_eq_true rfl) (Nat.le_of_ble_eq_true rfl) (Nat.le_of_ble_eq_true rfl) (Nat.le_of_ble_eq_true rfl) hlocks
      · refine lv_aload_n hx hb dX5_periodAt_21 rfl (lv_at hl 1 rfl) ?_
        refine lv_iload hx hb dX5_periodAt_22 (lv_at hl 3 rfl) ?_
        refine xb hf (fun v4 hv hf => ?_)
        refine xc_V1 (rest := []) ⟨hx, hb, hml, hown, hts⟩ (mX4_hasPeriod ht3 hv) (cwV 1 hts gX5_periodAt_X4_hasPeriod rfl rfl rfl hqX4_hasPeriod ⟨Nat.le_of_ble_eq_true rfl, Nat.le_of_ble_eq_true rfl⟩) X (va_recv X.1 X.2.1 (ci := 0) (q0 := t3) rfl (wlC_t ht3)) rfl hl.1 rfl (Nat.le_of_ble_eq_true rfl) dX5_periodAt_24 ⟨Nat.zero_le _, Nat.zero_le _⟩ (fun H locs X => ?_)
        refine xr_if_eq (tgt := 42) hx hb dX5_periodAt_27 rfl hf (fun hf => ?_) (fun hf => ?_)
        · refine lv_iinc (v := (y5 + 1)) (lv' := [(5, .int (y5 + 1)), (2, .int y2), (3, .ref (ad t3)), (4, .int y4)]) hx hb dX5_periodAt_42 hl (k := 3) rfl ii_1 (by decide) rfl (fun ls hl => ?_)
          refine lv_goto (tgt := 12) hx hb dX5_periodAt_45 rfl ?_
          exact ih y4 (y5 + 1) hf _ _ _ X (lv_sub hl [1, 2, 3, 0] rfl)
        · refine lv_iload hx hb dX5_periodAt_30 (lv_at hl 2 rfl) ?_
          refine lv_iload_n hx hb dX5_periodAt_32 rfl (lv_at hl 0 rfl) ?_
          refine xr_icmp_ne (tgt := 39) hx hb dX5_periodAt_33 rfl hf (fun hf => ?_) (fun hf => ?_)
          · refine lv_iinc (v := (y4 + 1)) (lv' := [(4, .int (y4 + 1)), (2, .int y2), (3, .ref (ad t3)), (5, .int y5)]) hx hb dX5_periodAt_39 hl (k := 2) rfl ii_1 (by decide) rfl (fun ls hl => ?_)
            refine lv_iinc (v := (y5 + 1)) (lv' := [(5, .int (y5 + 1)), (4, .int (y4 + 1)), (2, .int y2), (3, .ref (ad t3))]) hx hb dX5_periodAt_42 hl (k := 3) rfl ii_1 (by decide) rfl (fun ls hl => ?_)
            refine lv_goto (tgt := 12) hx hb dX5_periodAt_45 rfl ?_
            exact ih (y4 + 1) (y5 + 1) hf _ _ _ X (lv_sub hl [2, 3, 1, 0] rfl)
          · refine lv_iload hx hb dX5_periodAt_36 (lv_at hl 3 rfl) ?_
            cases hf
  rw [fX5_periodAt] at hf
  refine lv_aload_n hx hb dX5_periodAt_0 rfl (lv_at hl 0 rfl) ?_
  refine lv_iload_n hx hb dX5_periodAt_1 rfl (lv_at hl 1 rfl) ?_
  refine xb hf (fun v1 hv1 hf => ?_)
  refine exb_c hf (fun e9 h9 hf => ?_) (fun r2 h9 hf => ?_)
  · cases hf
    exact xt_V (rest := []) ⟨hx, hb, hml, hown, hts⟩ (eX5_textOf htr (exo_s hv1 h9)) (cwV 1 hts gX5_periodAt_X5_textOf rfl rfl rfl hqX5_textOf ⟨Nat.le_of_ble_eq_true rfl, Nat.le_of_ble_eq_true rfl⟩) X hT (va_recv X.1 X.2.1 (ci := 1) (q0 := 14) rfl wlC_14) rfl hl.1 rfl (Nat.le_of_ble_eq_true rfl) dX5_periodAt_2 ⟨Nat.le_of_ble_eq_true rfl, Nat.le_of_ble_eq_true rfl⟩ hexc hlocks
  · have hr2 : r2 < 7 := fX5_textOf_lt (exo_s hv1 h9)
    refine xc_V1 (rest := []) ⟨hx, hb, hml, hown, hts⟩ (mX5_textOf (exo_s hv1 h9)) (cwV 1 hts gX5_periodAt_X5_textOf rfl rfl rfl hqX5_textOf ⟨Nat.le_of_ble_eq_true rfl, Nat.le_of_ble_eq_true rfl⟩) X (va_recv X.1 X.2.1 (ci := 1) (q0 := 14) rfl wlC_14) rfl hl.1 rfl (Nat.le_of_ble_eq_true rfl) dX5_periodAt_2 ⟨Nat.zero_le _, Nat.zero_le _⟩ (fun H locs X => ?_)
    refine lv_astore_n (lv' := [(3, .ref (ad r2)), (0, .ref (ad 14)), (1, .int x1), (2, .int x2)]) hx hb dX5_periodAt_5 rfl hl (by decide) rfl (fun ls hl => ?_)
    refine lv_iconst (v := (0 : Int32)) hx hb dX5_periodAt_6 rfl ?_
    refine lv_istore (lv' := [(4, .int (0 : Int32)), (3, .ref (ad r2)), (0, .ref (ad 14)), (1, .int x1), (2, .int x2)]) hx hb dX5_periodAt_7 hl (by decide) rfl (fun ls hl => ?_)
    refine lv_iconst (v := (1 : Int32)) hx hb dX5_periodAt_9 rfl ?_
    refine lv_istore (lv' := [(5, .int (1 : Int32)), (4, .int (0 : Int32)), (3, .ref (ad r2)), (0, .ref (ad 14)), (1, .int x1), (2, .int x2)]) hx hb dX5_periodAt_10 hl (by decide) rfl (fun ls hl => ?_)
    exact w12 x2 r2 hr2 fu (0 : Int32) (1 : Int32) hf _ _ _ X (lv_sub hl [5, 2, 1, 0] rfl)
set_option maxRecDepth 100000 in
set_option maxHeartbeats 4000000 in
theorem mX5_border {l : Launch} {dd : va_G} {cy : Nat → ClassId} {ad : Nat → Nat} {A : Nat → Prop} {fu : Nat} {ts : Nat → Int32} {tc : Nat → Nat → Int32} {rk : Nat → Int32} {pl : Nat → Int32} {ru : Nat → Int64} {sl : Nat → Int32} {bg : Nat → Int32} {kn : Nat → Int64} {rm : Int32} {ol : Nat → Int64} {od : Nat → UInt64} {x1 : Int32} {x2 : Int32} {rv : Int32} {tso : Nat → Int32} {tco : Nat → Nat → Int32} (hf : fX5_border fu ts tc x1 x2 = some (.ok rv, tso, tco)) : Met l yX5_border wsX5_border { frames := 6, cells := 0, slots := 0, locals := 132 } (va_Pc [.ref (ad 14), .int x1, .int x2] (IW dd cy A (wlC ad cy ts tc rk pl ru sl bg kn rm ol od))) (QX dd cy A (some (.int rv)) (wlC ad cy tso tco rk pl ru sl bg kn rm ol od)) 0 0 A := by
  refine Met.ofW (cc := cX5_border) (maxL := 5) (ret := some .int) (by decide) rfl ?_
  intro p e s m args below meth c s₁ B hml hv
  obtain ⟨hav, hI⟩ := hv
  have hx := B.exec
  have hb := B.bytes
  have hr := B.returns
  have hts := atoms_spec (ws := wsX5_border) B.pre
  have hown : s.vm.findClass RX5 = some m.cls := findClass_of_methodNamed B.named
  have hlocks := B.notSynchronized
  have X := XW.of hI
  refine xe_in hav (Nat.le_of_ble_eq_true rfl) rfl (fun ls hl => ?_)
  rw [fX5_border] at hf
  refine lv_aload_n hx hb dX5_border_0 rfl (lv_at hl 0 rfl) ?_
  refine lv_iload_n hx hb dX5_border_1 rfl (lv_at hl 1 rfl) ?_
  refine xb hf (fun v1 hv1 hf => ?_)
  refine exb_c hf (fun e9 h9 hf => ?_) (fun r2 h9 hf => ?_)
  · cases hf
  · have hr2 : r2 < 7 := fX5_textOf_lt (exo_s hv1 h9)
    refine xc_V1 (rest := []) ⟨hx, hb, hml, hown, hts⟩ (mX5_textOf (exo_s hv1 h9)) (cwV 1 hts gX5_border_X5_textOf rfl rfl rfl hqX5_textOf ⟨Nat.le_of_ble_eq_true rfl, Nat.le_of_ble_eq_true rfl⟩) X (va_recv X.1 X.2.1 (ci := 1) (q0 := 14) rfl wlC_14) rfl hl.1 rfl (Nat.le_of_ble_eq_true rfl) dX5_border_2 ⟨Nat.zero_le _, Nat.zero_le _⟩ (fun H locs X => ?_)
    refine lv_astore_n (lv' := [(3, .ref (ad r2)), (0, .ref (ad 14)), (1, .int x1), (2, .int x2)]) hx hb dX5_border_5 rfl hl (by decide) rfl (fun ls hl => ?_)
    refine lv_aload_n hx hb dX5_border_6 rfl (lv_at hl 1 rfl) ?_
    refine lv_iload_n hx hb dX5_border_7 rfl (lv_at hl 3 rfl) ?_
    refine xb hf (fun v3 hv3 hf => ?_)
    refine exb_c hf (fun e9 h9 hf => ?_) (fun r4 h9 hf => ?_)
    · cases hf
    · have hr4 : r4 < 7 := fX5_textOf_lt (exo_s hv3 h9)
      refine xc_V1 (rest := []) ⟨hx, hb, hml, hown, hts⟩ (mX5_textOf (exo_s hv3 h9)) (cwV 1 hts gX5_border_X5_textOf rfl rfl rfl hqX5_textOf ⟨Nat.le_of_ble_eq_true rfl, Nat.le_of_ble_eq_true rfl⟩) X (va_recv X.1 X.2.1 (ci := 1) (q0 := 14) rfl wlC_14) rfl hl.1 rfl (Nat.le_of_ble_eq_true rfl) dX5_border_8 ⟨Nat.zero_le _, Nat.zero_le _⟩ (fun H locs X => ?_)
      refine lv_astore (lv' := [(4, .ref (ad r4)), (3, .ref (ad r2)), (0, .ref (ad 14)), (1, .int x1), (2, .int x2)]) hx hb dX5_border_11 hl (by decide) rfl (fun ls hl => ?_)
      refine lv_aload hx hb dX5_border_13 (lv_at hl 0 rfl) ?_
      refine xb hf (fun v5 hv5 hf => ?_)
      refine exb_c hf (fun e9 h9 hf => ?_) (fun r6 h9 hf => ?_)
      · cases hf
      · refine xc_S0 (rest := []) ⟨hx, hb, hml, hown, hts⟩ (mX5_requireNotEmpty hr4 (exo_s hv5 h9)) (va_cwS 1 hts gX5_border_X5_requireNotEmpty rfl rfl rfl hqX5_requireNotEmpty ⟨Nat.le_of_ble_eq_true rfl, Nat.le_of_ble_eq_true rfl⟩) X rfl hl.1 rfl (Nat.le_of_ble_eq_true rfl) dX5_border_15 ⟨Nat.zero_le _, Nat.zero_le _⟩ (fun H locs X => ?_)
        refine lv_aload_n hx hb dX5_border_18 rfl (lv_at hl 2 rfl) ?_
        refine lv_aload_n hx hb dX5_border_19 rfl (lv_at hl 1 rfl) ?_
        refine lv_aload hx hb dX5_border_20 (lv_at hl 0 rfl) ?_
        refine lv_aload hx hb dX5_border_22 (lv_at hl 0 rfl) ?_
        refine xb hf (fun v7 hv hf => ?_)
        refine xc_V1 (rest := [.ref (ad r4), .ref (ad r2), .ref (ad 14)]) ⟨hx, hb, hml, hown, hts⟩ (mX4_leastPeriod hr4 hv) (cwV 0 hts gX5_border_X4_leastPeriod rfl rfl rfl hqX4_leastPeriod ⟨Nat.le_of_ble_eq_true rfl, Nat.le_of_ble_eq_true rfl⟩) X (va_recv X.1 X.2.1 (ci := 0) (q0 := r4) rfl (wlC_t hr4)) rfl hl.1 rfl (Nat.le_of_ble_eq_true rfl) dX5_border_24 ⟨Nat.zero_le _, Nat.zero_le _⟩ (fun H locs X => ?_)
        refine lv_aload hx hb dX5_border_27 (lv_at hl 0 rfl) ?_
        refine xb hf (fun v8 hv hf => ?_)
        refine xc_V1 (rest := [.int v7, .ref (ad r4), .ref (ad r2), .ref (ad 14)]) ⟨hx, hb, hml, hown, hts⟩ (mX4_size hr4 hv) (cwV 0 hts gX5_border_X4_size rfl rfl rfl hqX4_size ⟨Nat.le_of_ble_eq_true rfl, Nat.le_of_ble_eq_true rfl⟩) X (va_recv X.1 X.2.1 (ci := 0) (q0 := r4) rfl (wlC_t hr4)) rfl hl.1 rfl (Nat.le_of_ble_eq_true rfl) dX5_border_29 ⟨Nat.zero_le _, Nat.zero_le _⟩ (fun H locs X => ?_)
        refine xb hf (fun v9 hv hf => ?_)
        refine xc_V1 (rest := []) ⟨hx, hb, hml, hown, hts⟩ (mX5_becomePart hr2 hr4 hv) (cwV 4 hts gX5_border_X5_becomePart rfl rfl rfl hqX5_becomePart ⟨Nat.le_of_ble_eq_true rfl, Nat.le_of_ble_eq_true rfl⟩) X (va_recv X.1 X.2.1 (ci := 1) (q0 := 14) rfl wlC_14) rfl hl.1 rfl (Nat.le_of_ble_eq_true rfl) dX5_border_32 ⟨Nat.zero_le _, Nat.zero_le _⟩ (fun H locs X => ?_)
        cases hf
        exact xe_i hx hb hr hlocks X dX5_border_35
set_option maxRecDepth 100000 in
set_option maxHeartbeats 4000000 in
theorem eX5_border {l : Launch} {dd : va_G} {cy : Nat → ClassId} {ad : Nat → Nat} {A : Nat → Prop} {fu : Nat} {ts : Nat → Int32} {tc : Nat → Nat → Int32} {rk : Nat → Int32} {pl : Nat → Int32} {ru : Nat → Int64} {sl : Nat → Int32} {bg : Nat → Int32} {kn : Nat → Int64} {rm : Int32} {ol : Nat → Int64} {od : Nat → UInt64} {x1 : Int32} {x2 : Int32} {E9 : String} {tso : Nat → Int32} {tco : Nat → Nat → Int32} (htr : l.stackTraces = false) (hf : fX5_border fu ts tc x1 x2 = some (.error E9, tso, tco)) : vx_Met l yX5_border wsX5_border { frames := 7, cells := 1, slots := 6, locals := 132 } (va_Pc [.ref (ad 14), .int x1, .int x2] (IT dd cy A (wlC ad cy ts tc rk pl ru sl bg kn rm ol od))) (fun _ _ _ _ => False) (XE dd cy A E9 (wlC ad cy tso tco rk pl ru sl bg kn rm ol od)) 1 6 A := by
  refine vx_ofW (cc := cX5_border) (maxL := 5) (ret := some .int) (by decide) rfl ?_
  intro p e s m args below meth c s₁ B hml hexc hv
  obtain ⟨hav, hI, hT⟩ := hv
  have hx := B.exec
  have hb := B.bytes
  have hr := B.returns
  have hts := atoms_spec (ws := wsX5_border) B.pre
  have hown : s.vm.findClass RX5 = some m.cls := findClass_of_methodNamed B.named
  have hlocks := B.notSynchronized
  have X := XW.of hI
  refine xe_in hav (Nat.le_of_ble_eq_true rfl) rfl (fun ls hl => ?_)
  rw [fX5_border] at hf
  refine lv_aload_n hx hb dX5_border_0 rfl (lv_at hl 0 rfl) ?_
  refine lv_iload_n hx hb dX5_border_1 rfl (lv_at hl 1 rfl) ?_
  refine xb hf (fun v1 hv1 hf => ?_)
  refine exb_c hf (fun e9 h9 hf => ?_) (fun r2 h9 hf => ?_)
  · cases hf
    exact xt_V (rest := []) ⟨hx, hb, hml, hown, hts⟩ (eX5_textOf htr (exo_s hv1 h9)) (cwV 1 hts gX5_border_X5_textOf rfl rfl rfl hqX5_textOf ⟨Nat.le_of_ble_eq_true rfl, Nat.le_of_ble_eq_true rfl⟩) X hT (va_recv X.1 X.2.1 (ci := 1) (q0 := 14) rfl wlC_14) rfl hl.1 rfl (Nat.le_of_ble_eq_true rfl) dX5_border_2 ⟨Nat.le_of_ble_eq_true rfl, Nat.le_of_ble_eq_true rfl⟩ hexc hlocks
  · have hr2 : r2 < 7 := fX5_textOf_lt (exo_s hv1 h9)
    refine xc_V1 (rest := []) ⟨hx, hb, hml, hown, hts⟩ (mX5_textOf (exo_s hv1 h9)) (cwV 1 hts gX5_border_X5_textOf rfl rfl rfl hqX5_textOf ⟨Nat.le_of_ble_eq_true rfl, Nat.le_of_ble_eq_true rfl⟩) X (va_recv X.1 X.2.1 (ci := 1) (q0 := 14) rfl wlC_14) rfl hl.1 rfl (Nat.le_of_ble_eq_true rfl) dX5_border_2 ⟨Nat.zero_le _, Nat.zero_le _⟩ (fun H locs X => ?_)
    refine lv_astore_n (lv' := [(3, .ref (ad r2)), (0, .ref (ad 14)), (1, .int x1), (2, .int x2)]) hx hb dX5_border_5 rfl hl (by decide) rfl (fun ls hl => ?_)
    refine lv_aload_n hx hb dX5_border_6 rfl (lv_at hl 1 rfl) ?_
    refine lv_iload_n hx hb dX5_border_7 rfl (lv_at hl 3 rfl) ?_
    refine xb hf (fun v3 hv3 hf => ?_)
    refine exb_c hf (fun e9 h9 hf => ?_) (fun r4 h9 hf => ?_)
    · cases hf
      exact xt_V (rest := []) ⟨hx, hb, hml, hown, hts⟩ (eX5_textOf htr (exo_s hv3 h9)) (cwV 1 hts gX5_border_X5_textOf rfl rfl rfl hqX5_textOf ⟨Nat.le_of_ble_eq_true rfl, Nat.le_of_ble_eq_true rfl⟩) X hT (va_recv X.1 X.2.1 (ci := 1) (q0 := 14) rfl wlC_14) rfl hl.1 rfl (Nat.le_of_ble_eq_true rfl) dX5_border_8 ⟨Nat.le_of_ble_eq_true rfl, Nat.le_of_ble_eq_true rfl⟩ hexc hlocks
    · have hr4 : r4 < 7 := fX5_textOf_lt (exo_s hv3 h9)
      refine xc_V1 (rest := []) ⟨hx, hb, hml, hown, hts⟩ (mX5_textOf (exo_s hv3 h9)) (cwV 1 hts gX5_border_X5_textOf rfl rfl rfl hqX5_textOf ⟨Nat.le_of_ble_eq_true rfl, Nat.le_of_ble_eq_true rfl⟩) X (va_recv X.1 X.2.1 (ci := 1) (q0 := 14) rfl wlC_14) rfl hl.1 rfl (Nat.le_of_ble_eq_true rfl) dX5_border_8 ⟨Nat.zero_le _, Nat.zero_le _⟩ (fun H locs X => ?_)
      refine lv_astore (lv' := [(4, .ref (ad r4)), (3, .ref (ad r2)), (0, .ref (ad 14)), (1, .int x1), (2, .int x2)]) hx hb dX5_border_11 hl (by decide) rfl (fun ls hl => ?_)
      refine lv_aload hx hb dX5_border_13 (lv_at hl 0 rfl) ?_
      refine xb hf (fun v5 hv5 hf => ?_)
      refine exb_c hf (fun e9 h9 hf => ?_) (fun r6 h9 hf => ?_)
      · cases hf
        exact xt_S (rest := []) ⟨hx, hb, hml, hown, hts⟩ (eX5_requireNotEmpty htr hr4 (exo_s hv5 h9)) (va_cwS 1 hts gX5_border_X5_requireNotEmpty rfl rfl rfl hqX5_requireNotEmpty ⟨Nat.le_of_ble_eq_true rfl, Nat.le_of_ble_eq_true rfl⟩) X hT rfl hl.1 rfl (Nat.le_of_ble_eq_true rfl) dX5_border_15 ⟨Nat.le_of_ble_eq_true rfl, Nat.le_of_ble_eq_true rfl⟩ hexc hlocks
      · refine xc_S0 (rest := []) ⟨hx, hb, hml, hown, hts⟩ (mX5_requireNotEmpty hr4 (exo_s hv5 h9)) (va_cwS 1 hts gX5_border_X5_requireNotEmpty rfl rfl rfl hqX5_requireNotEmpty ⟨Nat.le_of_ble_eq_true rfl, Nat.le_of_ble_eq_true rfl⟩) X rfl hl.1 rfl (Nat.le_of_ble_eq_true rfl) dX5_border_15 ⟨Nat.zero_le _, Nat.zero_le _⟩ (fun H locs X => ?_)
        refine lv_aload_n hx hb dX5_border_18 rfl (lv_at hl 2 rfl) ?_
        refine lv_aload_n hx hb dX5_border_19 rfl (lv_at hl 1 rfl) ?_
        refine lv_aload hx hb dX5_border_20 (lv_at hl 0 rfl) ?_
        refine lv_aload hx hb dX5_border_22 (lv_at hl 0 rfl) ?_
        refine xb hf (fun v7 hv hf => ?_)
        refine xc_V1 (rest := [.ref (ad r4), .ref (ad r2), .ref (ad 14)]) ⟨hx, hb, hml, hown, hts⟩ (mX4_leastPeriod hr4 hv) (cwV 0 hts gX5_border_X4_leastPeriod rfl rfl rfl hqX4_leastPeriod ⟨Nat.le_of_ble_eq_true rfl, Nat.le_of_ble_eq_true rfl⟩) X (va_recv X.1 X.2.1 (ci := 0) (q0 := r4) rfl (wlC_t hr4)) rfl hl.1 rfl (Nat.le_of_ble_eq_true rfl) dX5_border_24 ⟨Nat.zero_le _, Nat.zero_le _⟩ (fun H locs X => ?_)
        refine lv_aload hx hb dX5_border_27 (lv_at hl 0 rfl) ?_
        refine xb hf (fun v8 hv hf => ?_)
        refine xc_V1 (rest := [.int v7, .ref (ad r4), .ref (ad r2), .ref (ad 14)]) ⟨hx, hb, hml, hown, hts⟩ (mX4_size hr4 hv) (cwV 0 hts gX5_border_X4_size rfl rfl rfl hqX4_size ⟨Nat.le_of_ble_eq_true rfl, Nat.le_of_ble_eq_true rfl⟩) X (va_recv X.1 X.2.1 (ci := 0) (q0 := r4) rfl (wlC_t hr4)) rfl hl.1 rfl (Nat.le_of_ble_eq_true rfl) dX5_border_29 ⟨Nat.zero_le _, Nat.zero_le _⟩ (fun H locs X => ?_)
        refine xb hf (fun v9 hv hf => ?_)
        refine xc_V1 (rest := []) ⟨hx, hb, hml, hown, hts⟩ (mX5_becomePart hr2 hr4 hv) (cwV 4 hts gX5_border_X5_becomePart rfl rfl rfl hqX5_becomePart ⟨Nat.le_of_ble_eq_true rfl, Nat.le_of_ble_eq_true rfl⟩) X (va_recv X.1 X.2.1 (ci := 1) (q0 := 14) rfl wlC_14) rfl hl.1 rfl (Nat.le_of_ble_eq_true rfl) dX5_border_32 ⟨Nat.zero_le _, Nat.zero_le _⟩ (fun H locs X => ?_)
        cases hf
set_option maxRecDepth 100000 in
set_option maxHeartbeats 4000000 in
theorem mX5_root {l : Launch} {dd : va_G} {cy : Nat → ClassId} {ad : Nat → Nat} {A : Nat → Prop} {fu : Nat} {ts : Nat → Int32} {tc : Nat → Nat → Int32} {rk : Nat → Int32} {pl : Nat → Int32} {ru : Nat → Int64} {sl : Nat → Int32} {bg : Nat → Int32} {kn : Nat → Int64} {rm : Int32} {ol : Nat → Int64} {od : Nat → UInt64} {x1 : Int32} {x2 : Int32} {rv : Int32} {tso : Nat → Int32} {tco : Nat → Nat → Int32} (hf : fX5_root fu ts tc x1 x2 = some (.ok rv, tso, tco)) : Met l yX5_root wsX5_root { frames := 6, cells := 0, slots := 0, locals := 132 } (va_Pc [.ref (ad 14), .int x1, .int x2] (IW dd cy A (wlC ad cy ts tc rk pl ru sl bg kn rm ol od))) (QX dd cy A (some (.int rv)) (wlC ad cy tso tco rk pl ru sl bg kn rm ol od)) 0 0 A := by
  refine Met.ofW (cc := cX5_root) (maxL := 7) (ret := some .int) (by decide) rfl ?_
  intro p e s m args below meth c s₁ B hml hv
  obtain ⟨hav, hI⟩ := hv
  have hx := B.exec
  have hb := B.bytes
  have hr := B.returns
  have hts := atoms_spec (ws := wsX5_root) B.pre
  have hown : s.vm.findClass RX5 = some m.cls := findClass_of_methodNamed B.named
  have hlocks := B.notSynchronized
  have X := XW.of hI
  refine xe_in hav (Nat.le_of_ble_eq_true rfl) rfl (fun ls hl => ?_)
  have w42 : ∀ (t3 : Nat) (t4 : Nat) (y5 : Int32) (ht3 : t3 < 7) (ht4 : t4 < 7) (s0 : Int32) (ts : Nat → Int32) (tc : Nat → Nat → Int32), fX5_root_42 fu t3 t4 y5 s0 ts tc = some (.ok rv, tso, tco) → ∀ (H : Heap) (locs : List Loc) (ls : Array Slot), XW dd cy A s (wlC ad cy ts tc rk pl ru sl bg kn rm ol od) H locs → lv_has ls 7 [(0, .ref (ad 14)), (3, .ref (ad t3)), (4, .ref (ad t4)), (5, .int y5)] → W p l e (headSpec wsX5_root { frames := 6, cells := 0, slots := 0, locals := 132 }).room s m args below meth c H locs 0 0 (MQ below (QX dd cy A (some (.int rv)) (wlC ad cy tso tco rk pl ru sl bg kn rm ol od)) args s 0 0 A) (F0 m 42 ls [.int s0]) := by
    intro t3 t4 y5 ht3 ht4 s0 ts tc hf H locs ls X hl
    rw [fX5_root_42] at hf
    refine lv_istore (lv' := [(6, .int s0), (0, .ref (ad 14)), (3, .ref (ad t3)), (4, .ref (ad t4)), (5, .int y5)]) hx hb dX5_root_42 hl (by decide) rfl (fun ls hl => ?_)
    refine lv_aload_n hx hb dX5_root_44 rfl (lv_at hl 1 rfl) ?_
    refine lv_aload_n hx hb dX5_root_45 rfl (lv_at hl 2 rfl) ?_
    refine lv_aload hx hb dX5_root_46 (lv_at hl 3 rfl) ?_
    refine lv_iconst (v := (0 : Int32)) hx hb dX5_root_48 rfl ?_
    refine lv_iload hx hb dX5_root_49 (lv_at hl 4 rfl) ?_
    refine xb hf (fun v8 hv hf => ?_)
    refine xc_V1 (rest := []) ⟨hx, hb, hml, hown, hts⟩ (mX5_becomePart ht3 ht4 hv) (cwV 4 hts gX5_root_X5_becomePart rfl rfl rfl hqX5_becomePart ⟨Nat.le_of_ble_eq_true rfl, Nat.le_of_ble_eq_true rfl⟩) X (va_recv X.1 X.2.1 (ci := 1) (q0 := 14) rfl wlC_14) rfl hl.1 rfl (Nat.le_of_ble_eq_true rfl) dX5_root_51 ⟨Nat.zero_le _, Nat.zero_le _⟩ (fun H locs X => ?_)
    refine lv_pop hx hb dX5_root_54 rfl ?_
    refine lv_iload hx hb dX5_root_55 (lv_at hl 0 rfl) ?_
    cases hf
    exact xe_i hx hb hr hlocks X dX5_root_57
  rw [fX5_root] at hf
  refine lv_aload_n hx hb dX5_root_0 rfl (lv_at hl 0 rfl) ?_
  refine lv_iload_n hx hb dX5_root_1 rfl (lv_at hl 1 rfl) ?_
  refine xb hf (fun v1 hv1 hf => ?_)
  refine exb_c hf (fun e9 h9 hf => ?_) (fun r2 h9 hf => ?_)
  · cases hf
  · have hr2 : r2 < 7 := fX5_textOf_lt (exo_s hv1 h9)
    refine xc_V1 (rest := []) ⟨hx, hb, hml, hown, hts⟩ (mX5_textOf (exo_s hv1 h9)) (cwV 1 hts gX5_root_X5_textOf rfl rfl rfl hqX5_textOf ⟨Nat.le_of_ble_eq_true rfl, Nat.le_of_ble_eq_true rfl⟩) X (va_recv X.1 X.2.1 (ci := 1) (q0 := 14) rfl wlC_14) rfl hl.1 rfl (Nat.le_of_ble_eq_true rfl) dX5_root_2 ⟨Nat.zero_le _, Nat.zero_le _⟩ (fun H locs X => ?_)
    refine lv_astore_n (lv' := [(3, .ref (ad r2)), (0, .ref (ad 14)), (1, .int x1), (2, .int x2)]) hx hb dX5_root_5 rfl hl (by decide) rfl (fun ls hl => ?_)
    refine lv_aload_n hx hb dX5_root_6 rfl (lv_at hl 1 rfl) ?_
    refine lv_iload_n hx hb dX5_root_7 rfl (lv_at hl 3 rfl) ?_
    refine xb hf (fun v3 hv3 hf => ?_)
    refine exb_c hf (fun e9 h9 hf => ?_) (fun r4 h9 hf => ?_)
    · cases hf
    · have hr4 : r4 < 7 := fX5_textOf_lt (exo_s hv3 h9)
      refine xc_V1 (rest := []) ⟨hx, hb, hml, hown, hts⟩ (mX5_textOf (exo_s hv3 h9)) (cwV 1 hts gX5_root_X5_textOf rfl rfl rfl hqX5_textOf ⟨Nat.le_of_ble_eq_true rfl, Nat.le_of_ble_eq_true rfl⟩) X (va_recv X.1 X.2.1 (ci := 1) (q0 := 14) rfl wlC_14) rfl hl.1 rfl (Nat.le_of_ble_eq_true rfl) dX5_root_8 ⟨Nat.zero_le _, Nat.zero_le _⟩ (fun H locs X => ?_)
      refine lv_astore (lv' := [(4, .ref (ad r4)), (3, .ref (ad r2)), (0, .ref (ad 14)), (1, .int x1), (2, .int x2)]) hx hb dX5_root_11 hl (by decide) rfl (fun ls hl => ?_)
      refine lv_aload hx hb dX5_root_13 (lv_at hl 0 rfl) ?_
      refine xb hf (fun v5 hv5 hf => ?_)
      refine exb_c hf (fun e9 h9 hf => ?_) (fun r6 h9 hf => ?_)
      · cases hf
      · refine xc_S0 (rest := []) ⟨hx, hb, hml, hown, hts⟩ (mX5_requireNotEmpty hr4 (exo_s hv5 h9)) (va_cwS 1 hts gX5_root_X5_requireNotEmpty rfl rfl rfl hqX5_requireNotEmpty ⟨Nat.le_of_ble_eq_true rfl, Nat.le_of_ble_eq_true rfl⟩) X rfl hl.1 rfl (Nat.le_of_ble_eq_true rfl) dX5_root_15 ⟨Nat.zero_le _, Nat.zero_le _⟩ (fun H locs X => ?_)
        refine lv_aload hx hb dX5_root_18 (lv_at hl 0 rfl) ?_
        refine xb hf (fun v7 hv hf => ?_)
        refine xc_V1 (rest := []) ⟨hx, hb, hml, hown, hts⟩ (mX4_rootSize hr4 hv) (cwV 0 hts gX5_root_X4_rootSize rfl rfl rfl hqX4_rootSize ⟨Nat.le_of_ble_eq_true rfl, Nat.le_of_ble_eq_true rfl⟩) X (va_recv X.1 X.2.1 (ci := 0) (q0 := r4) rfl (wlC_t hr4)) rfl hl.1 rfl (Nat.le_of_ble_eq_true rfl) dX5_root_20 ⟨Nat.zero_le _, Nat.zero_le _⟩ (fun H locs X => ?_)
        refine lv_istore (lv' := [(5, .int v7), (4, .ref (ad r4)), (3, .ref (ad r2)), (0, .ref (ad 14)), (1, .int x1), (2, .int x2)]) hx hb dX5_root_23 hl (by decide) rfl (fun ls hl => ?_)
        refine lv_iload hx hb dX5_root_25 (lv_at hl 0 rfl) ?_
        refine xr_if_le (tgt := 41) hx hb dX5_root_27 rfl hf (fun hf => ?_) (fun hf => ?_)
        · refine lv_iconst (v := (0 : Int32)) hx hb dX5_root_41 rfl ?_
          exact w42 r2 r4 v7 hr2 hr4 (0 : Int32) ts tc hf _ _ _ X (lv_sub hl [3, 2, 1, 0] rfl)
        · refine lv_aload hx hb dX5_root_30 (lv_at hl 1 rfl) ?_
          refine xb hf (fun v9 hv hf => ?_)
          refine xc_V1 (rest := []) ⟨hx, hb, hml, hown, hts⟩ (mX4_size hr4 hv) (cwV 0 hts gX5_root_X4_size rfl rfl rfl hqX4_size ⟨Nat.le_of_ble_eq_true rfl, Nat.le_of_ble_eq_true rfl⟩) X (va_recv X.1 X.2.1 (ci := 0) (q0 := r4) rfl (wlC_t hr4)) rfl hl.1 rfl (Nat.le_of_ble_eq_true rfl) dX5_root_32 ⟨Nat.zero_le _, Nat.zero_le _⟩ (fun H locs X => ?_)
          refine lv_iload hx hb dX5_root_35 (lv_at hl 0 rfl) ?_
          refine xr_idiv hx hb dX5_root_37 hf (fun v10 hf => ?_)
          refine lv_goto (tgt := 42) hx hb dX5_root_38 rfl ?_
          exact w42 r2 r4 v7 hr2 hr4 v10 ts tc hf _ _ _ X (lv_sub hl [3, 2, 1, 0] rfl)
set_option maxRecDepth 100000 in
set_option maxHeartbeats 4000000 in
theorem eX5_root {l : Launch} {dd : va_G} {cy : Nat → ClassId} {ad : Nat → Nat} {A : Nat → Prop} {fu : Nat} {ts : Nat → Int32} {tc : Nat → Nat → Int32} {rk : Nat → Int32} {pl : Nat → Int32} {ru : Nat → Int64} {sl : Nat → Int32} {bg : Nat → Int32} {kn : Nat → Int64} {rm : Int32} {ol : Nat → Int64} {od : Nat → UInt64} {x1 : Int32} {x2 : Int32} {E9 : String} {tso : Nat → Int32} {tco : Nat → Nat → Int32} (htr : l.stackTraces = false) (hf : fX5_root fu ts tc x1 x2 = some (.error E9, tso, tco)) : vx_Met l yX5_root wsX5_root { frames := 7, cells := 1, slots := 6, locals := 132 } (va_Pc [.ref (ad 14), .int x1, .int x2] (IT dd cy A (wlC ad cy ts tc rk pl ru sl bg kn rm ol od))) (fun _ _ _ _ => False) (XE dd cy A E9 (wlC ad cy tso tco rk pl ru sl bg kn rm ol od)) 1 6 A := by
  refine vx_ofW (cc := cX5_root) (maxL := 7) (ret := some .int) (by decide) rfl ?_
  intro p e s m args below meth c s₁ B hml hexc hv
  obtain ⟨hav, hI, hT⟩ := hv
  have hx := B.exec
  have hb := B.bytes
  have hr := B.returns
  have hts := atoms_spec (ws := wsX5_root) B.pre
  have hown : s.vm.findClass RX5 = some m.cls := findClass_of_methodNamed B.named
  have hlocks := B.notSynchronized
  have X := XW.of hI
  refine xe_in hav (Nat.le_of_ble_eq_true rfl) rfl (fun ls hl => ?_)
  have w42 : ∀ (t3 : Nat) (t4 : Nat) (y5 : Int32) (ht3 : t3 < 7) (ht4 : t4 < 7) (s0 : Int32) (ts : Nat → Int32) (tc : Nat → Nat → Int32), fX5_root_42 fu t3 t4 y5 s0 ts tc = some (.error E9, tso, tco) → ∀ (H : Heap) (locs : List Loc) (ls : Array Slot), XW dd cy A s (wlC ad cy ts tc rk pl ru sl bg kn rm ol od) H locs → lv_has ls 7 [(0, .ref (ad 14)), (3, .ref (ad t3)), (4, .ref (ad t4)), (5, .int y5)] → W p l e (headSpec wsX5_root { frames := 7, cells := 1, slots := 6, locals := 132 }).room s m args below meth c H locs 0 0 (vx_MQ below (fun _ _ _ _ => False) (XE dd cy A E9 (wlC ad cy tso tco rk pl ru sl bg kn rm ol od)) args s 1 6 A) (F0 m 42 ls [.int s0]) := by
    intro t3 t4 y5 ht3 ht4 s0 ts tc hf H locs ls X hl
    rw [fX5_root_42] at hf
    refine lv_istore (lv' := [(6, .int s0), (0, .ref (ad 14)), (3, .ref (ad t3)), (4, .ref (ad t4)), (5, .int y5)]) hx hb dX5_root_42 hl (by decide) rfl (fun ls hl => ?_)
    refine lv_aload_n hx hb dX5_root_44 rfl (lv_at hl 1 rfl) ?_
    refine lv_aload_n hx hb dX5_root_45 rfl (lv_at hl 2 rfl) ?_
    refine lv_aload hx hb dX5_root_46 (lv_at hl 3 rfl) ?_
    refine lv_iconst (v := (0 : Int32)) hx hb dX5_root_48 rfl ?_
    refine lv_iload hx hb dX5_root_49 (lv_at hl 4 rfl) ?_
    refine xb hf (fun v8 hv hf => ?_)
    refine xc_V1 (rest := []) ⟨hx, hb, hml, hown, hts⟩ (mX5_becomePart ht3 ht4 hv) (cwV 4 hts gX5_root_X5_becomePart rfl rfl rfl hqX5_becomePart ⟨Nat.le_of_ble_eq_true rfl, Nat.le_of_ble_eq_true rfl⟩) X (va_recv X.1 X.2.1 (ci := 1) (q0 := 14) rfl wlC_14) rfl hl.1 rfl (Nat.le_of_ble_eq_true rfl) dX5_root_51 ⟨Nat.zero_le _, Nat.zero_le _⟩ (fun H locs X => ?_)
    refine lv_pop hx hb dX5_root_54 rfl ?_
    refine lv_iload hx hb dX5_root_55 (lv_at hl 0 rfl) ?_
    cases hf
  rw [fX5_root] at hf
  refine lv_aload_n hx hb dX5_root_0 rfl (lv_at hl 0 rfl) ?_
  refine lv_iload_n hx hb dX5_root_1 rfl (lv_at hl 1 rfl) ?_
  refine xb hf (fun v1 hv1 hf => ?_)
  refine exb_c hf (fun e9 h9 hf => ?_) (fun r2 h9 hf => ?_)
  · cases hf
    exact xt_V (rest := []) ⟨hx, hb, hml, hown, hts⟩ (eX5_textOf htr (exo_s hv1 h9)) (cwV 1 hts gX5_root_X5_textOf rfl rfl rfl hqX5_textOf ⟨Nat.le_of_ble_eq_true rfl, Nat.le_of_ble_eq_true rfl⟩) X hT (va_recv X.1 X.2.1 (ci := 1) (q0 := 14) rfl wlC_14) rfl hl.1 rfl (Nat.le_of_ble_eq_true rfl) dX5_root_2 ⟨Nat.le_of_ble_eq_true rfl, Nat.le_of_ble_eq_true rfl⟩ hexc hlocks
  · have hr2 : r2 < 7 := fX5_textOf_lt (exo_s hv1 h9)
    refine xc_V1 (rest := []) ⟨hx, hb, hml, hown, hts⟩ (mX5_textOf (exo_s hv1 h9)) (cwV 1 hts gX5_root_X5_textOf rfl rfl rfl hqX5_textOf ⟨Nat.le_of_ble_eq_true rfl, Nat.le_of_ble_eq_true rfl⟩) X (va_recv X.1 X.2.1 (ci := 1) (q0 := 14) rfl wlC_14) rfl hl.1 rfl (Nat.le_of_ble_eq_true rfl) dX5_root_2 ⟨Nat.zero_le _, Nat.zero_le _⟩ (fun H locs X => ?_)
    refine lv_astore_n (lv' := [(3, .ref (ad r2)), (0, .ref (ad 14)), (1, .int x1), (2, .int x2)]) hx hb dX5_root_5 rfl hl (by decide) rfl (fun ls hl => ?_)
    refine lv_aload_n hx hb dX5_root_6 rfl (lv_at hl 1 rfl) ?_
    refine lv_iload_n hx hb dX5_root_7 rfl (lv_at hl 3 rfl) ?_
    refine xb hf (fun v3 hv3 hf => ?_)
    refine exb_c hf (fun e9 h9 hf => ?_) (fun r4 h9 hf => ?_)
    · cases hf
      exact xt_V (rest := []) ⟨hx, hb, hml, hown, hts⟩ (eX5_textOf htr (exo_s hv3 h9)) (cwV 1 hts gX5_root_X5_textOf rfl rfl rfl hqX5_textOf ⟨Nat.le_of_ble_eq_true rfl, Nat.le_of_ble_eq_true rfl⟩) X hT (va_recv X.1 X.2.1 (ci := 1) (q0 := 14) rfl wlC_14) rfl hl.1 rfl (Nat.le_of_ble_eq_true rfl) dX5_root_8 ⟨Nat.le_of_ble_eq_true rfl, Nat.le_of_ble_eq_true rfl⟩ hexc hlocks
    · have hr4 : r4 < 7 := fX5_textOf_lt (exo_s hv3 h9)
      refine xc_V1 (rest := []) ⟨hx, hb, hml, hown, hts⟩ (mX5_textOf (exo_s hv3 h9)) (cwV 1 hts gX5_root_X5_textOf rfl rfl rfl hqX5_textOf ⟨Nat.le_of_ble_eq_true rfl, Nat.le_of_ble_eq_true rfl⟩) X (va_recv X.1 X.2.1 (ci := 1) (q0 := 14) rfl wlC_14) rfl hl.1 rfl (Nat.le_of_ble_eq_true rfl) dX5_root_8 ⟨Nat.zero_le _, Nat.zero_le _⟩ (fun H locs X => ?_)
      refine lv_astore (lv' := [(4, .ref (ad r4)), (3, .ref (ad r2)), (0, .ref (ad 14)), (1, .int x1), (2, .int x2)]) hx hb dX5_root_11 hl (by decide) rfl (fun ls hl => ?_)
      refine lv_aload hx hb dX5_root_13 (lv_at hl 0 rfl) ?_
      refine xb hf (fun v5 hv5 hf => ?_)
      refine exb_c hf (fun e9 h9 hf => ?_) (fun r6 h9 hf => ?_)
      · cases hf
        exact xt_S (rest := []) ⟨hx, hb, hml, hown, hts⟩ (eX5_requireNotEmpty htr hr4 (exo_s hv5 h9)) (va_cwS 1 hts gX5_root_X5_requireNotEmpty rfl rfl rfl hqX5_requireNotEmpty ⟨Nat.le_of_ble_eq_true rfl, Nat.le_of_ble_eq_true rfl⟩) X hT rfl hl.1 rfl (Nat.le_of_ble_eq_true rfl) dX5_root_15 ⟨Nat.le_of_ble_eq_true rfl, Nat.le_of_ble_eq_true rfl⟩ hexc hlocks
      · refine xc_S0 (rest := []) ⟨hx, hb, hml, hown, hts⟩ (mX5_requireNotEmpty hr4 (exo_s hv5 h9)) (va_cwS 1 hts gX5_root_X5_requireNotEmpty rfl rfl rfl hqX5_requireNotEmpty ⟨Nat.le_of_ble_eq_true rfl, Nat.le_of_ble_eq_true rfl⟩) X rfl hl.1 rfl (Nat.le_of_ble_eq_true rfl) dX5_root_15 ⟨Nat.zero_le _, Nat.zero_le _⟩ (fun H locs X => ?_)
        refine lv_aload hx hb dX5_root_18 (lv_at hl 0 rfl) ?_
        refine xb hf (fun v7 hv hf => ?_)
        refine xc_V1 (rest := []) ⟨hx, hb, hml, hown, hts⟩ (mX4_rootSize hr4 hv) (cwV 0 hts gX5_root_X4_rootSize rfl rfl rfl hqX4_rootSize ⟨Nat.le_of_ble_eq_true rfl, Nat.le_of_ble_eq_true rfl⟩) X (va_recv X.1 X.2.1 (ci := 0) (q0 := r4) rfl (wlC_t hr4)) rfl hl.1 rfl (Nat.le_of_ble_eq_true rfl) dX5_root_20 ⟨Nat.zero_le _, Nat.zero_le _⟩ (fun H locs X => ?_)
        refine lv_istore (lv' := [(5, .int v7), (4, .ref (ad r4)), (3, .ref (ad r2)), (0, .ref (ad 14)), (1, .int x1), (2, .int x2)]) hx hb dX5_root_23 hl (by decide) rfl (fun ls hl => ?_)
        refine lv_iload hx hb dX5_root_25 (lv_at hl 0 rfl) ?_
        refine xr_if_le (tgt := 41) hx hb dX5_root_27 rfl hf (fun hf => ?_) (fun hf => ?_)
        · refine lv_iconst (v := (0 : Int32)) hx hb dX5_root_41 rfl ?_
          exact w42 r2 r4 v7 hr2 hr4 (0 : Int32) ts tc hf _ _ _ X (lv_sub hl [3, 2, 1, 0] rfl)
        · refine lv_aload hx hb dX5_root_30 (lv_at hl 1 rfl) ?_
          refine xb hf (fun v9 hv hf => ?_)
          refine xc_V1 (rest := []) ⟨hx, hb, hml, hown, hts⟩ (mX4_size hr4 hv) (cwV 0 hts gX5_root_X4_size rfl rfl rfl hqX4_size ⟨Nat.le_of_ble_eq_true rfl, Nat.le_of_ble_eq_true rfl⟩) X (va_recv X.1 X.2.1 (ci := 0) (q0 := r4) rfl (wlC_t hr4)) rfl hl.1 rfl (Nat.le_of_ble_eq_true rfl) dX5_root_32 ⟨Nat.zero_le _, Nat.zero_le _⟩ (fun H locs X => ?_)
          refine lv_iload hx hb dX5_root_35 (lv_at hl 0 rfl) ?_
          refine xr_idiv hx hb dX5_root_37 hf (fun v10 hf => ?_)
          refine lv_goto (tgt := 42) hx hb dX5_root_38 rfl ?_
          exact w42 r2 r4 v7 hr2 hr4 v10 ts tc hf _ _ _ X (lv_sub hl [3, 2, 1, 0] rfl)
set_option maxRecDepth 100000 in
set_option maxHeartbeats 4000000 in
theorem mX5_turnTo {l : Launch} {dd : va_G} {cy : Nat → ClassId} {ad : Nat → Nat} {A : Nat → Prop} {fu : Nat} {ts : Nat → Int32} {tc : Nat → Nat → Int32} {rk : Nat → Int32} {pl : Nat → Int32} {ru : Nat → Int64} {sl : Nat → Int32} {bg : Nat → Int32} {kn : Nat → Int64} {rm : Int32} {ol : Nat → Int64} {od : Nat → UInt64} {x1 : Int32} {x2 : Int32} {rv : Int32} (hf : fX5_turnTo fu ts tc x1 x2 = some (.ok rv)) : Met l yX5_turnTo wsX5_turnTo { frames := 3, cells := 0, slots := 0, locals := 79 } (va_Pc [.ref (ad 14), .int x1, .int x2] (IW dd cy A (wlC ad cy ts tc rk pl ru sl bg kn rm ol od))) (QX dd cy A (some (.int rv)) (wlC ad cy ts tc rk pl ru sl bg kn rm ol od)) 0 0 A := by
  refine Met.ofW (cc := cX5_turnTo) (maxL := 6) (ret := some .int) (by decide) rfl ?_
  intro p e s m args below meth c s₁ B hml hv
  obtain ⟨hav, hI⟩ := hv
  have hx := B.exec
  have hb := B.bytes
  have hr := B.returns
  have hts := atoms_spec (ws := wsX5_turnTo) B.pre
  have hown : s.vm.findClass RX5 = some m.cls := findClass_of_methodNamed B.named
  have hlocks := B.notSynchronized
  have X := XW.of hI
  refine xe_in hav (Nat.le_of_ble_eq_true rfl) rfl (fun ls hl => ?_)
  have w16 : ∀ (t3 : Nat) (t4 : Nat) (ht3 : t3 < 7) (ht4 : t4 < 7) (n : Nat) (y5 : Int32), fX5_turnTo_16 fu ts tc t3 t4 n y5 = some (.ok rv) → ∀ (H : Heap) (locs : List Loc) (ls : Array Slot), XW dd cy A s (wlC ad cy ts tc rk pl ru sl bg kn rm ol od) H locs → lv_has ls 6 [(3, .ref (ad t3)), (4, .ref (ad t4)), (5, .int y5)] → W p l e (headSpec wsX5_turnTo { frames := 3, cells := 0, slots := 0, locals := 79 }).room s m args below meth c H locs 0 0 (MQ below (QX dd cy A (some (.int rv)) (wlC ad cy ts tc rk pl ru sl bg kn rm ol od)) args s 0 0 A) (F0 m 16 ls []) := by
    intro t3 t4 ht3 ht4 n
    induction n with
    | zero => intro y5 hf; exact absurd hf (by simp [fX5_turnTo_16])
    | succ n ih =>
      intro y5 hf H locs ls X hl
      rw [fX5_turnTo_16] at hf
      refine lv_iload hx hb dX5_turnTo_16 (lv_at hl 2 rfl) ?_
      refine lv_aload_n hx hb dX5_turnTo_18 rfl (lv_at hl 0 rfl) ?_
      refine xb hf (fun v5 hv hf => ?_)
      refine xc_V1 (rest := [.int y5]) ⟨hx, hb, hml, hown, hts⟩ (mX4_size ht3 hv) (cwV 0 hts gX5_turnTo_X4_size rfl rfl rfl hqX4_size ⟨Nat.le_of_ble_eq_true rfl, Nat.le_of_ble_eq_true rfl⟩) X (va_recv X.1 X.2.1 (ci := 0) (q0 := t3) rfl (wlC_t ht3)) rfl hl.1 rfl (Nat.le_of_ble_eq_true rfl) dX5_turnTo_19 ⟨Nat.zero_le _, Nat.zero_le _⟩ (fun H locs X => ?_)
      refine xr_icmp_gt (tgt := 45) hx hb dX5_turnTo_22 rfl hf (fun hf => ?_) (fun hf => ?_)
      · refine lv_iconst (v := (-1 : Int32)) hx hb dX5_turnTo_45 rfl ?_
        cases hf
        exact xe_i hx hb hr hlocks X dX5_turnTo_46
      · refine lv_aload_n hx hb dX5_turnTo_25 rfl (lv_at hl 0 rfl) ?_
        refine lv_iload hx hb dX5_turnTo_26 (lv_at hl 2 rfl) ?_
        refine lv_aload hx hb dX5_turnTo_28 (lv_at hl 1 rfl) ?_
        refine xb hf (fun v6 hv hf => ?_)
        refine xc_V1 (rest := []) ⟨hx, hb, hml, hown, hts⟩ (mX4_isTurnedTo ht3 ht4 hv) (cwV 2 hts gX5_turnTo_X4_isTurnedTo rfl rfl rfl hqX4_isTurnedTo ⟨Nat.le_of_ble_eq_true rfl, Nat.le_of_ble_eq_true rfl⟩) X (va_recv X.1 X.2.1 (ci := 0) (q0 := t3) rfl (wlC_t ht3)) rfl hl.1 rfl (Nat.le_of_ble_eq_true rfl) dX5_turnTo_30 ⟨Nat.zero_le _, Nat.zero_le _⟩ (fun H locs X => ?_)
        refine xr_if_eq (tgt := 39) hx hb dX5_turnTo_33 rfl hf (fun hf => ?_) (fun hf => ?_)
        · refine lv_iinc (v := (y5 + 1)) (lv' := [(5, .int (y5 + 1)), (3, .ref (ad t3)), (4, .ref (ad t4))]) hx hb dX5_turnTo_39 hl (k := 2) rfl ii_1 (by decide) rfl (fun ls hl => ?_)
          refine lv_goto (tgt := 16) hx hb dX5_turnTo_42 rfl ?_
          exact ih (y5 + 1) hf _ _ _ X (lv_sub hl [1, 2, 0] rfl)
        · refine lv_iload hx hb dX5_turnTo_36 (lv_at hl 2 rfl) ?_
          cases hf
          exact xe_i hx hb hr hlocks X dX5_turnTo_38
  rw [fX5_turnTo] at hf
  refine lv_aload_n hx hb dX5_turnTo_0 rfl (lv_at hl 0 rfl) ?_
  refine lv_iload_n hx hb dX5_turnTo_1 rfl (lv_at hl 1 rfl) ?_
  refine xb hf (fun v1 hv1 hf => ?_)
  refine exb_c hf (fun e9 h9 hf => ?_) (fun r2 h9 hf => ?_)
  · cases hf
  · have hr2 : r2 < 7 := fX5_textOf_lt (exo_s hv1 h9)
    refine xc_V1 (rest := []) ⟨hx, hb, hml, hown, hts⟩ (mX5_textOf (exo_s hv1 h9)) (cwV 1 hts gX5_turnTo_X5_textOf rfl rfl rfl hqX5_textOf ⟨Nat.le_of_ble_eq_true rfl, Nat.le_of_ble_eq_true rfl⟩) X (va_recv X.1 X.2.1 (ci := 1) (q0 := 14) rfl wlC_14) rfl hl.1 rfl (Nat.le_of_ble_eq_true rfl) dX5_turnTo_2 ⟨Nat.zero_le _, Nat.zero_le _⟩ (fun H locs X => ?_)
    refine lv_astore_n (lv' := [(3, .ref (ad r2)), (0, .ref (ad 14)), (1, .int x1), (2, .int x2)]) hx hb dX5_turnTo_5 rfl hl (by decide) rfl (fun ls hl => ?_)
    refine lv_aload_n hx hb dX5_turnTo_6 rfl (lv_at hl 1 rfl) ?_
    refine lv_iload_n hx hb dX5_turnTo_7 rfl (lv_at hl 3 rfl) ?_
    refine xb hf (fun v3 hv3 hf => ?_)
    refine exb_c hf (fun e9 h9 hf => ?_) (fun r4 h9 hf => ?_)
    · cases hf
    · have hr4 : r4 < 7 := fX5_textOf_lt (exo_s hv3 h9)
      refine xc_V1 (rest := []) ⟨hx, hb, hml, hown, hts⟩ (mX5_textOf (exo_s hv3 h9)) (cwV 1 hts gX5_turnTo_X5_textOf rfl rfl rfl hqX5_textOf ⟨Nat.le_of_ble_eq_true rfl, Nat.le_of_ble_eq_true rfl⟩) X (va_recv X.1 X.2.1 (ci := 1) (q0 := 14) rfl wlC_14) rfl hl.1 rfl (Nat.le_of_ble_eq_true rfl) dX5_turnTo_8 ⟨Nat.zero_le _, Nat.zero_le _⟩ (fun H locs X => ?_)
      refine lv_astore (lv' := [(4, .ref (ad r4)), (3, .ref (ad r2)), (0, .ref (ad 14)), (1, .int x1), (2, .int x2)]) hx hb dX5_turnTo_11 hl (by decide) rfl (fun ls hl => ?_)
      refine lv_iconst (v := (0 : Int32)) hx hb dX5_turnTo_13 rfl ?_
      refine lv_istore (lv' := [(5, .int (0 : Int32)), (4, .ref (ad r4)), (3, .ref (ad r2)), (0, .ref (ad 14)), (1, .int x1), (2, .int x2)]) hx hb dX5_turnTo_14 hl (by decide) rfl (fun ls hl => ?_)
      exact w16 r2 r4 hr2 hr4 fu (0 : Int32) hf _ _ _ X (lv_sub hl [2, 1, 0] rfl)
set_option maxRecDepth 100000 in
set_option maxHeartbeats 4000000 in
theorem eX5_turnTo {l : Launch} {dd : va_G} {cy : Nat → ClassId} {ad : Nat → Nat} {A : Nat → Prop} {fu : Nat} {ts : Nat → Int32} {tc : Nat → Nat → Int32} {rk : Nat → Int32} {pl : Nat → Int32} {ru : Nat → Int64} {sl : Nat → Int32} {bg : Nat → Int32} {kn : Nat → Int64} {rm : Int32} {ol : Nat → Int64} {od : Nat → UInt64} {x1 : Int32} {x2 : Int32} {E9 : String} (htr : l.stackTraces = false) (hf : fX5_turnTo fu ts tc x1 x2 = some (.error E9)) : vx_Met l yX5_turnTo wsX5_turnTo { frames := 7, cells := 1, slots := 6, locals := 121 } (va_Pc [.ref (ad 14), .int x1, .int x2] (IT dd cy A (wlC ad cy ts tc rk pl ru sl bg kn rm ol od))) (fun _ _ _ _ => False) (XE dd cy A E9 (wlC ad cy ts tc rk pl ru sl bg kn rm ol od)) 1 6 A := by
  refine vx_ofW (cc := cX5_turnTo) (maxL := 6) (ret := some .int) (by decide) rfl ?_
  intro p e s m args below meth c s₁ B hml hexc hv
  obtain ⟨hav, hI, hT⟩ := hv
  have hx := B.exec
  have hb := B.bytes
  have hr := B.returns
  have hts := atoms_spec (ws := wsX5_turnTo) B.pre
  have hown : s.vm.findClass RX5 = some m.cls := findClass_of_methodNamed B.named
  have hlocks := B.notSynchronized
  have X := XW.of hI
  refine xe_in hav (Nat.le_of_ble_eq_true rfl) rfl (fun ls hl => ?_)
  have w16 : ∀ (t3 : Nat) (t4 : Nat) (ht3 : t3 < 7) (ht4 : t4 < 7) (n : Nat) (y5 : Int32), fX5_turnTo_16 fu ts tc t3 t4 n y5 = some (.error E9) → ∀ (H : Heap) (locs : List Loc) (ls : Array Slot), XW dd cy A s (wlC ad cy ts tc rk pl ru sl bg kn rm ol od) H locs → lv_has ls 6 [(3, .ref (ad t3)), (4, .ref (ad t4)), (5, .int y5)] → W p l e (headSpec wsX5_turnTo { frames := 7, cells := 1, slots := 6, locals := 121 }).room s m args below meth c H locs 0 0 (vx_MQ below (fun _ _ _ _ => False) (XE dd cy A E9 (wlC ad cy ts tc rk pl ru sl bg kn rm ol od)) args s 1 6 A) (F0 m 16 ls []) := by
    intro t3 t4 ht3 ht4 n
    induction n with
    | zero => intro y5 hf; exact absurd hf (by simp [fX5_turnTo_16])
    | succ n ih =>
      intro y5 hf H locs ls X hl
      rw [fX5_turnTo_16] at hf
      refine lv_iload hx hb dX5_turnTo_16 (lv_at hl 2 rfl) ?_
      refine lv_aload_n hx hb dX5_turnTo_18 rfl (lv_at hl 0 rfl) ?_
      refine xb hf (fun v5 hv hf => ?_)
      refine xc_V1 (rest := [.int y5]) ⟨hx, hb, hml, hown, hts⟩ (mX4_size ht3 hv) (cwV 0 hts gX5_turnTo_X4_size rfl rfl rfl hqX4_size ⟨Nat.le_of_ble_eq_true rfl, Nat.le_of_ble_eq_true rfl⟩) X (va_recv X.1 X.2.1 (ci := 0) (q0 := t3) rfl (wlC_t ht3)) rfl hl.1 rfl (Nat.le_of_ble_eq_true rfl) dX5_turnTo_19 ⟨Nat.zero_le _, Nat.zero_le _⟩ (fun H locs X => ?_)
      refine xr_icmp_gt (tgt := 45) hx hb dX5_turnTo_22 rfl hf (fun hf => ?_) (fun hf => ?_)
      · refine lv_iconst (v := (-1 : Int32)) hx hb dX5_turnTo_45 rfl ?_
        cases hf
      · refine lv_aload_n hx hb dX5_turnTo_25 rfl (lv_at hl 0 rfl) ?_
        refine lv_iload hx hb dX5_turnTo_26 (lv_at hl 2 rfl) ?_
        refine lv_aload hx hb dX5_turnTo_28 (lv_at hl 1 rfl) ?_
        refine xb hf (fun v6 hv hf => ?_)
        refine xc_V1 (rest := []) ⟨hx, hb, hml, hown, hts⟩ (mX4_isTurnedTo ht3 ht4 hv) (cwV 2 hts gX5_turnTo_X4_isTurnedTo rfl rfl rfl hqX4_isTurnedTo ⟨Nat.le_of_ble_eq_true rfl, Nat.le_of_ble_eq_true rfl⟩) X (va_recv X.1 X.2.1 (ci := 0) (q0 := t3) rfl (wlC_t ht3)) rfl hl.1 rfl (Nat.le_of_ble_eq_true rfl) dX5_turnTo_30 ⟨Nat.zero_le _, Nat.zero_le _⟩ (fun H locs X => ?_)
        refine xr_if_eq (tgt := 39) hx hb dX5_turnTo_33 rfl hf (fun hf => ?_) (fun hf => ?_)
        · refine lv_iinc (v := (y5 + 1)) (lv' := [(5, .int (y5 + 1)), (3, .ref (ad t3)), (4, .ref (ad t4))]) hx hb dX5_turnTo_39 hl (k := 2) rfl ii_1 (by decide) rfl (fun ls hl => ?_)
          refine lv_goto (tgt := 16) hx hb dX5_turnTo_42 rfl ?_
          exact ih (y5 + 1) hf _ _ _ X (lv_sub hl [1, 2, 0] rfl)
        · refine lv_iload hx hb dX5_turnTo_36 (lv_at hl 2 rfl) ?_
          cases hf
  rw [fX5_turnTo] at hf
  refine lv_aload_n hx hb dX5_turnTo_0 rfl (lv_at hl 0 rfl) ?_
  refine lv_iload_n hx hb dX5_turnTo_1 rfl (lv_at hl 1 rfl) ?_
  refine xb hf (fun v1 hv1 hf => ?_)
  refine exb_c hf (fun e9 h9 hf => ?_) (fun r2 h9 hf => ?_)
  · cases hf
    exact xt_V (rest := []) ⟨hx, hb, hml, hown, hts⟩ (eX5_textOf htr (exo_s hv1 h9)) (cwV 1 hts gX5_turnTo_X5_textOf rfl rfl rfl hqX5_textOf ⟨Nat.le_of_ble_eq_true rfl, Nat.le_of_ble_eq_true rfl⟩) X hT (va_recv X.1 X.2.1 (ci := 1) (q0 := 14) rfl wlC_14) rfl hl.1 rfl (Nat.le_of_ble_eq_true rfl) dX5_turnTo_2 ⟨Nat.le_of_ble_eq_true rfl, Nat.le_of_ble_eq_true rfl⟩ hexc hlocks
  · have hr2 : r2 < 7 := fX5_textOf_lt (exo_s hv1 h9)
    refine xc_V1 (rest := []) ⟨hx, hb, hml, hown, hts⟩ (mX5_textOf (exo_s hv1 h9)) (cwV 1 hts gX5_turnTo_X5_textOf rfl rfl rfl hqX5_textOf ⟨Nat.le_of_ble_eq_true rfl, Nat.le_of_ble_eq_true rfl⟩) X (va_recv X.1 X.2.1 (ci := 1) (q0 := 14) rfl wlC_14) rfl hl.1 rfl (Nat.le_of_ble_eq_true rfl) dX5_turnTo_2 ⟨Nat.zero_le _, Nat.zero_le _⟩ (fun H locs X => ?_)
    refine lv_astore_n (lv' := [(3, .ref (ad r2)), (0, .ref (ad 14)), (1, .int x1), (2, .int x2)]) hx hb dX5_turnTo_5 rfl hl (by decide) rfl (fun ls hl => ?_)
    refine lv_aload_n hx hb dX5_turnTo_6 rfl (lv_at hl 1 rfl) ?_
    refine lv_iload_n hx hb dX5_turnTo_7 rfl (lv_at hl 3 rfl) ?_
    refine xb hf (fun v3 hv3 hf => ?_)
    refine exb_c hf (fun e9 h9 hf => ?_) (fun r4 h9 hf => ?_)
    · cases hf
      exact xt_V (rest := []) ⟨hx, hb, hml, hown, hts⟩ (eX5_textOf htr (exo_s hv3 h9)) (cwV 1 hts gX5_turnTo_X5_textOf rfl rfl rfl hqX5_textOf ⟨Nat.le_of_ble_eq_true rfl, Nat.le_of_ble_eq_true rfl⟩) X hT (va_recv X.1 X.2.1 (ci := 1) (q0 := 14) rfl wlC_14) rfl hl.1 rfl (Nat.le_of_ble_eq_true rfl) dX5_turnTo_8 ⟨Nat.le_of_ble_eq_true rfl, Nat.le_of_ble_eq_true rfl⟩ hexc hlocks
    · have hr4 : r4 < 7 := fX5_textOf_lt (exo_s hv3 h9)
      refine xc_V1 (rest := []) ⟨hx, hb, hml, hown, hts⟩ (mX5_textOf (exo_s hv3 h9)) (cwV 1 hts gX5_turnTo_X5_textOf rfl rfl rfl hqX5_textOf ⟨Nat.le_of_ble_eq_true rfl, Nat.le_of_ble_eq_true rfl⟩) X (va_recv X.1 X.2.1 (ci := 1) (q0 := 14) rfl wlC_14) rfl hl.1 rfl (Nat.le_of_ble_eq_true rfl) dX5_turnTo_8 ⟨Nat.zero_le _, Nat.zero_le _⟩ (fun H locs X => ?_)
      refine lv_astore (lv' := [(4, .ref (ad r4)), (3, .ref (ad r2)), (0, .ref (ad 14)), (1, .int x1), (2, .int x2)]) hx hb dX5_turnTo_11 hl (by decide) rfl (fun ls hl => ?_)
      refine lv_iconst (v := (0 : Int32)) hx hb dX5_turnTo_13 rfl ?_
      refine lv_istore (lv' := [(5, .int (0 : Int32)), (4, .ref (ad r4)), (3, .ref (ad r2)), (0, .ref (ad 14)), (1, .int x1), (2, .int x2)]) hx hb dX5_turnTo_14 hl (by decide) rfl (fun ls hl => ?_)
      exact w16 r2 r4 hr2 hr4 fu (0 : Int32) hf _ _ _ X (lv_sub hl [2, 1, 0] rfl)
set_option maxRecDepth 100000 in
set_option maxHeartbeats 4000000 in
theorem mX5_turnings {l : Launch} {dd : va_G} {cy : Nat → ClassId} {ad : Nat → Nat} {A : Nat → Prop} {fu : Nat} {ts : Nat → Int32} {tc : Nat → Nat → Int32} {rk : Nat → Int32} {pl : Nat → Int32} {ru : Nat → Int64} {sl : Nat → Int32} {bg : Nat → Int32} {kn : Nat → Int64} {rm : Int32} {ol : Nat → Int64} {od : Nat → UInt64} {x1 : Int32} {rv : Int32} (hf : fX5_turnings fu ts tc x1 = some (.ok rv)) : Met l yX5_turnings wsX5_turnings { frames := 4, cells := 0, slots := 0, locals := 99 } (va_Pc [.ref (ad 14), .int x1] (IW dd cy A (wlC ad cy ts tc rk pl ru sl bg kn rm ol od))) (QX dd cy A (some (.int rv)) (wlC ad cy ts tc rk pl ru sl bg kn rm ol od)) 0 0 A := by
  refine Met.ofW (cc := cX5_turnings) (maxL := 3) (ret := some .int) (by decide) rfl ?_
  intro p e s m args below meth c s₁ B hml hv
  obtain ⟨hav, hI⟩ := hv
  have hx := B.exec
  have hb := B.bytes
  have hr := B.returns
  have hts := atoms_spec (ws := wsX5_turnings) B.pre
  have hown : s.vm.findClass RX5 = some m.cls := findClass_of_methodNamed B.named
  have hlocks := B.notSynchronized
  have X := XW.of hI
  refine xe_in hav (Nat.le_of_ble_eq_true rfl) rfl (fun ls hl => ?_)
  rw [fX5_turnings] at hf
  refine lv_aload_n hx hb dX5_turnings_0 rfl (lv_at hl 0 rfl) ?_
  refine lv_iload_n hx hb dX5_turnings_1 rfl (lv_at hl 1 rfl) ?_
  refine xb hf (fun v1 hv1 hf => ?_)
  refine exb_c hf (fun e9 h9 hf => ?_) (fun r2 h9 hf => ?_)
  · cases hf
  · have hr2 : r2 < 7 := fX5_textOf_lt (exo_s hv1 h9)
    refine xc_V1 (rest := []) ⟨hx, hb, hml, hown, hts⟩ (mX5_textOf (exo_s hv1 h9)) (cwV 1 hts gX5_turnings_X5_textOf rfl rfl rfl hqX5_textOf ⟨Nat.le_of_ble_eq_true rfl, Nat.le_of_ble_eq_true rfl⟩) X (va_recv X.1 X.2.1 (ci := 1) (q0 := 14) rfl wlC_14) rfl hl.1 rfl (Nat.le_of_ble_eq_true rfl) dX5_turnings_2 ⟨Nat.zero_le _, Nat.zero_le _⟩ (fun H locs X => ?_)
    refine lv_astore_n (lv' := [(2, .ref (ad r2)), (0, .ref (ad 14)), (1, .int x1)]) hx hb dX5_turnings_5 rfl hl (by decide) rfl (fun ls hl => ?_)
    refine lv_aload_n hx hb dX5_turnings_6 rfl (lv_at hl 0 rfl) ?_
    refine xb hf (fun v3 hv hf => ?_)
    refine xc_V1 (rest := []) ⟨hx, hb, hml, hown, hts⟩ (mX4_isEmpty hr2 hv) (cwV 0 hts gX5_turnings_X4_isEmpty rfl rfl rfl hqX4_isEmpty ⟨Nat.le_of_ble_eq_true rfl, Nat.le_of_ble_eq_true rfl⟩) X (va_recv X.1 X.2.1 (ci := 0) (q0 := r2) rfl (wlC_t hr2)) rfl hl.1 rfl (Nat.le_of_ble_eq_true rfl) dX5_turnings_7 ⟨Nat.zero_le _, Nat.zero_le _⟩ (fun H locs X => ?_)
    refine xr_if_eq (tgt := 17) hx hb dX5_turnings_10 rfl hf (fun hf => ?_) (fun hf => ?_)
    · refine lv_aload_n hx hb dX5_turnings_17 rfl (lv_at hl 0 rfl) ?_
      refine xb hf (fun v4 hv hf => ?_)
      refine xc_V1 (rest := []) ⟨hx, hb, hml, hown, hts⟩ (mX4_rootSize hr2 hv) (cwV 0 hts gX5_turnings_X4_rootSize rfl rfl rfl hqX4_rootSize ⟨Nat.le_of_ble_eq_true rfl, Nat.le_of_ble_eq_true rfl⟩) X (va_recv X.1 X.2.1 (ci := 0) (q0 := r2) rfl (wlC_t hr2)) rfl hl.1 rfl (Nat.le_of_ble_eq_true rfl) dX5_turnings_18 ⟨Nat.zero_le _, Nat.zero_le _⟩ (fun H locs X => ?_)
      cases hf
      exact xe_i hx hb hr hlocks X dX5_turnings_21
    · refine lv_iconst (v := (1 : Int32)) hx hb dX5_turnings_13 rfl ?_
      refine lv_goto (tgt := 21) hx hb dX5_turnings_14 rfl ?_
      cases hf
      exact xe_i hx hb hr hlocks X dX5_turnings_21
set_option maxRecDepth 100000 in
set_option maxHeartbeats 4000000 in
theorem eX5_turnings {l : Launch} {dd : va_G} {cy : Nat → ClassId} {ad : Nat → Nat} {A : Nat → Prop} {fu : Nat} {ts : Nat → Int32} {tc : Nat → Nat → Int32} {rk : Nat → Int32} {pl : Nat → Int32} {ru : Nat → Int64} {sl : Nat → Int32} {bg : Nat → Int32} {kn : Nat → Int64} {rm : Int32} {ol : Nat → Int64} {od : Nat → UInt64} {x1 : Int32} {E9 : String} (htr : l.stackTraces = false) (hf : fX5_turnings fu ts tc x1 = some (.error E9)) : vx_Met l yX5_turnings wsX5_turnings { frames := 7, cells := 1, slots := 6, locals := 121 } (va_Pc [.ref (ad 14), .int x1] (IT dd cy A (wlC ad cy ts tc rk pl ru sl bg kn rm ol od))) (fun _ _ _ _ => False) (XE dd cy A E9 (wlC ad cy ts tc rk pl ru sl bg kn rm ol od)) 1 6 A := by
  refine vx_ofW (cc := cX5_turnings) (maxL := 3) (ret := some .int) (by decide) rfl ?_
  intro p e s m args below meth c s₁ B hml hexc hv
  obtain ⟨hav, hI, hT⟩ := hv
  have hx := B.exec
  have hb := B.bytes
  have hr := B.returns
  have hts := atoms_spec (ws := wsX5_turnings) B.pre
  have hown : s.vm.findClass RX5 = some m.cls := findClass_of_methodNamed B.named
  have hlocks := B.notSynchronized
  have X := XW.of hI
  refine xe_in hav (Nat.le_of_ble_eq_true rfl) rfl (fun ls hl => ?_)
  rw [fX5_turnings] at hf
  refine lv_aload_n hx hb dX5_turnings_0 rfl (lv_at hl 0 rfl) ?_
  refine lv_iload_n hx hb dX5_turnings_1 rfl (lv_at hl 1 rfl) ?_
  refine xb hf (fun v1 hv1 hf => ?_)
  refine exb_c hf (fun e9 h9 hf => ?_) (fun r2 h9 hf => ?_)
  · cases hf
    exact xt_V (rest := []) ⟨hx, hb, hml, hown, hts⟩ (eX5_textOf htr (exo_s hv1 h9)) (cwV 1 hts gX5_turnings_X5_textOf rfl rfl rfl hqX5_textOf ⟨Nat.le_of_ble_eq_true rfl, Nat.le_of_ble_eq_true rfl⟩) X hT (va_recv X.1 X.2.1 (ci := 1) (q0 := 14) rfl wlC_14) rfl hl.1 rfl (Nat.le_of_ble_eq_true rfl) dX5_turnings_2 ⟨Nat.le_of_ble_eq_true rfl, Nat.le_of_ble_eq_true rfl⟩ hexc hlocks
  · have hr2 : r2 < 7 := fX5_textOf_lt (exo_s hv1 h9)
    refine xc_V1 (rest := []) ⟨hx, hb, hml, hown, hts⟩ (mX5_textOf (exo_s hv1 h9)) (cwV 1 hts gX5_turnings_X5_textOf rfl rfl rfl hqX5_textOf ⟨Nat.le_of_ble_eq_true rfl, Nat.le_of_ble_eq_true rfl⟩) X (va_recv X.1 X.2.1 (ci := 1) (q0 := 14) rfl wlC_14) rfl hl.1 rfl (Nat.le_of_ble_eq_true rfl) dX5_turnings_2 ⟨Nat.zero_le _, Nat.zero_le _⟩ (fun H locs X => ?_)
    refine lv_astore_n (lv' := [(2, .ref (ad r2)), (0, .ref (ad 14)), (1, .int x1)]) hx hb dX5_turnings_5 rfl hl (by decide) rfl (fun ls hl => ?_)
    refine lv_aload_n hx hb dX5_turnings_6 rfl (lv_at hl 0 rfl) ?_
    refine xb hf (fun v3 hv hf => ?_)
    refine xc_V1 (rest := []) ⟨hx, hb, hml, hown, hts⟩ (mX4_isEmpty hr2 hv) (cwV 0 hts gX5_turnings_X4_isEmpty rfl rfl rfl hqX4_isEmpty ⟨Nat.le_of_ble_eq_true rfl, Nat.le_of_ble_eq_true rfl⟩) X (va_recv X.1 X.2.1 (ci := 0) (q0 := r2) rfl (wlC_t hr2)) rfl hl.1 rfl (Nat.le_of_ble_eq_true rfl) dX5_turnings_7 ⟨Nat.zero_le _, Nat.zero_le _⟩ (fun H locs X => ?_)
    refine xr_if_eq (tgt := 17) hx hb dX5_turnings_10 rfl hf (fun hf => ?_) (fun hf => ?_)
    · refine lv_aload_n hx hb dX5_turnings_17 rfl (lv_at hl 0 rfl) ?_
      refine xb hf (fun v4 hv hf => ?_)
      refine xc_V1 (rest := []) ⟨hx, hb, hml, hown, hts⟩ (mX4_rootSize hr2 hv) (cwV 0 hts gX5_turnings_X4_rootSize rfl rfl rfl hqX4_rootSize ⟨Nat.le_of_ble_eq_true rfl, Nat.le_of_ble_eq_true rfl⟩) X (va_recv X.1 X.2.1 (ci := 0) (q0 := r2) rfl (wlC_t hr2)) rfl hl.1 rfl (Nat.le_of_ble_eq_true rfl) dX5_turnings_18 ⟨Nat.zero_le _, Nat.zero_le _⟩ (fun H locs X => ?_)
      cases hf
    · refine lv_iconst (v := (1 : Int32)) hx hb dX5_turnings_13 rfl ?_
      refine lv_goto (tgt := 21) hx hb dX5_turnings_14 rfl ?_
      cases hf
set_option maxRecDepth 100000 in
set_option maxHeartbeats 4000000 in
theorem mX5_leastTurn {l : Launch} {dd : va_G} {cy : Nat → ClassId} {ad : Nat → Nat} {A : Nat → Prop} {fu : Nat} {ts : Nat → Int32} {tc : Nat → Nat → Int32} {rk : Nat → Int32} {pl : Nat → Int32} {ru : Nat → Int64} {sl : Nat → Int32} {bg : Nat → Int32} {kn : Nat → Int64} {rm : Int32} {ol : Nat → Int64} {od : Nat → UInt64} {x1 : Int32} {rv : Int32} (hf : fX5_leastTurn fu ts tc x1 = some (.ok rv)) : Met l yX5_leastTurn wsX5_leastTurn { frames := 3, cells := 0, slots := 0, locals := 68 } (va_Pc [.ref (ad 14), .int x1] (IW dd cy A (wlC ad cy ts tc rk pl ru sl bg kn rm ol od))) (QX dd cy A (some (.int rv)) (wlC ad cy ts tc rk pl ru sl bg kn rm ol od)) 0 0 A := by
  refine Met.ofW (cc := cX5_leastTurn) (maxL := 5) (ret := some .int) (by decide) rfl ?_
  intro p e s m args below meth c s₁ B hml hv
  obtain ⟨hav, hI⟩ := hv
  have hx := B.exec
  have hb := B.bytes
  have hr := B.returns
  have hts := atoms_spec (ws := wsX5_leastTurn) B.pre
  have hown : s.vm.findClass RX5 = some m.cls := findClass_of_methodNamed B.named
  have hlocks := B.notSynchronized
  have X := XW.of hI
  refine xe_in hav (Nat.le_of_ble_eq_true rfl) rfl (fun ls hl => ?_)
  have w11 : ∀ (t2 : Nat) (ht2 : t2 < 7) (n : Nat) (y3 : Int32) (y4 : Int32), fX5_leastTurn_11 fu ts tc t2 n y3 y4 = some (.ok rv) → ∀ (H : Heap) (locs : List Loc) (ls : Array Slot), XW dd cy A s (wlC ad cy ts tc rk pl ru sl bg kn rm ol od) H locs → lv_has ls 5 [(2, .ref (ad t2)), (3, .int y3), (4, .int y4)] → W p l e (headSpec wsX5_leastTurn { frames := 3, cells := 0, slots := 0, locals := 68 }).room s m args below meth c H locs 0 0 (MQ below (QX dd cy A (some (.int rv)) (wlC ad cy ts tc rk pl ru sl bg kn rm ol od)) args s 0 0 A) (F0 m 11 ls []) := by
    intro t2 ht2 n
    induction n with
    | zero => intro y3 y4 hf; exact absurd hf (by simp [fX5_leastTurn_11])
    | succ n ih =>
      intro y3 y4 hf H locs ls X hl
      rw [fX5_leastTurn_11] at hf
      refine lv_iload hx hb dX5_leastTurn_11 (lv_at hl 2 rfl) ?_
      refine lv_aload_n hx hb dX5_leastTurn_13 rfl (lv_at hl 0 rfl) ?_
      refine xb hf (fun v3 hv hf => ?_)
      refine xc_V1 (rest := [.int y4]) ⟨hx, hb, hml, hown, hts⟩ (mX4_size ht2 hv) (cwV 0 hts gX5_leastTurn_X4_size rfl rfl rfl hqX4_size ⟨Nat.le_of_ble_eq_true rfl, Nat.le_of_ble_eq_true rfl⟩) X (va_recv X.1 X.2.1 (ci := 0) (q0 := t2) rfl (wlC_t ht2)) rfl hl.1 rfl (Nat.le_of_ble_eq_true rfl) dX5_leastTurn_14 ⟨Nat.zero_le _, Nat.zero_le _⟩ (fun H locs X => ?_)
      refine xr_icmp_ge (tgt := 39) hx hb dX5_leastTurn_17 rfl hf (fun hf => ?_) (fun hf => ?_)
      · refine lv_iload_n hx hb dX5_leastTurn_39 rfl (lv_at hl 1 rfl) ?_
        cases hf
        exact xe_i hx hb hr hlocks X dX5_leastTurn_40
      · refine lv_aload_n hx hb dX5_leastTurn_20 rfl (lv_at hl 0 rfl) ?_
        refine lv_iload hx hb dX5_leastTurn_21 (lv_at hl 2 rfl) ?_
        refine lv_iload_n hx hb dX5_leastTurn_23 rfl (lv_at hl 1 rfl) ?_
        refine xb hf (fun v4 hv hf => ?_)
        refine xc_V1 (rest := []) ⟨hx, hb, hml, hown, hts⟩ (mX4_compareTurns ht2 hv) (cwV 2 hts gX5_leastTurn_X4_compareTurns rfl rfl rfl hqX4_compareTurns ⟨Nat.le_of_ble_eq_true rfl, Nat.le_of_ble_eq_true rfl⟩) X (va_recv X.1 X.2.1 (ci := 0) (q0 := t2) rfl (wlC_t ht2)) rfl hl.1 rfl (Nat.le_of_ble_eq_true rfl) dX5_leastTurn_24 ⟨Nat.zero_le _, Nat.zero_le _⟩ (fun H locs X => ?_)
        refine xr_if_ge (tgt := 33) hx hb dX5_leastTurn_27 rfl hf (fun hf => ?_) (fun hf => ?_)
        · refine lv_iinc (v := (y4 + 1)) (lv' := [(4, .int (y4 + 1)), (2, .ref (ad t2)), (3, .int y3)]) hx hb dX5_leastTurn_33 hl (k := 2) rfl ii_1 (by decide) rfl (fun ls hl => ?_)
          refine lv_goto (tgt := 11) hx hb dX5_leastTurn_36 rfl ?_
          exact ih y3 (y4 + 1) hf _ _ _ X (lv_sub hl [1, 2, 0] rfl)
        · refine lv_iload hx hb dX5_leastTurn_30 (lv_at hl 2 rfl) ?_
          refine lv_istore_n (lv' := [(3, .int y4), (2, .ref (ad t2)), (4, .int y4)]) hx hb dX5_leastTurn_32 rfl hl (by decide) rfl (fun ls hl => ?_)
          refine lv_iinc (v := (y4 + 1)) (lv' := [(4, .int (y4 + 1)), (3, .int y4), (2, .ref (ad t2))]) hx hb dX5_leastTurn_33 hl (k := 2) rfl ii_1 (by decide) rfl (fun ls hl => ?_)
          refine lv_goto (tgt := 11) hx hb dX5_leastTurn_36 rfl ?_
          exact ih y4 (y4 + 1) hf _ _ _ X (lv_sub hl [2, 1, 0] rfl)
  rw [fX5_leastTurn] at hf
  refine lv_aload_n hx hb dX5_leastTurn_0 rfl (lv_at hl 0 rfl) ?_
  refine lv_iload_n hx hb dX5_leastTurn_1 rfl (lv_at hl 1 rfl) ?_
  refine xb hf (fun v1 hv1 hf => ?_)
  refine exb_c hf (fun e9 h9 hf => ?_) (fun r2 h9 hf => ?_)
  · cases hf
  · have hr2 : r2 < 7 := fX5_textOf_lt (exo_s hv1 h9)
    refine xc_V1 (rest := []) ⟨hx, hb, hml, hown, hts⟩ (mX5_textOf (exo_s hv1 h9)) (cwV 1 hts gX5_leastTurn_X5_textOf rfl rfl rfl hqX5_textOf ⟨Nat.le_of_ble_eq_true rfl, Nat.le_of_ble_eq_true rfl⟩) X (va_recv X.1 X.2.1 (ci := 1) (q0 := 14) rfl wlC_14) rfl hl.1 rfl (Nat.le_of_ble_eq_true rfl) dX5_leastTurn_2 ⟨Nat.zero_le _, Nat.zero_le _⟩ (fun H locs X => ?_)
    refine lv_astore_n (lv' := [(2, .ref (ad r2)), (0, .ref (ad 14)), (1, .int x1)]) hx hb dX5_leastTurn_5 rfl hl (by decide) rfl (fun ls hl => ?_)
    refine lv_iconst (v := (0 : Int32)) hx hb dX5_leastTurn_6 rfl ?_
    refine lv_istore_n (lv' := [(3, .int (0 : Int32)), (2, .ref (ad r2)), (0, .ref (ad 14)), (1, .int x1)]) hx hb dX5_leastTurn_7 rfl hl (by decide) rfl (fun ls hl => ?_)
    refine lv_iconst (v := (1 : Int32)) hx hb dX5_leastTurn_8 rfl ?_
    refine lv_istore (lv' := [(4, .int (1 : Int32)), (3, .int (0 : Int32)), (2, .ref (ad r2)), (0, .ref (ad 14)), (1, .int x1)]) hx hb dX5_leastTurn_9 hl (by decide) rfl (fun ls hl => ?_)
    exact w11 r2 hr2 fu (0 : Int32) (1 : Int32) hf _ _ _ X (lv_sub hl [2, 1, 0] rfl)
set_option maxRecDepth 100000 in
set_option maxHeartbeats 4000000 in
theorem eX5_leastTurn {l : Launch} {dd : va_G} {cy : Nat → ClassId} {ad : Nat → Nat} {A : Nat → Prop} {fu : Nat} {ts : Nat → Int32} {tc : Nat → Nat → Int32} {rk : Nat → Int32} {pl : Nat → Int32} {ru : Nat → Int64} {sl : Nat → Int32} {bg : Nat → Int32} {kn : Nat → Int64} {rm : Int32} {ol : Nat → Int64} {od : Nat → UInt64} {x1 : Int32} {E9 : String} (htr : l.stackTraces = false) (hf : fX5_leastTurn fu ts tc x1 = some (.error E9)) : vx_Met l yX5_leastTurn wsX5_leastTurn { frames := 7, cells := 1, slots := 6, locals := 121 } (va_Pc [.ref (ad 14), .int x1] (IT dd cy A (wlC ad cy ts tc rk pl ru sl bg kn rm ol od))) (fun _ _ _ _ => False) (XE dd cy A E9 (wlC ad cy ts tc rk pl ru sl bg kn rm ol od)) 1 6 A := by
  refine vx_ofW (cc := cX5_leastTurn) (maxL := 5) (ret := some .int) (by decide) rfl ?_
  intro p e s m args below meth c s₁ B hml hexc hv
  obtain ⟨hav, hI, hT⟩ := hv
  have hx := B.exec
  have hb := B.bytes
  have hr := B.returns
  have hts := atoms_spec (ws := wsX5_leastTurn) B.pre
  have hown : s.vm.findClass RX5 = some m.cls := findClass_of_methodNamed B.named
  have hlocks := B.notSynchronized
  have X := XW.of hI
  refine xe_in hav (Nat.le_of_ble_eq_true rfl) rfl (fun ls hl => ?_)
  have w11 : ∀ (t2 : Nat) (ht2 : t2 < 7) (n : Nat) (y3 : Int32) (y4 : Int32), fX5_leastTurn_11 fu ts tc t2 n y3 y4 = some (.error E9) → ∀ (H : Heap) (locs : List Loc) (ls : Array Slot), XW dd cy A s (wlC ad cy ts tc rk pl ru sl bg kn rm ol od) H locs → lv_has ls 5 [(2, .ref (ad t2)), (3, .int y3), (4, .int y4)] → W p l e (headSpec wsX5_leastTurn { frames := 7, cells := 1, slots := 6, locals := 121 }).room s m args below meth c H locs 0 0 (vx_MQ below (fun _ _ _ _ => False) (XE dd cy A E9 (wlC ad cy ts tc rk pl ru sl bg kn rm ol od)) args s 1 6 A) (F0 m 11 ls []) := by
    intro t2 ht2 n
    induction n with
    | zero => intro y3 y4 hf; exact absurd hf (by simp [fX5_leastTurn_11])
    | succ n ih =>
      intro y3 y4 hf H locs ls X hl
      rw [fX5_leastTurn_11] at hf
      refine lv_iload hx hb dX5_leastTurn_11 (lv_at hl 2 rfl) ?_
      refine lv_aload_n hx hb dX5_leastTurn_13 rfl (lv_at hl 0 rfl) ?_
      refine xb hf (fun v3 hv hf => ?_)
      refine xc_V1 (rest := [.int y4]) ⟨hx, hb, hml, hown, hts⟩ (mX4_size ht2 hv) (cwV 0 hts gX5_leastTurn_X4_size rfl rfl rfl hqX4_size ⟨Nat.le_of_ble_eq_true rfl, Nat.le_of_ble_eq_true rfl⟩) X (va_recv X.1 X.2.1 (ci := 0) (q0 := t2) rfl (wlC_t ht2)) rfl hl.1 rfl (Nat.le_of_ble_eq_true rfl) dX5_leastTurn_14 ⟨Nat.zero_le _, Nat.zero_le _⟩ (fun H locs X => ?_)
      refine xr_icmp_ge (tgt := 39) hx hb dX5_leastTurn_17 rfl hf (fun hf => ?_) (fun hf => ?_)
      · refine lv_iload_n hx hb dX5_leastTurn_39 rfl (lv_at hl 1 rfl) ?_
        cases hf
      · refine lv_aload_n hx hb dX5_leastTurn_20 rfl (lv_at hl 0 rfl) ?_
        refine lv_iload hx hb dX5_leastTurn_21 (lv_at hl 2 rfl) ?_
        refine lv_iload_n hx hb dX5_leastTurn_23 rfl (lv_at hl 1 rfl) ?_
        refine xb hf (fun v4 hv hf => ?_)
        refine xc_V1 (rest := []) ⟨hx, hb, hml, hown, hts⟩ (mX4_compareTurns ht2 hv) (cwV 2 hts gX5_leastTurn_X4_compareTurns rfl rfl rfl hqX4_compareTurns ⟨Nat.le_of_ble_eq_true rfl, Nat.le_of_ble_eq_true rfl⟩) X (va_recv X.1 X.2.1 (ci := 0) (q0 := t2) rfl (wlC_t ht2)) rfl hl.1 rfl (Nat.le_of_ble_eq_true rfl) dX5_leastTurn_24 ⟨Nat.zero_le _, Nat.zero_le _⟩ (fun H locs X => ?_)
        refine xr_if_ge (tgt := 33) hx hb dX5_leastTurn_27 rfl hf (fun hf => ?_) (fun hf => ?_)
        · refine lv_iinc (v := (y4 + 1)) (lv' := [(4, .int (y4 + 1)), (2, .ref (ad t2)), (3, .int y3)]) hx hb dX5_leastTurn_33 hl (k := 2) rfl ii_1 (by decide) rfl (fun ls hl => ?_)
          refine lv_goto (tgt := 11) hx hb dX5_leastTurn_36 rfl ?_
          exact ih y3 (y4 + 1) hf _ _ _ X (lv_sub hl [1, 2, 0] rfl)
        · refine lv_iload hx hb dX5_leastTurn_30 (lv_at hl 2 rfl) ?_
          refine lv_istore_n (lv' := [(3, .int y4), (2, .ref (ad t2)), (4, .int y4)]) hx hb dX5_leastTurn_32 rfl hl (by decide) rfl (fun ls hl => ?_)
          refine lv_iinc (v := (y4 + 1)) (lv' := [(4, .int (y4 + 1)), (3, .int y4), (2, .ref (ad t2))]) hx hb dX5_leastTurn_33 hl (k := 2) rfl ii_1 (by decide) rfl (fun ls hl => ?_)
          refine lv_goto (tgt := 11) hx hb dX5_leastTurn_36 rfl ?_
          exact ih y4 (y4 + 1) hf _ _ _ X (lv_sub hl [2, 1, 0] rfl)
  rw [fX5_leastTurn] at hf
  refine lv_aload_n hx hb dX5_leastTurn_0 rfl (lv_at hl 0 rfl) ?_
  refine lv_iload_n hx hb dX5_leastTurn_1 rfl (lv_at hl 1 rfl) ?_
  refine xb hf (fun v1 hv1 hf => ?_)
  refine exb_c hf (fun e9 h9 hf => ?_) (fun r2 h9 hf => ?_)
  · cases hf
    exact xt_V (rest := []) ⟨hx, hb, hml, hown, hts⟩ (eX5_textOf htr (exo_s hv1 h9)) (cwV 1 hts gX5_leastTurn_X5_textOf rfl rfl rfl hqX5_textOf ⟨Nat.le_of_ble_eq_true rfl, Nat.le_of_ble_eq_true rfl⟩) X hT (va_recv X.1 X.2.1 (ci := 1) (q0 := 14) rfl wlC_14) rfl hl.1 rfl (Nat.le_of_ble_eq_true rfl) dX5_leastTurn_2 ⟨Nat.le_of_ble_eq_true rfl, Nat.le_of_ble_eq_true rfl⟩ hexc hlocks
  · have hr2 : r2 < 7 := fX5_textOf_lt (exo_s hv1 h9)
    refine xc_V1 (rest := []) ⟨hx, hb, hml, hown, hts⟩ (mX5_textOf (exo_s hv1 h9)) (cwV 1 hts gX5_leastTurn_X5_textOf rfl rfl rfl hqX5_textOf ⟨Nat.le_of_ble_eq_true rfl, Nat.le_of_ble_eq_true rfl⟩) X (va_recv X.1 X.2.1 (ci := 1) (q0 := 14) rfl wlC_14) rfl hl.1 rfl (Nat.le_of_ble_eq_true rfl) dX5_leastTurn_2 ⟨Nat.zero_le _, Nat.zero_le _⟩ (fun H locs X => ?_)
    refine lv_astore_n (lv' := [(2, .ref (ad r2)), (0, .ref (ad 14)), (1, .int x1)]) hx hb dX5_leastTurn_5 rfl hl (by decide) rfl (fun ls hl => ?_)
    refine lv_iconst (v := (0 : Int32)) hx hb dX5_leastTurn_6 rfl ?_
    refine lv_istore_n (lv' := [(3, .int (0 : Int32)), (2, .ref (ad r2)), (0, .ref (ad 14)), (1, .int x1)]) hx hb dX5_leastTurn_7 rfl hl (by decide) rfl (fun ls hl => ?_)
    refine lv_iconst (v := (1 : Int32)) hx hb dX5_leastTurn_8 rfl ?_
    refine lv_istore (lv' := [(4, .int (1 : Int32)), (3, .int (0 : Int32)), (2, .ref (ad r2)), (0, .ref (ad 14)), (1, .int x1)]) hx hb dX5_leastTurn_9 hl (by decide) rfl (fun ls hl => ?_)
    exact w11 r2 hr2 fu (0 : Int32) (1 : Int32) hf _ _ _ X (lv_sub hl [2, 1, 0] rfl)
set_option maxRecDepth 100000 in
set_option maxHeartbeats 4000000 in
theorem mX5_factors {l : Launch} {dd : va_G} {cy : Nat → ClassId} {ad : Nat → Nat} {A : Nat → Prop} {fu : Nat} {ts : Nat → Int32} {tc : Nat → Nat → Int32} {rk : Nat → Int32} {pl : Nat → Int32} {ru : Nat → Int64} {sl : Nat → Int32} {bg : Nat → Int32} {kn : Nat → Int64} {rm : Int32} {ol : Nat → Int64} {od : Nat → UInt64} {x1 : Int32} {rv : Int32} (hf : fX5_factors fu ts tc x1 = some (.ok rv)) : Met l yX5_factors wsX5_factors { frames := 3, cells := 0, slots := 0, locals := 66 } (va_Pc [.ref (ad 14), .int x1] (IW dd cy A (wlC ad cy ts tc rk pl ru sl bg kn rm ol od))) (QX dd cy A (some (.int rv)) (wlC ad cy ts tc rk pl ru sl bg kn rm ol od)) 0 0 A := by
  refine Met.ofW (cc := cX5_factors) (maxL := 2) (ret := some .int) (by decide) rfl ?_
  intro p e s m args below meth c s₁ B hml hv
  obtain ⟨hav, hI⟩ := hv
  have hx := B.exec
  have hb := B.bytes
  have hr := B.returns
  have hts := atoms_spec (ws := wsX5_factors) B.pre
  have hown : s.vm.findClass RX5 = some m.cls := findClass_of_methodNamed B.named
  have hlocks := B.notSynchronized
  have X := XW.of hI
  refine xe_in hav (Nat.le_of_ble_eq_true rfl) rfl (fun ls hl => ?_)
  rw [fX5_factors] at hf
  refine lv_aload_n hx hb dX5_factors_0 rfl (lv_at hl 0 rfl) ?_
  refine lv_iload_n hx hb dX5_factors_1 rfl (lv_at hl 1 rfl) ?_
  refine xb hf (fun v1 hv1 hf => ?_)
  refine exb_c hf (fun e9 h9 hf => ?_) (fun r2 h9 hf => ?_)
  · cases hf
  · have hr2 : r2 < 7 := fX5_textOf_lt (exo_s hv1 h9)
    refine xc_V1 (rest := []) ⟨hx, hb, hml, hown, hts⟩ (mX5_textOf (exo_s hv1 h9)) (cwV 1 hts gX5_factors_X5_textOf rfl rfl rfl hqX5_textOf ⟨Nat.le_of_ble_eq_true rfl, Nat.le_of_ble_eq_true rfl⟩) X (va_recv X.1 X.2.1 (ci := 1) (q0 := 14) rfl wlC_14) rfl hl.1 rfl (Nat.le_of_ble_eq_true rfl) dX5_factors_2 ⟨Nat.zero_le _, Nat.zero_le _⟩ (fun H locs X => ?_)
    refine xb hf (fun v3 hv hf => ?_)
    refine xc_S1 (rest := []) ⟨hx, hb, hml, hown, hts⟩ (mX1_countIn hr2 hv) (va_cwS 1 hts gX5_factors_X1_countIn rfl rfl rfl hqX1_countIn ⟨Nat.le_of_ble_eq_true rfl, Nat.le_of_ble_eq_true rfl⟩) X rfl hl.1 rfl (Nat.le_of_ble_eq_true rfl) dX5_factors_5 ⟨Nat.zero_le _, Nat.zero_le _⟩ (fun H locs X => ?_)
    cases hf
    exact xe_i hx hb hr hlocks X dX5_factors_8
set_option maxRecDepth 100000 in
set_option maxHeartbeats 4000000 in
theorem eX5_factors {l : Launch} {dd : va_G} {cy : Nat → ClassId} {ad : Nat → Nat} {A : Nat → Prop} {fu : Nat} {ts : Nat → Int32} {tc : Nat → Nat → Int32} {rk : Nat → Int32} {pl : Nat → Int32} {ru : Nat → Int64} {sl : Nat → Int32} {bg : Nat → Int32} {kn : Nat → Int64} {rm : Int32} {ol : Nat → Int64} {od : Nat → UInt64} {x1 : Int32} {E9 : String} (htr : l.stackTraces = false) (hf : fX5_factors fu ts tc x1 = some (.error E9)) : vx_Met l yX5_factors wsX5_factors { frames := 7, cells := 1, slots := 6, locals := 121 } (va_Pc [.ref (ad 14), .int x1] (IT dd cy A (wlC ad cy ts tc rk pl ru sl bg kn rm ol od))) (fun _ _ _ _ => False) (XE dd cy A E9 (wlC ad cy ts tc rk pl ru sl bg kn rm ol od)) 1 6 A := by
  refine vx_ofW (cc := cX5_factors) (maxL := 2) (ret := some .int) (by decide) rfl ?_
  intro p e s m args below meth c s₁ B hml hexc hv
  obtain ⟨hav, hI, hT⟩ := hv
  have hx := B.exec
  have hb := B.bytes
  have hr := B.returns
  have hts := atoms_spec (ws := wsX5_factors) B.pre
  have hown : s.vm.findClass RX5 = some m.cls := findClass_of_methodNamed B.named
  have hlocks := B.notSynchronized
  have X := XW.of hI
  refine xe_in hav (Nat.le_of_ble_eq_true rfl) rfl (fun ls hl => ?_)
  rw [fX5_factors] at hf
  refine lv_aload_n hx hb dX5_factors_0 rfl (lv_at hl 0 rfl) ?_
  refine lv_iload_n hx hb dX5_factors_1 rfl (lv_at hl 1 rfl) ?_
  refine xb hf (fun v1 hv1 hf => ?_)
  refine exb_c hf (fun e9 h9 hf => ?_) (fun r2 h9 hf => ?_)
  · cases hf
    exact xt_V (rest := []) ⟨hx, hb, hml, hown, hts⟩ (eX5_textOf htr (exo_s hv1 h9)) (cwV 1 hts gX5_factors_X5_textOf rfl rfl rfl hqX5_textOf ⟨Nat.le_of_ble_eq_true rfl, Nat.le_of_ble_eq_true rfl⟩) X hT (va_recv X.1 X.2.1 (ci := 1) (q0 := 14) rfl wlC_14) rfl hl.1 rfl (Nat.le_of_ble_eq_true rfl) dX5_factors_2 ⟨Nat.le_of_ble_eq_true rfl, Nat.le_of_ble_eq_true rfl⟩ hexc hlocks
  · have hr2 : r2 < 7 := fX5_textOf_lt (exo_s hv1 h9)
    refine xc_V1 (rest := []) ⟨hx, hb, hml, hown, hts⟩ (mX5_textOf (exo_s hv1 h9)) (cwV 1 hts gX5_factors_X5_textOf rfl rfl rfl hqX5_textOf ⟨Nat.le_of_ble_eq_true rfl, Nat.le_of_ble_eq_true rfl⟩) X (va_recv X.1 X.2.1 (ci := 1) (q0 := 14) rfl wlC_14) rfl hl.1 rfl (Nat.le_of_ble_eq_true rfl) dX5_factors_2 ⟨Nat.zero_le _, Nat.zero_le _⟩ (fun H locs X => ?_)
    refine xb hf (fun v3 hv hf => ?_)
    refine xc_S1 (rest := []) ⟨hx, hb, hml, hown, hts⟩ (mX1_countIn hr2 hv) (va_cwS 1 hts gX5_factors_X1_countIn rfl rfl rfl hqX1_countIn ⟨Nat.le_of_ble_eq_true rfl, Nat.le_of_ble_eq_true rfl⟩) X rfl hl.1 rfl (Nat.le_of_ble_eq_true rfl) dX5_factors_5 ⟨Nat.zero_le _, Nat.zero_le _⟩ (fun H locs X => ?_)
    cases hf
set_option maxRecDepth 100000 in
set_option maxHeartbeats 4000000 in
theorem mX5_factorAt {l : Launch} {dd : va_G} {cy : Nat → ClassId} {ad : Nat → Nat} {A : Nat → Prop} {fu : Nat} {ts : Nat → Int32} {tc : Nat → Nat → Int32} {rk : Nat → Int32} {pl : Nat → Int32} {ru : Nat → Int64} {sl : Nat → Int32} {bg : Nat → Int32} {kn : Nat → Int64} {rm : Int32} {ol : Nat → Int64} {od : Nat → UInt64} {x1 : Int32} {x2 : Int32} {rv : Int32} (hf : fX5_factorAt fu ts tc x1 x2 = some (.ok rv)) : Met l yX5_factorAt wsX5_factorAt { frames := 3, cells := 0, slots := 0, locals := 67 } (va_Pc [.ref (ad 14), .int x1, .int x2] (IW dd cy A (wlC ad cy ts tc rk pl ru sl bg kn rm ol od))) (QX dd cy A (some (.int rv)) (wlC ad cy ts tc rk pl ru sl bg kn rm ol od)) 0 0 A := by
  refine Met.ofW (cc := cX5_factorAt) (maxL := 5) (ret := some .int) (by decide) rfl ?_
  intro p e s m args below meth c s₁ B hml hv
  obtain ⟨hav, hI⟩ := hv
  have hx := B.exec
  have hb := B.bytes
  have hr := B.returns
  have hts := atoms_spec (ws := wsX5_factorAt) B.pre
  have hown : s.vm.findClass RX5 = some m.cls := findClass_of_methodNamed B.named
  have hlocks := B.notSynchronized
  have X := XW.of hI
  refine xe_in hav (Nat.le_of_ble_eq_true rfl) rfl (fun ls hl => ?_)
  have w22 : ∀ (t3 : Nat) (ht3 : t3 < 7) (s0 : Int32), fX5_factorAt_22 fu ts tc t3 s0 = some (.ok rv) → ∀ (H : Heap) (locs : List Loc) (ls : Array Slot), XW dd cy A s (wlC ad cy ts tc rk pl ru sl bg kn rm ol od) H locs → lv_has ls 5 [(3, .ref (ad t3))] → W p l e (headSpec wsX5_factorAt { frames := 3, cells := 0, slots := 0, locals := 67 }).room s m args below meth c H locs 0 0 (MQ below (QX dd cy A (some (.int rv)) (wlC ad cy ts tc rk pl ru sl bg kn rm ol od)) args s 0 0 A) (F0 m 22 ls [.int s0]) := by
    intro t3 ht3 s0 hf H locs ls X hl
    rw [fX5_factorAt_22] at hf
    refine lv_istore (lv' := [(4, .int s0), (3, .ref (ad t3))]) hx hb dX5_factorAt_22 hl (by decide) rfl (fun ls hl => ?_)
    refine lv_iload hx hb dX5_factorAt_24 (lv_at hl 0 rfl) ?_
    refine lv_aload_n hx hb dX5_factorAt_26 rfl (lv_at hl 1 rfl) ?_
    refine xb hf (fun v4 hv hf => ?_)
    refine xc_V1 (rest := [.int s0]) ⟨hx, hb, hml, hown, hts⟩ (mX4_size ht3 hv) (cwV 0 hts gX5_factorAt_X4_size rfl rfl rfl hqX4_size ⟨Nat.le_of_ble_eq_true rfl, Nat.le_of_ble_eq_true rfl⟩) X (va_recv X.1 X.2.1 (ci := 0) (q0 := t3) rfl (wlC_t ht3)) rfl hl.1 rfl (Nat.le_of_ble_eq_true rfl) dX5_factorAt_27 ⟨Nat.zero_le _, Nat.zero_le _⟩ (fun H locs X => ?_)
    refine xr_icmp_lt (tgt := 43) hx hb dX5_factorAt_30 rfl hf (fun hf => ?_) (fun hf => ?_)
    · refine lv_iload hx hb dX5_factorAt_43 (lv_at hl 0 rfl) ?_
      cases hf
      exact xe_i hx hb hr hlocks X dX5_factorAt_45
    · cases hf
  rw [fX5_factorAt] at hf
  refine lv_aload_n hx hb dX5_factorAt_0 rfl (lv_at hl 0 rfl) ?_
  refine lv_iload_n hx hb dX5_factorAt_1 rfl (lv_at hl 1 rfl) ?_
  refine xb hf (fun v1 hv1 hf => ?_)
  refine exb_c hf (fun e9 h9 hf => ?_) (fun r2 h9 hf => ?_)
  · cases hf
  · have hr2 : r2 < 7 := fX5_textOf_lt (exo_s hv1 h9)
    refine xc_V1 (rest := []) ⟨hx, hb, hml, hown, hts⟩ (mX5_textOf (exo_s hv1 h9)) (cwV 1 hts gX5_factorAt_X5_textOf rfl rfl rfl hqX5_textOf ⟨Nat.le_of_ble_eq_true rfl, Nat.le_of_ble_eq_true rfl⟩) X (va_recv X.1 X.2.1 (ci := 1) (q0 := 14) rfl wlC_14) rfl hl.1 rfl (Nat.le_of_ble_eq_true rfl) dX5_factorAt_2 ⟨Nat.zero_le _, Nat.zero_le _⟩ (fun H locs X => ?_)
    refine lv_astore_n (lv' := [(3, .ref (ad r2)), (0, .ref (ad 14)), (1, .int x1), (2, .int x2)]) hx hb dX5_factorAt_5 rfl hl (by decide) rfl (fun ls hl => ?_)
    refine lv_iload_n hx hb dX5_factorAt_6 rfl (lv_at hl 3 rfl) ?_
    refine xr_if_ge (tgt := 17) hx hb dX5_factorAt_7 rfl hf (fun hf => ?_) (fun hf => ?_)
    · refine lv_aload_n hx hb dX5_factorAt_17 rfl (lv_at hl 0 rfl) ?_
      refine lv_iload_n hx hb dX5_factorAt_18 rfl (lv_at hl 3 rfl) ?_
      refine xb hf (fun v3 hv hf => ?_)
      refine xc_S1 (rest := []) ⟨hx, hb, hml, hown, hts⟩ (mX1_beginOf hr2 hv) (va_cwS 2 hts gX5_factorAt_X1_beginOf rfl rfl rfl hqX1_beginOf ⟨Nat.le_of_ble_eq_true rfl, Nat.le_of_ble_eq_true rfl⟩) X rfl hl.1 rfl (Nat.le_of_ble_eq_true rfl) dX5_factorAt_19 ⟨Nat.zero_le _, Nat.zero_le _⟩ (fun H locs X => ?_)
      exact w22 r2 hr2 v3 hf _ _ _ X (lv_sub hl [0] rfl)
    · refine lv_aload_n hx hb dX5_factorAt_10 rfl (lv_at hl 0 rfl) ?_
      refine xb hf (fun v5 hv hf => ?_)
      refine xc_V1 (rest := []) ⟨hx, hb, hml, hown, hts⟩ (mX4_size hr2 hv) (cwV 0 hts gX5_factorAt_X4_size rfl rfl rfl hqX4_size ⟨Nat.le_of_ble_eq_true rfl, Nat.le_of_ble_eq_true rfl⟩) X (va_recv X.1 X.2.1 (ci := 0) (q0 := r2) rfl (wlC_t hr2)) rfl hl.1 rfl (Nat.le_of_ble_eq_true rfl) dX5_factorAt_11 ⟨Nat.zero_le _, Nat.zero_le _⟩ (fun H locs X => ?_)
      refine lv_goto (tgt := 22) hx hb dX5_factorAt_14 rfl ?_
      exact w22 r2 hr2 v5 hf _ _ _ X (lv_sub hl [0] rfl)
set_option maxRecDepth 100000 in
set_option maxHeartbeats 4000000 in
theorem eX5_factorAt {l : Launch} {dd : va_G} {cy : Nat → ClassId} {ad : Nat → Nat} {A : Nat → Prop} {fu : Nat} {ts : Nat → Int32} {tc : Nat → Nat → Int32} {rk : Nat → Int32} {pl : Nat → Int32} {ru : Nat → Int64} {sl : Nat → Int32} {bg : Nat → Int32} {kn : Nat → Int64} {rm : Int32} {ol : Nat → Int64} {od : Nat → UInt64} {x1 : Int32} {x2 : Int32} {E9 : String} (htr : l.stackTraces = false) (hf : fX5_factorAt fu ts tc x1 x2 = some (.error E9)) : vx_Met l yX5_factorAt wsX5_factorAt { frames := 7, cells := 1, slots := 6, locals := 121 } (va_Pc [.ref (ad 14), .int x1, .int x2] (IT dd cy A (wlC ad cy ts tc rk pl ru sl bg kn rm ol od))) (fun _ _ _ _ => False) (XE dd cy A E9 (wlC ad cy ts tc rk pl ru sl bg kn rm ol od)) 1 6 A := by
  refine vx_ofW (cc := cX5_factorAt) (maxL := 5) (ret := some .int) (by decide) rfl ?_
  intro p e s m args below meth c s₁ B hml hexc hv
  obtain ⟨hav, hI, hT⟩ := hv
  have hx := B.exec
  have hb := B.bytes
  have hr := B.returns
  have hts := atoms_spec (ws := wsX5_factorAt) B.pre
  have hown : s.vm.findClass RX5 = some m.cls := findClass_of_methodNamed B.named
  have hlocks := B.notSynchronized
  have X := XW.of hI
  refine xe_in hav (Nat.le_of_ble_eq_true rfl) rfl (fun ls hl => ?_)
  have w22 : ∀ (t3 : Nat) (ht3 : t3 < 7) (s0 : Int32), fX5_factorAt_22 fu ts tc t3 s0 = some (.error E9) → ∀ (H : Heap) (locs : List Loc) (ls : Array Slot), XW dd cy A s (wlC ad cy ts tc rk pl ru sl bg kn rm ol od) H locs → lv_has ls 5 [(3, .ref (ad t3))] → W p l e (headSpec wsX5_factorAt { frames := 7, cells := 1, slots := 6, locals := 121 }).room s m args below meth c H locs 0 0 (vx_MQ below (fun _ _ _ _ => False) (XE dd cy A E9 (wlC ad cy ts tc rk pl ru sl bg kn rm ol od)) args s 1 6 A) (F0 m 22 ls [.int s0]) := by
    intro t3 ht3 s0 hf H locs ls X hl
    rw [fX5_factorAt_22] at hf
    refine lv_istore (lv' := [(4, .int s0), (3, .ref (ad t3))]) hx hb dX5_factorAt_22 hl (by decide) rfl (fun ls hl => ?_)
    refine lv_iload hx hb dX5_factorAt_24 (lv_at hl 0 rfl) ?_
    refine lv_aload_n hx hb dX5_factorAt_26 rfl (lv_at hl 1 rfl) ?_
    refine xb hf (fun v4 hv hf => ?_)
    refine xc_V1 (rest := [.int s0]) ⟨hx, hb, hml, hown, hts⟩ (mX4_size ht3 hv) (cwV 0 hts gX5_factorAt_X4_size rfl rfl rfl hqX4_size ⟨Nat.le_of_ble_eq_true rfl, Nat.le_of_ble_eq_true rfl⟩) X (va_recv X.1 X.2.1 (ci := 0) (q0 := t3) rfl (wlC_t ht3)) rfl hl.1 rfl (Nat.le_of_ble_eq_true rfl) dX5_factorAt_27 ⟨Nat.zero_le _, Nat.zero_le _⟩ (fun H locs X => ?_)
    refine xr_icmp_lt (tgt := 43) hx hb dX5_factorAt_30 rfl hf (fun hf => ?_) (fun hf => ?_)
    · refine lv_iload hx hb dX5_factorAt_43 (lv_at hl 0 rfl) ?_
      cases hf
    · cases hf
      exact xt_throw (rest := []) (text := "no such factor") hx hb htr hown hts hT X (by decide +kernel) (by decide +kernel) (by decide +kernel) (by decide +kernel) (by decide +kernel) (by decide +kernel) th_hn_154 th_hot_150_154 (hl.1.trans hml.symm) dX5_factorAt_33 dX5_factorAt_36 dX5_factorAt_37 dX5_factorAt_39 dX5_factorAt_42 hexc (Nat.le_of_ble_eq_true rfl) (Nat.le_of_ble_eq_true rfl) (Nat.le_of_ble_eq_true rfl) (Nat.le_of_ble_eq_true rfl) hlocks
  rw [fX5_factorAt] at hf
  refine lv_aload_n hx hb dX5_factorAt_0 rfl (lv_at hl 0 rfl) ?_
  refine lv_iload_n hx hb dX5_factorAt_1 rfl (lv_at hl 1 rfl) ?_
  refine xb hf (fun v1 hv1 hf => ?_)
  refine exb_c hf (fun e9 h9 hf => ?_) (fun r2 h9 hf => ?_)
  · cases hf
    exact xt_V (rest := []) ⟨hx, hb, hml, hown, hts⟩ (eX5_textOf htr (exo_s hv1 h9)) (cwV 1 hts gX5_factorAt_X5_textOf rfl rfl rfl hqX5_textOf ⟨Nat.le_of_ble_eq_true rfl, Nat.le_of_ble_eq_true rfl⟩) X hT (va_recv X.1 X.2.1 (ci := 1) (q0 := 14) rfl wlC_14) rfl hl.1 rfl (Nat.le_of_ble_eq_true rfl) dX5_factorAt_2 ⟨Nat.le_of_ble_eq_true rfl, Nat.le_of_ble_eq_true rfl⟩ hexc hlocks
  · have hr2 : r2 < 7 := fX5_textOf_lt (exo_s hv1 h9)
    refine xc_V1 (rest := []) ⟨hx, hb, hml, hown, hts⟩ (mX5_textOf (exo_s hv1 h9)) (cwV 1 hts gX5_factorAt_X5_textOf rfl rfl rfl hqX5_textOf ⟨Nat.le_of_ble_eq_true rfl, Nat.le_of_ble_eq_true rfl⟩) X (va_recv X.1 X.2.1 (ci := 1) (q0 := 14) rfl wlC_14) rfl hl.1 rfl (Nat.le_of_ble_eq_true rfl) dX5_factorAt_2 ⟨Nat.zero_le _, Nat.zero_le _⟩ (fun H locs X => ?_)
    refine lv_astore_n (lv' := [(3, .ref (ad r2)), (0, .ref (ad 14)), (1, .int x1), (2, .int x2)]) hx hb dX5_factorAt_5 rfl hl (by decide) rfl (fun ls hl => ?_)
    refine lv_iload_n hx hb dX5_factorAt_6 rfl (lv_at hl 3 rfl) ?_
    refine xr_if_ge (tgt := 17) hx hb dX5_factorAt_7 rfl hf (fun hf => ?_) (fun hf => ?_)
    · refine lv_aload_n hx hb dX5_factorAt_17 rfl (lv_at hl 0 rfl) ?_
      refine lv_iload_n hx hb dX5_factorAt_18 rfl (lv_at hl 3 rfl) ?_
      refine xb hf (fun v3 hv hf => ?_)
      refine xc_S1 (rest := []) ⟨hx, hb, hml, hown, hts⟩ (mX1_beginOf hr2 hv) (va_cwS 2 hts gX5_factorAt_X1_beginOf rfl rfl rfl hqX1_beginOf ⟨Nat.le_of_ble_eq_true rfl, Nat.le_of_ble_eq_true rfl⟩) X rfl hl.1 rfl (Nat.le_of_ble_eq_true rfl) dX5_factorAt_19 ⟨Nat.zero_le _, Nat.zero_le _⟩ (fun H locs X => ?_)
      exact w22 r2 hr2 v3 hf _ _ _ X (lv_sub hl [0] rfl)
    · refine lv_aload_n hx hb dX5_factorAt_10 rfl (lv_at hl 0 rfl) ?_
      refine xb hf (fun v5 hv hf => ?_)
      refine xc_V1 (rest := []) ⟨hx, hb, hml, hown, hts⟩ (mX4_size hr2 hv) (cwV 0 hts gX5_factorAt_X4_size rfl rfl rfl hqX4_size ⟨Nat.le_of_ble_eq_true rfl, Nat.le_of_ble_eq_true rfl⟩) X (va_recv X.1 X.2.1 (ci := 0) (q0 := r2) rfl (wlC_t hr2)) rfl hl.1 rfl (Nat.le_of_ble_eq_true rfl) dX5_factorAt_11 ⟨Nat.zero_le _, Nat.zero_le _⟩ (fun H locs X => ?_)
      refine lv_goto (tgt := 22) hx hb dX5_factorAt_14 rfl ?_
      exact w22 r2 hr2 v5 hf _ _ _ X (lv_sub hl [0] rfl)
set_option maxRecDepth 100000 in
set_option maxHeartbeats 4000000 in
theorem mX5_endAt {l : Launch} {dd : va_G} {cy : Nat → ClassId} {ad : Nat → Nat} {A : Nat → Prop} {fu : Nat} {ts : Nat → Int32} {tc : Nat → Nat → Int32} {rk : Nat → Int32} {pl : Nat → Int32} {ru : Nat → Int64} {sl : Nat → Int32} {bg : Nat → Int32} {kn : Nat → Int64} {rm : Int32} {ol : Nat → Int64} {od : Nat → UInt64} {x1 : Int32} {x2 : Int32} {rv : Int32} {rko : Nat → Int32} {plo : Nat → Int32} (hf : fX5_endAt fu ts tc rk pl x1 x2 = some (.ok rv, rko, plo)) : Met l yX5_endAt wsX5_endAt { frames := 4, cells := 0, slots := 0, locals := 95 } (va_Pc [.ref (ad 14), .int x1, .int x2] (IW dd cy A (wlC ad cy ts tc rk pl ru sl bg kn rm ol od))) (QX dd cy A (some (.int rv)) (wlC ad cy ts tc rko plo ru sl bg kn rm ol od)) 0 0 A := by
  refine Met.ofW (cc := cX5_endAt) (maxL := 4) (ret := some .int) (by decide) rfl ?_
  intro p e s m args below meth c s₁ B hml hv
  obtain ⟨hav, hI⟩ := hv
  have hx := B.exec
  have hb := B.bytes
  have hr := B.returns
  have hts := atoms_spec (ws := wsX5_endAt) B.pre
  have hown : s.vm.findClass RX5 = some m.cls := findClass_of_methodNamed B.named
  have hlocks := B.notSynchronized
  have X := XW.of hI
  have h5 : ∀ w ∈ wsX50, w ∈ wsX5_endAt := by decide +kernel
  refine xe_in hav (Nat.le_of_ble_eq_true rfl) rfl (fun ls hl => ?_)
  rw [fX5_endAt] at hf
  refine lv_aload_n hx hb dX5_endAt_0 rfl (lv_at hl 0 rfl) ?_
  refine lv_iload_n hx hb dX5_endAt_1 rfl (lv_at hl 1 rfl) ?_
  refine xb hf (fun v1 hv1 hf => ?_)
  refine exb_c hf (fun e9 h9 hf => ?_) (fun r2 h9 hf => ?_)
  · cases hf
  · have hr2 : r2 < 7 := fX5_textOf_lt (exo_s hv1 h9)
    refine xc_V1 (rest := []) ⟨hx, hb, hml, hown, hts⟩ (mX5_textOf (exo_s hv1 h9)) (cwV 1 hts gX5_endAt_X5_textOf rfl rfl rfl hqX5_textOf ⟨Nat.le_of_ble_eq_true rfl, Nat.le_of_ble_eq_true rfl⟩) X (va_recv X.1 X.2.1 (ci := 1) (q0 := 14) rfl wlC_14) rfl hl.1 rfl (Nat.le_of_ble_eq_true rfl) dX5_endAt_2 ⟨Nat.zero_le _, Nat.zero_le _⟩ (fun H locs X => ?_)
    refine lv_astore_n (lv' := [(3, .ref (ad r2)), (0, .ref (ad 14)), (1, .int x1), (2, .int x2)]) hx hb dX5_endAt_5 rfl hl (by decide) rfl (fun ls hl => ?_)
    refine lv_iload_n hx hb dX5_endAt_6 rfl (lv_at hl 3 rfl) ?_
    refine xr_if_lt (tgt := 18) hx hb dX5_endAt_7 rfl hf (fun hf => ?_) (fun hf => ?_)
    · cases hf
    · refine lv_iload_n hx hb dX5_endAt_10 rfl (lv_at hl 3 rfl) ?_
      refine lv_aload_n hx hb dX5_endAt_11 rfl (lv_at hl 0 rfl) ?_
      refine xb hf (fun v3 hv hf => ?_)
      refine xc_V1 (rest := [.int x2]) ⟨hx, hb, hml, hown, hts⟩ (mX4_size hr2 hv) (cwV 0 hts gX5_endAt_X4_size rfl rfl rfl hqX4_size ⟨Nat.le_of_ble_eq_true rfl, Nat.le_of_ble_eq_true rfl⟩) X (va_recv X.1 X.2.1 (ci := 0) (q0 := r2) rfl (wlC_t hr2)) rfl hl.1 rfl (Nat.le_of_ble_eq_true rfl) dX5_endAt_12 ⟨Nat.zero_le _, Nat.zero_le _⟩ (fun H locs X => ?_)
      refine xr_icmp_lt (tgt := 28) hx hb dX5_endAt_15 rfl hf (fun hf => ?_) (fun hf => ?_)
      · refine lv_aload_n hx hb dX5_endAt_28 rfl (lv_at hl 1 rfl) ?_
        refine xg_f hx hb hts hown X h5 14 wlC_14 rfl 2 (by decide) (by decide +kernel) (v := .ref (ad 16)) rfl dX5_endAt_29 ?_
        refine lv_aload_n hx hb dX5_endAt_32 rfl (lv_at hl 0 rfl) ?_
        refine xb hf (fun v4 hv hf => ?_)
        refine xc_V0 (rest := []) ⟨hx, hb, hml, hown, hts⟩ (mX0_arrange hr2 hv) (cwV 1 hts gX5_endAt_X0_arrange rfl rfl rfl hqX0_arrange ⟨Nat.le_of_ble_eq_true rfl, Nat.le_of_ble_eq_true rfl⟩) X (va_recv X.1 X.2.1 (ci := 2) (q0 := 16) rfl wlC_16) rfl hl.1 rfl (Nat.le_of_ble_eq_true rfl) dX5_endAt_33 ⟨Nat.zero_le _, Nat.zero_le _⟩ (fun H locs X => ?_)
        refine lv_aload_n hx hb dX5_endAt_36 rfl (lv_at hl 1 rfl) ?_
        refine xg_f hx hb hts hown X h5 14 wlC_14 rfl 2 (by decide) (by decide +kernel) (v := .ref (ad 16)) rfl dX5_endAt_37 ?_
        refine lv_iload_n hx hb dX5_endAt_40 rfl (lv_at hl 3 rfl) ?_
        refine xb hf (fun v5 hv hf => ?_)
        refine xc_V1 (rest := []) ⟨hx, hb, hml, hown, hts⟩ (mX0_placeBy hv) (cwV 1 hts gX5_endAt_X0_placeBy rfl rfl rfl hqX0_placeBy ⟨Nat.le_of_ble_eq_true rfl, Nat.le_of_ble_eq_true rfl⟩) X (va_recv X.1 X.2.1 (ci := 2) (q0 := 16) rfl wlC_16) rfl hl.1 rfl (Nat.le_of_ble_eq_true rfl) dX5_endAt_41 ⟨Nat.zero_le _, Nat.zero_le _⟩ (fun H locs X => ?_)
        cases hf
        exact xe_i hx hb hr hlocks X dX5_endAt_44
      · cases hf
set_option maxRecDepth 100000 in
set_option maxHeartbeats 4000000 in
theorem eX5_endAt {l : Launch} {dd : va_G} {cy : Nat → ClassId} {ad : Nat → Nat} {A : Nat → Prop} {fu : Nat} {ts : Nat → Int32} {tc : Nat → Nat → Int32} {rk : Nat → Int32} {pl : Nat → Int32} {ru : Nat → Int64} {sl : Nat → Int32} {bg : Nat → Int32} {kn : Nat → Int64} {rm : Int32} {ol : Nat → Int64} {od : Nat → UInt64} {x1 : Int32} {x2 : Int32} {E9 : String} {rko : Nat → Int32} {plo : Nat → Int32} (htr : l.stackTraces = false) (hf : fX5_endAt fu ts tc rk pl x1 x2 = some (.error E9, rko, plo)) : vx_Met l yX5_endAt wsX5_endAt { frames := 7, cells := 1, slots := 6, locals := 121 } (va_Pc [.ref (ad 14), .int x1, .int x2] (IT dd cy A (wlC ad cy ts tc rk pl ru sl bg kn rm ol od))) (fun _ _ _ _ => False) (XE dd cy A E9 (wlC ad cy ts tc rko plo ru sl bg kn rm ol od)) 1 6 A := by
  refine vx_ofW (cc := cX5_endAt) (maxL := 4) (ret := some .int) (by decide) rfl ?_
  intro p e s m args below meth c s₁ B hml hexc hv
  obtain ⟨hav, hI, hT⟩ := hv
  have hx := B.exec
  have hb := B.bytes
  have hr := B.returns
  have hts := atoms_spec (ws := wsX5_endAt) B.pre
  have hown : s.vm.findClass RX5 = some m.cls := findClass_of_methodNamed B.named
  have hlocks := B.notSynchronized
  have X := XW.of hI
  have h5 : ∀ w ∈ wsX50, w ∈ wsX5_endAt := by decide +kernel
  refine xe_in hav (Nat.le_of_ble_eq_true rfl) rfl (fun ls hl => ?_)
  rw [fX5_endAt] at hf
  refine lv_aload_n hx hb dX5_endAt_0 rfl (lv_at hl 0 rfl) ?_
  refine lv_iload_n hx hb dX5_endAt_1 rfl (lv_at hl 1 rfl) ?_
  refine xb hf (fun v1 hv1 hf => ?_)
  refine exb_c hf (fun e9 h9 hf => ?_) (fun r2 h9 hf => ?_)
  · cases hf
    exact xt_V (rest := []) ⟨hx, hb, hml, hown, hts⟩ (eX5_textOf htr (exo_s hv1 h9)) (cwV 1 hts gX5_endAt_X5_textOf rfl rfl rfl hqX5_textOf ⟨Nat.le_of_ble_eq_true rfl, Nat.le_of_ble_eq_true rfl⟩) X hT (va_recv X.1 X.2.1 (ci := 1) (q0 := 14) rfl wlC_14) rfl hl.1 rfl (Nat.le_of_ble_eq_true rfl) dX5_endAt_2 ⟨Nat.le_of_ble_eq_true rfl, Nat.le_of_ble_eq_true rfl⟩ hexc hlocks
  · have hr2 : r2 < 7 := fX5_textOf_lt (exo_s hv1 h9)
    refine xc_V1 (rest := []) ⟨hx, hb, hml, hown, hts⟩ (mX5_textOf (exo_s hv1 h9)) (cwV 1 hts gX5_endAt_X5_textOf rfl rfl rfl hqX5_textOf ⟨Nat.le_of_ble_eq_true rfl, Nat.le_of_ble_eq_true rfl⟩) X (va_recv X.1 X.2.1 (ci := 1) (q0 := 14) rfl wlC_14) rfl hl.1 rfl (Nat.le_of_ble_eq_true rfl) dX5_endAt_2 ⟨Nat.zero_le _, Nat.zero_le _⟩ (fun H locs X => ?_)
    refine lv_astore_n (lv' := [(3, .ref (ad r2)), (0, .ref (ad 14)), (1, .int x1), (2, .int x2)]) hx hb dX5_endAt_5 rfl hl (by decide) rfl (fun ls hl => ?_)
    refine lv_iload_n hx hb dX5_endAt_6 rfl (lv_at hl 3 rfl) ?_
    refine xr_if_lt (tgt := 18) hx hb dX5_endAt_7 rfl hf (fun hf => ?_) (fun hf => ?_)
    · cases hf
      exact xt_throw (rest := []) (text := "no such end") hx hb htr hown hts hT X (by decide +kernel) (by decide +kernel) (by decide +kernel) (by decide +kernel) (by decide +kernel) (by decide +kernel) th_hn_154 th_hot_150_154 (hl.1.trans hml.symm) dX5_endAt_18 dX5_endAt_21 dX5_endAt_22 dX5_endAt_24 dX5_endAt_27 hexc (Nat.le_of_ble_eq_true rfl) (Nat.le_of_ble_eq_true rfl) (Nat.le_of_ble_eq_true rfl) (Nat.le_of_ble_eq_true rfl) hlocks
    · refine lv_iload_n hx hb dX5_endAt_10 rfl (lv_at hl 3 rfl) ?_
      refine lv_aload_n hx hb dX5_endAt_11 rfl (lv_at hl 0 rfl) ?_
      refine xb hf (fun v3 hv hf => ?_)
      refine xc_V1 (rest := [.int x2]) ⟨hx, hb, hml, hown, hts⟩ (mX4_size hr2 hv) (cwV 0 hts gX5_endAt_X4_size rfl rfl rfl hqX4_size ⟨Nat.le_of_ble_eq_true rfl, Nat.le_of_ble_eq_true rfl⟩) X (va_recv X.1 X.2.1 (ci := 0) (q0 := r2) rfl (wlC_t hr2)) rfl hl.1 rfl (Nat.le_of_ble_eq_true rfl) dX5_endAt_12 ⟨Nat.zero_le _, Nat.zero_le _⟩ (fun H locs X => ?_)
      refine xr_icmp_lt (tgt := 28) hx hb dX5_endAt_15 rfl hf (fun hf => ?_) (fun hf => ?_)
      · refine lv_aload_n hx hb dX5_endAt_28 rfl (lv_at hl 1 rfl) ?_
        refine xg_f hx hb hts hown X h5 14 wlC_14 rfl 2 (by decide) (by decide +kernel) (v := .ref (ad 16)) rfl dX5_endAt_29 ?_
        refine lv_aload_n hx hb dX5_endAt_32 rfl (lv_at hl 0 rfl) ?_
        refine xb hf (fun v4 hv hf => ?_)
        refine xc_V0 (rest := []) ⟨hx, hb, hml, hown, hts⟩ (mX0_arrange hr2 hv) (cwV 1 hts gX5_endAt_X0_arrange rfl rfl rfl hqX0_arrange ⟨Nat.le_of_ble_eq_true rfl, Nat.le_of_ble_eq_true rfl⟩) X (va_recv X.1 X.2.1 (ci := 2) (q0 := 16) rfl wlC_16) rfl hl.1 rfl (Nat.le_of_ble_eq_true rfl) dX5_endAt_33 ⟨Nat.zero_le _, Nat.zero_le _⟩ (fun H locs X => ?_)
        refine lv_aload_n hx hb dX5_endAt_36 rfl (lv_at hl 1 rfl) ?_
        refine xg_f hx hb hts hown X h5 14 wlC_14 rfl 2 (by decide) (by decide +kernel) (v := .ref (ad 16)) rfl dX5_endAt_37 ?_
        refine lv_iload_n hx hb dX5_endAt_40 rfl (lv_at hl 3 rfl) ?_
        refine xb hf (fun v5 hv hf => ?_)
        refine xc_V1 (rest := []) ⟨hx, hb, hml, hown, hts⟩ (mX0_placeBy hv) (cwV 1 hts gX5_endAt_X0_placeBy rfl rfl rfl hqX0_placeBy ⟨Nat.le_of_ble_eq_true rfl, Nat.le_of_ble_eq_true rfl⟩) X (va_recv X.1 X.2.1 (ci := 2) (q0 := 16) rfl wlC_16) rfl hl.1 rfl (Nat.le_of_ble_eq_true rfl) dX5_endAt_41 ⟨Nat.zero_le _, Nat.zero_le _⟩ (fun H locs X => ?_)
        cases hf
      · cases hf
        exact xt_throw (rest := []) (text := "no such end") hx hb htr hown hts hT X (by decide +kernel) (by decide +kernel) (by decide +kernel) (by decide +kernel) (by decide +kernel) (by decide +kernel) th_hn_154 th_hot_150_154 (hl.1.trans hml.symm) dX5_endAt_18 dX5_endAt_21 dX5_endAt_22 dX5_endAt_24 dX5_endAt_27 hexc (Nat.le_of_ble_eq_true rfl) (Nat.le_of_ble_eq_true rfl) (Nat.le_of_ble_eq_true rfl) (Nat.le_of_ble_eq_true rfl) hlocks
set_option maxRecDepth 100000 in
set_option maxHeartbeats 4000000 in
theorem mX5_rankOf {l : Launch} {dd : va_G} {cy : Nat → ClassId} {ad : Nat → Nat} {A : Nat → Prop} {fu : Nat} {ts : Nat → Int32} {tc : Nat → Nat → Int32} {rk : Nat → Int32} {pl : Nat → Int32} {ru : Nat → Int64} {sl : Nat → Int32} {bg : Nat → Int32} {kn : Nat → Int64} {rm : Int32} {ol : Nat → Int64} {od : Nat → UInt64} {x1 : Int32} {x2 : Int32} {rv : Int32} {rko : Nat → Int32} {plo : Nat → Int32} (hf : fX5_rankOf fu ts tc rk pl x1 x2 = some (.ok rv, rko, plo)) : Met l yX5_rankOf wsX5_rankOf { frames := 4, cells := 0, slots := 0, locals := 95 } (va_Pc [.ref (ad 14), .int x1, .int x2] (IW dd cy A (wlC ad cy ts tc rk pl ru sl bg kn rm ol od))) (QX dd cy A (some (.int rv)) (wlC ad cy ts tc rko plo ru sl bg kn rm ol od)) 0 0 A := by
  refine Met.ofW (cc := cX5_rankOf) (maxL := 4) (ret := some .int) (by decide) rfl ?_
  intro p e s m args below meth c s₁ B hml hv
  obtain ⟨hav, hI⟩ := hv
  have hx := B.exec
  have hb := B.bytes
  have hr := B.returns
  have hts := atoms_spec (ws := wsX5_rankOf) B.pre
  have hown : s.vm.findClass RX5 = some m.cls := findClass_of_methodNamed B.named
  have hlocks := B.notSynchronized
  have X := XW.of hI
  have h5 : ∀ w ∈ wsX50, w ∈ wsX5_rankOf := by decide +kernel
  refine xe_in hav (Nat.le_of_ble_eq_true rfl) rfl (fun ls hl => ?_)
  rw [fX5_rankOf] at hf
  refine lv_aload_n hx hb dX5_rankOf_0 rfl (lv_at hl 0 rfl) ?_
  refine lv_iload_n hx hb dX5_rankOf_1 rfl (lv_at hl 1 rfl) ?_
  refine xb hf (fun v1 hv1 hf => ?_)
  refine exb_c hf (fun e9 h9 hf => ?_) (fun r2 h9 hf => ?_)
  · cases hf
  · have hr2 : r2 < 7 := fX5_textOf_lt (exo_s hv1 h9)
    refine xc_V1 (rest := []) ⟨hx, hb, hml, hown, hts⟩ (mX5_textOf (exo_s hv1 h9)) (cwV 1 hts gX5_rankOf_X5_textOf rfl rfl rfl hqX5_textOf ⟨Nat.le_of_ble_eq_true rfl, Nat.le_of_ble_eq_true rfl⟩) X (va_recv X.1 X.2.1 (ci := 1) (q0 := 14) rfl wlC_14) rfl hl.1 rfl (Nat.le_of_ble_eq_true rfl) dX5_rankOf_2 ⟨Nat.zero_le _, Nat.zero_le _⟩ (fun H locs X => ?_)
    refine lv_astore_n (lv' := [(3, .ref (ad r2)), (0, .ref (ad 14)), (1, .int x1), (2, .int x2)]) hx hb dX5_rankOf_5 rfl hl (by decide) rfl (fun ls hl => ?_)
    refine lv_aload_n hx hb dX5_rankOf_6 rfl (lv_at hl 0 rfl) ?_
    refine lv_iload_n hx hb dX5_rankOf_7 rfl (lv_at hl 3 rfl) ?_
    refine xb hf (fun v3 hv3 hf => ?_)
    refine exb_c hf (fun e9 h9 hf => ?_) (fun r4 h9 hf => ?_)
    · cases hf
    · refine xc_S0 (rest := []) ⟨hx, hb, hml, hown, hts⟩ (mX5_requirePlace hr2 (exo_s hv3 h9)) (va_cwS 2 hts gX5_rankOf_X5_requirePlace rfl rfl rfl hqX5_requirePlace ⟨Nat.le_of_ble_eq_true rfl, Nat.le_of_ble_eq_true rfl⟩) X rfl hl.1 rfl (Nat.le_of_ble_eq_true rfl) dX5_rankOf_8 ⟨Nat.zero_le _, Nat.zero_le _⟩ (fun H locs X => ?_)
      refine lv_aload_n hx hb dX5_rankOf_11 rfl (lv_at hl 1 rfl) ?_
      refine xg_f hx hb hts hown X h5 14 wlC_14 rfl 2 (by decide) (by decide +kernel) (v := .ref (ad 16)) rfl dX5_rankOf_12 ?_
      refine lv_aload_n hx hb dX5_rankOf_15 rfl (lv_at hl 0 rfl) ?_
      refine xb hf (fun v5 hv hf => ?_)
      refine xc_V0 (rest := []) ⟨hx, hb, hml, hown, hts⟩ (mX0_arrange hr2 hv) (cwV 1 hts gX5_rankOf_X0_arrange rfl rfl rfl hqX0_arrange ⟨Nat.le_of_ble_eq_true rfl, Nat.le_of_ble_eq_true rfl⟩) X (va_recv X.1 X.2.1 (ci := 2) (q0 := 16) rfl wlC_16) rfl hl.1 rfl (Nat.le_of_ble_eq_true rfl) dX5_rankOf_16 ⟨Nat.zero_le _, Nat.zero_le _⟩ (fun H locs X => ?_)
      refine lv_aload_n hx hb dX5_rankOf_19 rfl (lv_at hl 1 rfl) ?_
      refine xg_f hx hb hts hown X h5 14 wlC_14 rfl 2 (by decide) (by decide +kernel) (v := .ref (ad 16)) rfl dX5_rankOf_20 ?_
      refine lv_iload_n hx hb dX5_rankOf_23 rfl (lv_at hl 3 rfl) ?_
      refine xb hf (fun v6 hv hf => ?_)
      refine xc_V1 (rest := []) ⟨hx, hb, hml, hown, hts⟩ (mX0_rankBy hv) (cwV 1 hts gX5_rankOf_X0_rankBy rfl rfl rfl hqX0_rankBy ⟨Nat.le_of_ble_eq_true rfl, Nat.le_of_ble_eq_true rfl⟩) X (va_recv X.1 X.2.1 (ci := 2) (q0 := 16) rfl wlC_16) rfl hl.1 rfl (Nat.le_of_ble_eq_true rfl) dX5_rankOf_24 ⟨Nat.zero_le _, Nat.zero_le _⟩ (fun H locs X => ?_)
      cases hf
      exact xe_i hx hb hr hlocks X dX5_rankOf_27
set_option maxRecDepth 100000 in
set_option maxHeartbeats 4000000 in
theorem eX5_rankOf {l : Launch} {dd : va_G} {cy : Nat → ClassId} {ad : Nat → Nat} {A : Nat → Prop} {fu : Nat} {ts : Nat → Int32} {tc : Nat → Nat → Int32} {rk : Nat → Int32} {pl : Nat → Int32} {ru : Nat → Int64} {sl : Nat → Int32} {bg : Nat → Int32} {kn : Nat → Int64} {rm : Int32} {ol : Nat → Int64} {od : Nat → UInt64} {x1 : Int32} {x2 : Int32} {E9 : String} {rko : Nat → Int32} {plo : Nat → Int32} (htr : l.stackTraces = false) (hf : fX5_rankOf fu ts tc rk pl x1 x2 = some (.error E9, rko, plo)) : vx_Met l yX5_rankOf wsX5_rankOf { frames := 7, cells := 1, slots := 6, locals := 121 } (va_Pc [.ref (ad 14), .int x1, .int x2] (IT dd cy A (wlC ad cy ts tc rk pl ru sl bg kn rm ol od))) (fun _ _ _ _ => False) (XE dd cy A E9 (wlC ad cy ts tc rko plo ru sl bg kn rm ol od)) 1 6 A := by
  refine vx_ofW (cc := cX5_rankOf) (maxL := 4) (ret := some .int) (by decide) rfl ?_
  intro p e s m args below meth c s₁ B hml hexc hv
  obtain ⟨hav, hI, hT⟩ := hv
  have hx := B.exec
  have hb := B.bytes
  have hr := B.returns
  have hts := atoms_spec (ws := wsX5_rankOf) B.pre
  have hown : s.vm.findClass RX5 = some m.cls := findClass_of_methodNamed B.named
  have hlocks := B.notSynchronized
  have X := XW.of hI
  have h5 : ∀ w ∈ wsX50, w ∈ wsX5_rankOf := by decide +kernel
  refine xe_in hav (Nat.le_of_ble_eq_true rfl) rfl (fun ls hl => ?_)
  rw [fX5_rankOf] at hf
  refine lv_aload_n hx hb dX5_rankOf_0 rfl (lv_at hl 0 rfl) ?_
  refine lv_iload_n hx hb dX5_rankOf_1 rfl (lv_at hl 1 rfl) ?_
  refine xb hf (fun v1 hv1 hf => ?_)
  refine exb_c hf (fun e9 h9 hf => ?_) (fun r2 h9 hf => ?_)
  · cases hf
    exact xt_V (rest := []) ⟨hx, hb, hml, hown, hts⟩ (eX5_textOf htr (exo_s hv1 h9)) (cwV 1 hts gX5_rankOf_X5_textOf rfl rfl rfl hqX5_textOf ⟨Nat.le_of_ble_eq_true rfl, Nat.le_of_ble_eq_true rfl⟩) X hT (va_recv X.1 X.2.1 (ci := 1) (q0 := 14) rfl wlC_14) rfl hl.1 rfl (Nat.le_of_ble_eq_true rfl) dX5_rankOf_2 ⟨Nat.le_of_ble_eq_true rfl, Nat.le_of_ble_eq_true rfl⟩ hexc hlocks
  · have hr2 : r2 < 7 := fX5_textOf_lt (exo_s hv1 h9)
    refine xc_V1 (rest := []) ⟨hx, hb, hml, hown, hts⟩ (mX5_textOf (exo_s hv1 h9)) (cwV 1 hts gX5_rankOf_X5_textOf rfl rfl rfl hqX5_textOf ⟨Nat.le_of_ble_eq_true rfl, Nat.le_of_ble_eq_true rfl⟩) X (va_recv X.1 X.2.1 (ci := 1) (q0 := 14) rfl wlC_14) rfl hl.1 rfl (Nat.le_of_ble_eq_true rfl) dX5_rankOf_2 ⟨Nat.zero_le _, Nat.zero_le _⟩ (fun H locs X => ?_)
    refine lv_astore_n (lv' := [(3, .ref (ad r2)), (0, .ref (ad 14)), (1, .int x1), (2, .int x2)]) hx hb dX5_rankOf_5 rfl hl (by decide) rfl (fun ls hl => ?_)
    refine lv_aload_n hx hb dX5_rankOf_6 rfl (lv_at hl 0 rfl) ?_
    refine lv_iload_n hx hb dX5_rankOf_7 rfl (lv_at hl 3 rfl) ?_
    refine xb hf (fun v3 hv3 hf => ?_)
    refine exb_c hf (fun e9 h9 hf => ?_) (fun r4 h9 hf => ?_)
    · cases hf
      exact xt_S (rest := []) ⟨hx, hb, hml, hown, hts⟩ (eX5_requirePlace htr hr2 (exo_s hv3 h9)) (va_cwS 2 hts gX5_rankOf_X5_requirePlace rfl rfl rfl hqX5_requirePlace ⟨Nat.le_of_ble_eq_true rfl, Nat.le_of_ble_eq_true rfl⟩) X hT rfl hl.1 rfl (Nat.le_of_ble_eq_true rfl) dX5_rankOf_8 ⟨Nat.le_of_ble_eq_true rfl, Nat.le_of_ble_eq_true rfl⟩ hexc hlocks
    · refine xc_S0 (rest := []) ⟨hx, hb, hml, hown, hts⟩ (mX5_requirePlace hr2 (exo_s hv3 h9)) (va_cwS 2 hts gX5_rankOf_X5_requirePlace rfl rfl rfl hqX5_requirePlace ⟨Nat.le_of_ble_eq_true rfl, Nat.le_of_ble_eq_true rfl⟩) X rfl hl.1 rfl (Nat.le_of_ble_eq_true rfl) dX5_rankOf_8 ⟨Nat.zero_le _, Nat.zero_le _⟩ (fun H locs X => ?_)
      refine lv_aload_n hx hb dX5_rankOf_11 rfl (lv_at hl 1 rfl) ?_
      refine xg_f hx hb hts hown X h5 14 wlC_14 rfl 2 (by decide) (by decide +kernel) (v := .ref (ad 16)) rfl dX5_rankOf_12 ?_
      refine lv_aload_n hx hb dX5_rankOf_15 rfl (lv_at hl 0 rfl) ?_
      refine xb hf (fun v5 hv hf => ?_)
      refine xc_V0 (rest := []) ⟨hx, hb, hml, hown, hts⟩ (mX0_arrange hr2 hv) (cwV 1 hts gX5_rankOf_X0_arrange rfl rfl rfl hqX0_arrange ⟨Nat.le_of_ble_eq_true rfl, Nat.le_of_ble_eq_true rfl⟩) X (va_recv X.1 X.2.1 (ci := 2) (q0 := 16) rfl wlC_16) rfl hl.1 rfl (Nat.le_of_ble_eq_true rfl) dX5_rankOf_16 ⟨Nat.zero_le _, Nat.zero_le _⟩ (fun H locs X => ?_)
      refine lv_aload_n hx hb dX5_rankOf_19 rfl (lv_at hl 1 rfl) ?_
      refine xg_f hx hb hts hown X h5 14 wlC_14 rfl 2 (by decide) (by decide +kernel) (v := .ref (ad 16)) rfl dX5_rankOf_20 ?_
      refine lv_iload_n hx hb dX5_rankOf_23 rfl (lv_at hl 3 rfl) ?_
      refine xb hf (fun v6 hv hf => ?_)
      refine xc_V1 (rest := []) ⟨hx, hb, hml, hown, hts⟩ (mX0_rankBy hv) (cwV 1 hts gX5_rankOf_X0_rankBy rfl rfl rfl hqX0_rankBy ⟨Nat.le_of_ble_eq_true rfl, Nat.le_of_ble_eq_true rfl⟩) X (va_recv X.1 X.2.1 (ci := 2) (q0 := 16) rfl wlC_16) rfl hl.1 rfl (Nat.le_of_ble_eq_true rfl) dX5_rankOf_24 ⟨Nat.zero_le _, Nat.zero_le _⟩ (fun H locs X => ?_)
      cases hf
set_option maxRecDepth 100000 in
set_option maxHeartbeats 4000000 in
theorem mX5_unlikeParts {l : Launch} {dd : va_G} {cy : Nat → ClassId} {ad : Nat → Nat} {A : Nat → Prop} {fu : Nat} {ts : Nat → Int32} {tc : Nat → Nat → Int32} {rk : Nat → Int32} {pl : Nat → Int32} {ru : Nat → Int64} {sl : Nat → Int32} {bg : Nat → Int32} {kn : Nat → Int64} {rm : Int32} {ol : Nat → Int64} {od : Nat → UInt64} {x1 : Int32} {rv : Int32} {rko : Nat → Int32} {plo : Nat → Int32} (hf : fX5_unlikeParts fu ts tc rk pl x1 = some (.ok rv, rko, plo)) : Met l yX5_unlikeParts wsX5_unlikeParts { frames := 4, cells := 0, slots := 0, locals := 95 } (va_Pc [.ref (ad 14), .int x1] (IW dd cy A (wlC ad cy ts tc rk pl ru sl bg kn rm ol od))) (QX dd cy A (some (.int rv)) (wlC ad cy ts tc rko plo ru sl bg kn rm ol od)) 0 0 A := by
  refine Met.ofW (cc := cX5_unlikeParts) (maxL := 5) (ret := some .int) (by decide) rfl ?_
  intro p e s m args below meth c s₁ B hml hv
  obtain ⟨hav, hI⟩ := hv
  have hx := B.exec
  have hb := B.bytes
  have hr := B.returns
  have hts := atoms_spec (ws := wsX5_unlikeParts) B.pre
  have hown : s.vm.findClass RX5 = some m.cls := findClass_of_methodNamed B.named
  have hlocks := B.notSynchronized
  have X := XW.of hI
  have h5 : ∀ w ∈ wsX50, w ∈ wsX5_unlikeParts := by decide +kernel
  refine xe_in hav (Nat.le_of_ble_eq_true rfl) rfl (fun ls hl => ?_)
  have w19 : ∀ (t2 : Nat) (ht2 : t2 < 7) (n : Nat) (y3 : Int32) (y4 : Int32) (rk : Nat → Int32) (pl : Nat → Int32), fX5_unlikeParts_19 fu ts tc t2 n y3 y4 rk pl = some (.ok rv, rko, plo) → ∀ (H : Heap) (locs : List Loc) (ls : Array Slot), XW dd cy A s (wlC ad cy ts tc rk pl ru sl bg kn rm ol od) H locs → lv_has ls 5 [(0, .ref (ad 14)), (2, .ref (ad t2)), (3, .int y3), (4, .int y4)] → W p l e (headSpec wsX5_unlikeParts { frames := 4, cells := 0, slots := 0, locals := 95 }).room s m args below meth c H locs 0 0 (MQ below (QX dd cy A (some (.int rv)) (wlC ad cy ts tc rko plo ru sl bg kn rm ol od)) args s 0 0 A) (F0 m 19 ls []) := by
    intro t2 ht2 n
    induction n with
    | zero => intro y3 y4 rk pl hf; exact absurd hf (by simp [fX5_unlikeParts_19])
    | succ n ih =>
      intro y3 y4 rk pl hf H locs ls X hl
      rw [fX5_unlikeParts_19] at hf
      refine lv_iload hx hb dX5_unlikeParts_19 (lv_at hl 3 rfl) ?_
      refine lv_aload_n hx hb dX5_unlikeParts_21 rfl (lv_at hl 1 rfl) ?_
      refine xb hf (fun v4 hv hf => ?_)
      refine xc_V1 (rest := [.int y4]) ⟨hx, hb, hml, hown, hts⟩ (mX4_size ht2 hv) (cwV 0 hts gX5_unlikeParts_X4_size rfl rfl rfl hqX4_size ⟨Nat.le_of_ble_eq_true rfl, Nat.le_of_ble_eq_true rfl⟩) X (va_recv X.1 X.2.1 (ci := 0) (q0 := t2) rfl (wlC_t ht2)) rfl hl.1 rfl (Nat.le_of_ble_eq_true rfl) dX5_unlikeParts_22 ⟨Nat.zero_le _, Nat.zero_le _⟩ (fun H locs X => ?_)
      refine xr_icmp_ge (tgt := 62) hx hb dX5_unlikeParts_25 rfl hf (fun hf => ?_) (fun hf => ?_)
      · refine lv_iload_n hx hb dX5_unlikeParts_62 rfl (lv_at hl 2 rfl) ?_
        cases hf
        exact xe_i hx hb hr hlocks X dX5_unlikeParts_63
      · refine lv_iload_n hx hb dX5_unlikeParts_28 rfl (lv_at hl 2 rfl) ?_
        refine lv_aload_n hx hb dX5_unlikeParts_29 rfl (lv_at hl 1 rfl) ?_
        refine xb hf (fun v5 hv hf => ?_)
        refine xc_V1 (rest := [.int y3]) ⟨hx, hb, hml, hown, hts⟩ (mX4_size ht2 hv) (cwV 0 hts gX5_unlikeParts_X4_size rfl rfl rfl hqX4_size ⟨Nat.le_of_ble_eq_true rfl, Nat.le_of_ble_eq_true rfl⟩) X (va_recv X.1 X.2.1 (ci := 0) (q0 := t2) rfl (wlC_t ht2)) rfl hl.1 rfl (Nat.le_of_ble_eq_true rfl) dX5_unlikeParts_30 ⟨Nat.zero_le _, Nat.zero_le _⟩ (fun H locs X => ?_)
        refine lv_aload_n hx hb dX5_unlikeParts_33 rfl (lv_at hl 0 rfl) ?_
        refine xg_f hx hb hts hown X h5 14 wlC_14 rfl 2 (by decide) (by decide +kernel) (v := .ref (ad 16)) rfl dX5_unlikeParts_34 ?_
        refine lv_iload hx hb dX5_unlikeParts_37 (lv_at hl 3 rfl) ?_
        refine xb hf (fun v6 hv hf => ?_)
        refine xc_V1 (rest := [.int v5, .int y3]) ⟨hx, hb, hml, hown, hts⟩ (mX0_placeBy hv) (cwV 1 hts gX5_unlikeParts_X0_placeBy rfl rfl rfl hqX0_placeBy ⟨Nat.le_of_ble_eq_true rfl, Nat.le_of_ble_eq_true rfl⟩) X (va_recv X.1 X.2.1 (ci := 2) (q0 := 16) rfl wlC_16) rfl hl.1 rfl (Nat.le_of_ble_eq_true rfl) dX5_unlikeParts_39 ⟨Nat.zero_le _, Nat.zero_le _⟩ (fun H locs X => ?_)
        refine lv_isub hx hb dX5_unlikeParts_42 ?_
        refine lv_aload_n hx hb dX5_unlikeParts_43 rfl (lv_at hl 0 rfl) ?_
        refine xg_f hx hb hts hown X h5 14 wlC_14 rfl 2 (by decide) (by decide +kernel) (v := .ref (ad 16)) rfl dX5_unlikeParts_44 ?_
        refine lv_aload_n hx hb dX5_unlikeParts_47 rfl (lv_at hl 1 rfl) ?_
        refine lv_iload hx hb dX5_unlikeParts_48 (lv_at hl 3 rfl) ?_
        refine xb hf (fun v7 hv hf => ?_)
        refine xc_V1 (rest := [.int (v5 - v6), .int y3]) ⟨hx, hb, hml, hown, hts⟩ (mX0_sharedBefore ht2 hv) (cwV 2 hts gX5_unlikeParts_X0_sharedBefore rfl rfl rfl hqX0_sharedBefore ⟨Nat.le_of_ble_eq_true rfl, Nat.le_of_ble_eq_true rfl⟩) X (va_recv X.1 X.2.1 (ci := 2) (q0 := 16) rfl wlC_16) rfl hl.1 rfl (Nat.le_of_ble_eq_true rfl) dX5_unlikeParts_50 ⟨Nat.zero_le _, Nat.zero_le _⟩ (fun H locs X => ?_)
        refine lv_isub hx hb dX5_unlikeParts_53 ?_
        refine lv_iadd hx hb dX5_unlikeParts_54 ?_
        refine lv_istore_n (lv' := [(3, .int (y3 + ((v5 - v6) - v7))), (0, .ref (ad 14)), (2, .ref (ad t2)), (4, .int y4)]) hx hb dX5_unlikeParts_55 rfl hl (by decide) rfl (fun ls hl => ?_)
        refine lv_iinc (v := (y4 + 1)) (lv' := [(4, .int (y4 + 1)), (3, .int (y3 + ((v5 - v6) - v7))), (0, .ref (ad 14)), (2, .ref (ad t2))]) hx hb dX5_unlikeParts_56 hl (k := 3) rfl ii_1 (by decide) rfl (fun ls hl => ?_)
        refine lv_goto (tgt := 19) hx hb dX5_unlikeParts_59 rfl ?_
        exact ih (y3 + ((v5 - v6) - v7)) (y4 + 1) rk pl hf _ _ _ X (lv_sub hl [2, 3, 1, 0] rfl)
  rw [fX5_unlikeParts] at hf
  refine lv_aload_n hx hb dX5_unlikeParts_0 rfl (lv_at hl 0 rfl) ?_
  refine lv_iload_n hx hb dX5_unlikeParts_1 rfl (lv_at hl 1 rfl) ?_
  refine xb hf (fun v1 hv1 hf => ?_)
  refine exb_c hf (fun e9 h9 hf => ?_) (fun r2 h9 hf => ?_)
  · cases hf
  · have hr2 : r2 < 7 := fX5_textOf_lt (exo_s hv1 h9)
    refine xc_V1 (rest := []) ⟨hx, hb, hml, hown, hts⟩ (mX5_textOf (exo_s hv1 h9)) (cwV 1 hts gX5_unlikeParts_X5_textOf rfl rfl rfl hqX5_textOf ⟨Nat.le_of_ble_eq_true rfl, Nat.le_of_ble_eq_true rfl⟩) X (va_recv X.1 X.2.1 (ci := 1) (q0 := 14) rfl wlC_14) rfl hl.1 rfl (Nat.le_of_ble_eq_true rfl) dX5_unlikeParts_2 ⟨Nat.zero_le _, Nat.zero_le _⟩ (fun H locs X => ?_)
    refine lv_astore_n (lv' := [(2, .ref (ad r2)), (0, .ref (ad 14)), (1, .int x1)]) hx hb dX5_unlikeParts_5 rfl hl (by decide) rfl (fun ls hl => ?_)
    refine lv_aload_n hx hb dX5_unlikeParts_6 rfl (lv_at hl 1 rfl) ?_
    refine xg_f hx hb hts hown X h5 14 wlC_14 rfl 2 (by decide) (by decide +kernel) (v := .ref (ad 16)) rfl dX5_unlikeParts_7 ?_
    refine lv_aload_n hx hb dX5_unlikeParts_10 rfl (lv_at hl 0 rfl) ?_
    refine xb hf (fun v3 hv hf => ?_)
    refine xc_V0 (rest := []) ⟨hx, hb, hml, hown, hts⟩ (mX0_arrange hr2 hv) (cwV 1 hts gX5_unlikeParts_X0_arrange rfl rfl rfl hqX0_arrange ⟨Nat.le_of_ble_eq_true rfl, Nat.le_of_ble_eq_true rfl⟩) X (va_recv X.1 X.2.1 (ci := 2) (q0 := 16) rfl wlC_16) rfl hl.1 rfl (Nat.le_of_ble_eq_true rfl) dX5_unlikeParts_11 ⟨Nat.zero_le _, Nat.zero_le _⟩ (fun H locs X => ?_)
    refine lv_iconst (v := (0 : Int32)) hx hb dX5_unlikeParts_14 rfl ?_
    refine lv_istore_n (lv' := [(3, .int (0 : Int32)), (2, .ref (ad r2)), (0, .ref (ad 14)), (1, .int x1)]) hx hb dX5_unlikeParts_15 rfl hl (by decide) rfl (fun ls hl => ?_)
    refine lv_iconst (v := (0 : Int32)) hx hb dX5_unlikeParts_16 rfl ?_
    refine lv_istore (lv' := [(4, .int (0 : Int32)), (3, .int (0 : Int32)), (2, .ref (ad r2)), (0, .ref (ad 14)), (1, .int x1)]) hx hb dX5_unlikeParts_17 hl (by decide) rfl (fun ls hl => ?_)
    exact w19 r2 hr2 fu (0 : Int32) (0 : Int32) v3.1 v3.2 hf _ _ _ X (lv_sub hl [3, 2, 1, 0] rfl)
set_option maxRecDepth 100000 in
set_option maxHeartbeats 4000000 in
theorem eX5_unlikeParts {l : Launch} {dd : va_G} {cy : Nat → ClassId} {ad : Nat → Nat} {A : Nat → Prop} {fu : Nat} {ts : Nat → Int32} {tc : Nat → Nat → Int32} {rk : Nat → Int32} {pl : Nat → Int32} {ru : Nat → Int64} {sl : Nat → Int32} {bg : Nat → Int32} {kn : Nat → Int64} {rm : Int32} {ol : Nat → Int64} {od : Nat → UInt64} {x1 : Int32} {E9 : String} {rko : Nat → Int32} {plo : Nat → Int32} (htr : l.stackTraces = false) (hf : fX5_unlikeParts fu ts tc rk pl x1 = some (.error E9, rko, plo)) : vx_Met l yX5_unlikeParts wsX5_unlikeParts { frames := 7, cells := 1, slots := 6, locals := 121 } (va_Pc [.ref (ad 14), .int x1] (IT dd cy A (wlC ad cy ts tc rk pl ru sl bg kn rm ol od))) (fun _ _ _ _ => False) (XE dd cy A E9 (wlC ad cy ts tc rko plo ru sl bg kn rm ol od)) 1 6 A := by
  refine vx_ofW (cc := cX5_unlikeParts) (maxL := 5) (ret := some .int) (by decide) rfl ?_
  intro p e s m args below meth c s₁ B hml hexc hv
  obtain ⟨hav, hI, hT⟩ := hv
  have hx := B.exec
  have hb := B.bytes
  have hr := B.returns
  have hts := atoms_spec (ws := wsX5_unlikeParts) B.pre
  have hown : s.vm.findClass RX5 = some m.cls := findClass_of_methodNamed B.named
  have hlocks := B.notSynchronized
  have X := XW.of hI
  have h5 : ∀ w ∈ wsX50, w ∈ wsX5_unlikeParts := by decide +kernel
  refine xe_in hav (Nat.le_of_ble_eq_true rfl) rfl (fun ls hl => ?_)
  have w19 : ∀ (t2 : Nat) (ht2 : t2 < 7) (n : Nat) (y3 : Int32) (y4 : Int32) (rk : Nat → Int32) (pl : Nat → Int32), fX5_unlikeParts_19 fu ts tc t2 n y3 y4 rk pl = some (.error E9, rko, plo) → ∀ (H : Heap) (locs : List Loc) (ls : Array Slot), XW dd cy A s (wlC ad cy ts tc rk pl ru sl bg kn rm ol od) H locs → lv_has ls 5 [(0, .ref (ad 14)), (2, .ref (ad t2)), (3, .int y3), (4, .int y4)] → W p l e (headSpec wsX5_unlikeParts { frames := 7, cells := 1, slots := 6, locals := 121 }).room s m args below meth c H locs 0 0 (vx_MQ below (fun _ _ _ _ => False) (XE dd cy A E9 (wlC ad cy ts tc rko plo ru sl bg kn rm ol od)) args s 1 6 A) (F0 m 19 ls []) := by
    intro t2 ht2 n
    induction n with
    | zero => intro y3 y4 rk pl hf; exact absurd hf (by simp [fX5_unlikeParts_19])
    | succ n ih =>
      intro y3 y4 rk pl hf H locs ls X hl
      rw [fX5_unlikeParts_19] at hf
      refine lv_iload hx hb dX5_unlikeParts_19 (lv_at hl 3 rfl) ?_
      refine lv_aload_n hx hb dX5_unlikeParts_21 rfl (lv_at hl 1 rfl) ?_
      refine xb hf (fun v4 hv hf => ?_)
      refine xc_V1 (rest := [.int y4]) ⟨hx, hb, hml, hown, hts⟩ (mX4_size ht2 hv) (cwV 0 hts gX5_unlikeParts_X4_size rfl rfl rfl hqX4_size ⟨Nat.le_of_ble_eq_true rfl, Nat.le_of_ble_eq_true rfl⟩) X (va_recv X.1 X.2.1 (ci := 0) (q0 := t2) rfl (wlC_t ht2)) rfl hl.1 rfl (Nat.le_of_ble_eq_true rfl) dX5_unlikeParts_22 ⟨Nat.zero_le _, Nat.zero_le _⟩ (fun H locs X => ?_)
      refine xr_icmp_ge (tgt := 62) hx hb dX5_unlikeParts_25 rfl hf (fun hf => ?_) (fun hf => ?_)
      · refine lv_iload_n hx hb dX5_unlikeParts_62 rfl (lv_at hl 2 rfl) ?_
        cases hf
      · refine lv_iload_n hx hb dX5_unlikeParts_28 rfl (lv_at hl 2 rfl) ?_
        refine lv_aload_n hx hb dX5_unlikeParts_29 rfl (lv_at hl 1 rfl) ?_
        refine xb hf (fun v5 hv hf => ?_)
        refine xc_V1 (rest := [.int y3]) ⟨hx, hb, hml, hown, hts⟩ (mX4_size ht2 hv) (cwV 0 hts gX5_unlikeParts_X4_size rfl rfl rfl hqX4_size ⟨Nat.le_of_ble_eq_true rfl, Nat.le_of_ble_eq_true rfl⟩) X (va_recv X.1 X.2.1 (ci := 0) (q0 := t2) rfl (wlC_t ht2)) rfl hl.1 rfl (Nat.le_of_ble_eq_true rfl) dX5_unlikeParts_30 ⟨Nat.zero_le _, Nat.zero_le _⟩ (fun H locs X => ?_)
        refine lv_aload_n hx hb dX5_unlikeParts_33 rfl (lv_at hl 0 rfl) ?_
        refine xg_f hx hb hts hown X h5 14 wlC_14 rfl 2 (by decide) (by decide +kernel) (v := .ref (ad 16)) rfl dX5_unlikeParts_34 ?_
        refine lv_iload hx hb dX5_unlikeParts_37 (lv_at hl 3 rfl) ?_
        refine xb hf (fun v6 hv hf => ?_)
        refine xc_V1 (rest := [.int v5, .int y3]) ⟨hx, hb, hml, hown, hts⟩ (mX0_placeBy hv) (cwV 1 hts gX5_unlikeParts_X0_placeBy rfl rfl rfl hqX0_placeBy ⟨Nat.le_of_ble_eq_true rfl, Nat.le_of_ble_eq_true rfl⟩) X (va_recv X.1 X.2.1 (ci := 2) (q0 := 16) rfl wlC_16) rfl hl.1 rfl (Nat.le_of_ble_eq_true rfl) dX5_unlikeParts_39 ⟨Nat.zero_le _, Nat.zero_le _⟩ (fun H locs X => ?_)
        refine lv_isub hx hb dX5_unlikeParts_42 ?_
        refine lv_aload_n hx hb dX5_unlikeParts_43 rfl (lv_at hl 0 rfl) ?_
        refine xg_f hx hb hts hown X h5 14 wlC_14 rfl 2 (by decide) (by decide +kernel) (v := .ref (ad 16)) rfl dX5_unlikeParts_44 ?_
        refine lv_aload_n hx hb dX5_unlikeParts_47 rfl (lv_at hl 1 rfl) ?_
        refine lv_iload hx hb dX5_unlikeParts_48 (lv_at hl 3 rfl) ?_
        refine xb hf (fun v7 hv hf => ?_)
        refine xc_V1 (rest := [.int (v5 - v6), .int y3]) ⟨hx, hb, hml, hown, hts⟩ (mX0_sharedBefore ht2 hv) (cwV 2 hts gX5_unlikeParts_X0_sharedBefore rfl rfl rfl hqX0_sharedBefore ⟨Nat.le_of_ble_eq_true rfl, Nat.le_of_ble_eq_true rfl⟩) X (va_recv X.1 X.2.1 (ci := 2) (q0 := 16) rfl wlC_16) rfl hl.1 rfl (Nat.le_of_ble_eq_true rfl) dX5_unlikeParts_50 ⟨Nat.zero_le _, Nat.zero_le _⟩ (fun H locs X => ?_)
        refine lv_isub hx hb dX5_unlikeParts_53 ?_
        refine lv_iadd hx hb dX5_unlikeParts_54 ?_
        refine lv_istore_n (lv' := [(3, .int (y3 + ((v5 - v6) - v7))), (0, .ref (ad 14)), (2, .ref (ad t2)), (4, .int y4)]) hx hb dX5_unlikeParts_55 rfl hl (by decide) rfl (fun ls hl => ?_)
        refine lv_iinc (v := (y4 + 1)) (lv' := [(4, .int (y4 + 1)), (3, .int (y3 + ((v5 - v6) - v7))), (0, .ref (ad 14)), (2, .ref (ad t2))]) hx hb dX5_unlikeParts_56 hl (k := 3) rfl ii_1 (by decide) rfl (fun ls hl => ?_)
        refine lv_goto (tgt := 19) hx hb dX5_unlikeParts_59 rfl ?_
        exact ih (y3 + ((v5 - v6) - v7)) (y4 + 1) rk pl hf _ _ _ X (lv_sub hl [2, 3, 1, 0] rfl)
  rw [fX5_unlikeParts] at hf
  refine lv_aload_n hx hb dX5_unlikeParts_0 rfl (lv_at hl 0 rfl) ?_
  refine lv_iload_n hx hb dX5_unlikeParts_1 rfl (lv_at hl 1 rfl) ?_
  refine xb hf (fun v1 hv1 hf => ?_)
  refine exb_c hf (fun e9 h9 hf => ?_) (fun r2 h9 hf => ?_)
  · cases hf
    exact xt_V (rest := []) ⟨hx, hb, hml, hown, hts⟩ (eX5_textOf htr (exo_s hv1 h9)) (cwV 1 hts gX5_unlikeParts_X5_textOf rfl rfl rfl hqX5_textOf ⟨Nat.le_of_ble_eq_true rfl, Nat.le_of_ble_eq_true rfl⟩) X hT (va_recv X.1 X.2.1 (ci := 1) (q0 := 14) rfl wlC_14) rfl hl.1 rfl (Nat.le_of_ble_eq_true rfl) dX5_unlikeParts_2 ⟨Nat.le_of_ble_eq_true rfl, Nat.le_of_ble_eq_true rfl⟩ hexc hlocks
  · have hr2 : r2 < 7 := fX5_textOf_lt (exo_s hv1 h9)
    refine xc_V1 (rest := []) ⟨hx, hb, hml, hown, hts⟩ (mX5_textOf (exo_s hv1 h9)) (cwV 1 hts gX5_unlikeParts_X5_textOf rfl rfl rfl hqX5_textOf ⟨Nat.le_of_ble_eq_true rfl, Nat.le_of_ble_eq_true rfl⟩) X (va_recv X.1 X.2.1 (ci := 1) (q0 := 14) rfl wlC_14) rfl hl.1 rfl (Nat.le_of_ble_eq_true rfl) dX5_unlikeParts_2 ⟨Nat.zero_le _, Nat.zero_le _⟩ (fun H locs X => ?_)
    refine lv_astore_n (lv' := [(2, .ref (ad r2)), (0, .ref (ad 14)), (1, .int x1)]) hx hb dX5_unlikeParts_5 rfl hl (by decide) rfl (fun ls hl => ?_)
    refine lv_aload_n hx hb dX5_unlikeParts_6 rfl (lv_at hl 1 rfl) ?_
    refine xg_f hx hb hts hown X h5 14 wlC_14 rfl 2 (by decide) (by decide +kernel) (v := .ref (ad 16)) rfl dX5_unlikeParts_7 ?_
    refine lv_aload_n hx hb dX5_unlikeParts_10 rfl (lv_at hl 0 rfl) ?_
    refine xb hf (fun v3 hv hf => ?_)
    refine xc_V0 (rest := []) ⟨hx, hb, hml, hown, hts⟩ (mX0_arrange hr2 hv) (cwV 1 hts gX5_unlikeParts_X0_arrange rfl rfl rfl hqX0_arrange ⟨Nat.le_of_ble_eq_true rfl, Nat.le_of_ble_eq_true rfl⟩) X (va_recv X.1 X.2.1 (ci := 2) (q0 := 16) rfl wlC_16) rfl hl.1 rfl (Nat.le_of_ble_eq_true rfl) dX5_unlikeParts_11 ⟨Nat.zero_le _, Nat.zero_le _⟩ (fun H locs X => ?_)
    refine lv_iconst (v := (0 : Int32)) hx hb dX5_unlikeParts_14 rfl ?_
    refine lv_istore_n (lv' := [(3, .int (0 : Int32)), (2, .ref (ad r2)), (0, .ref (ad 14)), (1, .int x1)]) hx hb dX5_unlikeParts_15 rfl hl (by decide) rfl (fun ls hl => ?_)
    refine lv_iconst (v := (0 : Int32)) hx hb dX5_unlikeParts_16 rfl ?_
    refine lv_istore (lv' := [(4, .int (0 : Int32)), (3, .int (0 : Int32)), (2, .ref (ad r2)), (0, .ref (ad 14)), (1, .int x1)]) hx hb dX5_unlikeParts_17 hl (by decide) rfl (fun ls hl => ?_)
    exact w19 r2 hr2 fu (0 : Int32) (0 : Int32) v3.1 v3.2 hf _ _ _ X (lv_sub hl [3, 2, 1, 0] rfl)
set_option maxRecDepth 100000 in
set_option maxHeartbeats 4000000 in
theorem mX5_twice {l : Launch} {dd : va_G} {cy : Nat → ClassId} {ad : Nat → Nat} {A : Nat → Prop} {fu : Nat} {ts : Nat → Int32} {tc : Nat → Nat → Int32} {rk : Nat → Int32} {pl : Nat → Int32} {ru : Nat → Int64} {sl : Nat → Int32} {bg : Nat → Int32} {kn : Nat → Int64} {rm : Int32} {ol : Nat → Int64} {od : Nat → UInt64} {x1 : Int32} {x2 : Int32} {rv : Int32} {tso : Nat → Int32} {tco : Nat → Nat → Int32} {rko : Nat → Int32} {plo : Nat → Int32} (hf : fX5_twice fu ts tc rk pl x1 x2 = some (.ok rv, tso, tco, rko, plo)) : Met l yX5_twice wsX5_twice { frames := 6, cells := 0, slots := 0, locals := 132 } (va_Pc [.ref (ad 14), .int x1, .int x2] (IW dd cy A (wlC ad cy ts tc rk pl ru sl bg kn rm ol od))) (QX dd cy A (some (.int rv)) (wlC ad cy tso tco rko plo ru sl bg kn rm ol od)) 0 0 A := by
  refine Met.ofW (cc := cX5_twice) (maxL := 9) (ret := some .int) (by decide) rfl ?_
  intro p e s m args below meth c s₁ B hml hv
  obtain ⟨hav, hI⟩ := hv
  have hx := B.exec
  have hb := B.bytes
  have hr := B.returns
  have hts := atoms_spec (ws := wsX5_twice) B.pre
  have hown : s.vm.findClass RX5 = some m.cls := findClass_of_methodNamed B.named
  have hlocks := B.notSynchronized
  have X := XW.of hI
  have h5 : ∀ w ∈ wsX50, w ∈ wsX5_twice := by decide +kernel
  refine xe_in hav (Nat.le_of_ble_eq_true rfl) rfl (fun ls hl => ?_)
  have w31 : ∀ (t3 : Nat) (t4 : Nat) (ht3 : t3 < 7) (ht4 : t4 < 7) (n : Nat) (y5 : Int32) (y6 : Int32) (y7 : Int32) (ts : Nat → Int32) (tc : Nat → Nat → Int32) (rk : Nat → Int32) (pl : Nat → Int32), fX5_twice_31 fu t3 t4 n y5 y6 y7 ts tc rk pl = some (.ok rv, tso, tco, rko, plo) → ∀ (H : Heap) (locs : List Loc) (ls : Array Slot), XW dd cy A s (wlC ad cy ts tc rk pl ru sl bg kn rm ol od) H locs → lv_has ls 9 [(0, .ref (ad 14)), (3, .ref (ad t3)), (4, .ref (ad t4)), (5, .int y5), (6, .int y6), (7, .int y7)] → W p l e (headSpec wsX5_twice { frames := 6, cells := 0, slots := 0, locals := 132 }).room s m args below meth c H locs 0 0 (MQ below (QX dd cy A (some (.int rv)) (wlC ad cy tso tco rko plo ru sl bg kn rm ol od)) args s 0 0 A) (F0 m 31 ls []) := by
    intro t3 t4 ht3 ht4 n
    induction n with
    | zero => intro y5 y6 y7 ts tc rk pl hf; exact absurd hf (by simp [fX5_twice_31])
    | succ n ih =>
      intro y5 y6 y7 ts tc rk pl hf H locs ls X hl
      rw [fX5_twice_31] at hf
      refine lv_iload hx hb dX5_twice_31 (lv_at hl 5 rfl) ?_
      refine lv_aload hx hb dX5_twice_33 (lv_at hl 2 rfl) ?_
      refine xb hf (fun v6 hv hf => ?_)
      refine xc_V1 (rest := [.int y7]) ⟨hx, hb, hml, hown, hts⟩ (mX4_size ht4 hv) (cwV 0 hts gX5_twice_X4_size rfl rfl rfl hqX4_size ⟨Nat.le_of_ble_eq_true rfl, Nat.le_of_ble_eq_true rfl⟩) X (va_recv X.1 X.2.1 (ci := 0) (q0 := t4) rfl (wlC_t ht4)) rfl hl.1 rfl (Nat.le_of_ble_eq_true rfl) dX5_twice_35 ⟨Nat.zero_le _, Nat.zero_le _⟩ (fun H locs X => ?_)
      refine xr_icmp_ge (tgt := 82) hx hb dX5_twice_38 rfl hf (fun hf => ?_) (fun hf => ?_)
      · refine lv_aload_n hx hb dX5_twice_82 rfl (lv_at hl 0 rfl) ?_
        refine lv_aload_n hx hb dX5_twice_83 rfl (lv_at hl 1 rfl) ?_
        refine lv_aload hx hb dX5_twice_84 (lv_at hl 2 rfl) ?_
        refine lv_iload hx hb dX5_twice_86 (lv_at hl 4 rfl) ?_
        refine lv_iload hx hb dX5_twice_88 (lv_at hl 4 rfl) ?_
        refine lv_iload hx hb dX5_twice_90 (lv_at hl 3 rfl) ?_
        refine lv_iadd hx hb dX5_twice_92 ?_
        refine xb hf (fun v7 hv hf => ?_)
        refine xc_V1 (rest := []) ⟨hx, hb, hml, hown, hts⟩ (mX5_becomePart ht3 ht4 hv) (cwV 4 hts gX5_twice_X5_becomePart rfl rfl rfl hqX5_becomePart ⟨Nat.le_of_ble_eq_true rfl, Nat.le_of_ble_eq_true rfl⟩) X (va_recv X.1 X.2.1 (ci := 1) (q0 := 14) rfl wlC_14) rfl hl.1 rfl (Nat.le_of_ble_eq_true rfl) dX5_twice_93 ⟨Nat.zero_le _, Nat.zero_le _⟩ (fun H locs X => ?_)
        cases hf
        exact xe_i hx hb hr hlocks X dX5_twice_96
      · refine lv_aload_n hx hb dX5_twice_41 rfl (lv_at hl 0 rfl) ?_
        refine xg_f hx hb hts hown X h5 14 wlC_14 rfl 2 (by decide) (by decide +kernel) (v := .ref (ad 16)) rfl dX5_twice_42 ?_
        refine lv_aload hx hb dX5_twice_45 (lv_at hl 2 rfl) ?_
        refine lv_iload hx hb dX5_twice_47 (lv_at hl 5 rfl) ?_
        refine xb hf (fun v8 hv hf => ?_)
        refine xc_V1 (rest := []) ⟨hx, hb, hml, hown, hts⟩ (mX0_sharedBefore ht4 hv) (cwV 2 hts gX5_twice_X0_sharedBefore rfl rfl rfl hqX0_sharedBefore ⟨Nat.le_of_ble_eq_true rfl, Nat.le_of_ble_eq_true rfl⟩) X (va_recv X.1 X.2.1 (ci := 2) (q0 := 16) rfl wlC_16) rfl hl.1 rfl (Nat.le_of_ble_eq_true rfl) dX5_twice_49 ⟨Nat.zero_le _, Nat.zero_le _⟩ (fun H locs X => ?_)
        refine lv_istore (lv' := [(8, .int v8), (0, .ref (ad 14)), (3, .ref (ad t3)), (4, .ref (ad t4)), (5, .int y5), (6, .int y6), (7, .int y7)]) hx hb dX5_twice_52 hl (by decide) rfl (fun ls hl => ?_)
        refine lv_iload hx hb dX5_twice_54 (lv_at hl 0 rfl) ?_
        refine lv_iload hx hb dX5_twice_56 (lv_at hl 4 rfl) ?_
        refine xr_icmp_le (tgt := 76) hx hb dX5_twice_58 rfl hf (fun hf => ?_) (fun hf => ?_)
        · refine lv_iinc (v := (y7 + 1)) (lv' := [(7, .int (y7 + 1)), (8, .int v8), (0, .ref (ad 14)), (3, .ref (ad t3)), (4, .ref (ad t4)), (5, .int y5), (6, .int y6)]) hx hb dX5_twice_76 hl (k := 6) rfl ii_1 (by decide) rfl (fun ls hl => ?_)
          refine lv_goto (tgt := 31) hx hb dX5_twice_79 rfl ?_
          exact ih y5 y6 (y7 + 1) ts tc rk pl hf _ _ _ X (lv_sub hl [2, 3, 4, 5, 6, 0] rfl)
        · refine lv_iload hx hb dX5_twice_61 (lv_at hl 0 rfl) ?_
          refine lv_istore (lv' := [(5, .int v8), (8, .int v8), (0, .ref (ad 14)), (3, .ref (ad t3)), (4, .ref (ad t4)), (6, .int y6), (7, .int y7)]) hx hb dX5_twice_63 hl (by decide) rfl (fun ls hl => ?_)
          refine lv_aload_n hx hb dX5_twice_65 rfl (lv_at hl 2 rfl) ?_
          refine xg_f hx hb hts hown X h5 14 wlC_14 rfl 2 (by decide) (by decide +kernel) (v := .ref (ad 16)) rfl dX5_twice_66 ?_
          refine lv_iload hx hb dX5_twice_69 (lv_at hl 6 rfl) ?_
          refine xb hf (fun v9 hv hf => ?_)
          refine xc_V1 (rest := []) ⟨hx, hb, hml, hown, hts⟩ (mX0_placeBy hv) (cwV 1 hts gX5_twice_X0_placeBy rfl rfl rfl hqX0_placeBy ⟨Nat.le_of_ble_eq_true rfl, Nat.le_of_ble_eq_true rfl⟩) X (va_recv X.1 X.2.1 (ci := 2) (q0 := 16) rfl wlC_16) rfl hl.1 rfl (Nat.le_of_ble_eq_true rfl) dX5_twice_71 ⟨Nat.zero_le _, Nat.zero_le _⟩ (fun H locs X => ?_)
          refine lv_istore (lv' := [(6, .int v9), (5, .int v8), (8, .int v8), (0, .ref (ad 14)), (3, .ref (ad t3)), (4, .ref (ad t4)), (7, .int y7)]) hx hb dX5_twice_74 hl (by decide) rfl (fun ls hl => ?_)
          refine lv_iinc (v := (y7 + 1)) (lv' := [(7, .int (y7 + 1)), (6, .int v9), (5, .int v8), (8, .int v8), (0, .ref (ad 14)), (3, .ref (ad t3)), (4, .ref (ad t4))]) hx hb dX5_twice_76 hl (k := 6) rfl ii_1 (by decide) rfl (fun ls hl => ?_)
          refine lv_goto (tgt := 31) hx hb dX5_twice_79 rfl ?_
          exact ih v8 v9 (y7 + 1) ts tc rk pl hf _ _ _ X (lv_sub hl [4, 5, 6, 2, 1, 0] rfl)
  rw [fX5_twice] at hf
  refine lv_aload_n hx hb dX5_twice_0 rfl (lv_at hl 0 rfl) ?_
  refine lv_iload_n hx hb dX5_twice_1 rfl (lv_at hl 1 rfl) ?_
  refine xb hf (fun v1 hv1 hf => ?_)
  refine exb_c hf (fun e9 h9 hf => ?_) (fun r2 h9 hf => ?_)
  · cases hf
  · have hr2 : r2 < 7 := fX5_textOf_lt (exo_s hv1 h9)
    refine xc_V1 (rest := []) ⟨hx, hb, hml, hown, hts⟩ (mX5_textOf (exo_s hv1 h9)) (cwV 1 hts gX5_twice_X5_textOf rfl rfl rfl hqX5_textOf ⟨Nat.le_of_ble_eq_true rfl, Nat.le_of_ble_eq_true rfl⟩) X (va_recv X.1 X.2.1 (ci := 1) (q0 := 14) rfl wlC_14) rfl hl.1 rfl (Nat.le_of_ble_eq_true rfl) dX5_twice_2 ⟨Nat.zero_le _, Nat.zero_le _⟩ (fun H locs X => ?_)
    refine lv_astore_n (lv' := [(3, .ref (ad r2)), (0, .ref (ad 14)), (1, .int x1), (2, .int x2)]) hx hb dX5_twice_5 rfl hl (by decide) rfl (fun ls hl => ?_)
    refine lv_aload_n hx hb dX5_twice_6 rfl (lv_at hl 1 rfl) ?_
    refine lv_iload_n hx hb dX5_twice_7 rfl (lv_at hl 3 rfl) ?_
    refine xb hf (fun v3 hv3 hf => ?_)
    refine exb_c hf (fun e9 h9 hf => ?_) (fun r4 h9 hf => ?_)
    · cases hf
    · have hr4 : r4 < 7 := fX5_textOf_lt (exo_s hv3 h9)
      refine xc_V1 (rest := []) ⟨hx, hb, hml, hown, hts⟩ (mX5_textOf (exo_s hv3 h9)) (cwV 1 hts gX5_twice_X5_textOf rfl rfl rfl hqX5_textOf ⟨Nat.le_of_ble_eq_true rfl, Nat.le_of_ble_eq_true rfl⟩) X (va_recv X.1 X.2.1 (ci := 1) (q0 := 14) rfl wlC_14) rfl hl.1 rfl (Nat.le_of_ble_eq_true rfl) dX5_twice_8 ⟨Nat.zero_le _, Nat.zero_le _⟩ (fun H locs X => ?_)
      refine lv_astore (lv' := [(4, .ref (ad r4)), (3, .ref (ad r2)), (0, .ref (ad 14)), (1, .int x1), (2, .int x2)]) hx hb dX5_twice_11 hl (by decide) rfl (fun ls hl => ?_)
      refine lv_aload_n hx hb dX5_twice_13 rfl (lv_at hl 2 rfl) ?_
      refine xg_f hx hb hts hown X h5 14 wlC_14 rfl 2 (by decide) (by decide +kernel) (v := .ref (ad 16)) rfl dX5_twice_14 ?_
      refine lv_aload hx hb dX5_twice_17 (lv_at hl 0 rfl) ?_
      refine xb hf (fun v5 hv hf => ?_)
      refine xc_V0 (rest := []) ⟨hx, hb, hml, hown, hts⟩ (mX0_arrange hr4 hv) (cwV 1 hts gX5_twice_X0_arrange rfl rfl rfl hqX0_arrange ⟨Nat.le_of_ble_eq_true rfl, Nat.le_of_ble_eq_true rfl⟩) X (va_recv X.1 X.2.1 (ci := 2) (q0 := 16) rfl wlC_16) rfl hl.1 rfl (Nat.le_of_ble_eq_true rfl) dX5_twice_19 ⟨Nat.zero_le _, Nat.zero_le _⟩ (fun H locs X => ?_)
      refine lv_iconst (v := (0 : Int32)) hx hb dX5_twice_22 rfl ?_
      refine lv_istore (lv' := [(5, .int (0 : Int32)), (4, .ref (ad r4)), (3, .ref (ad r2)), (0, .ref (ad 14)), (1, .int x1), (2, .int x2)]) hx hb dX5_twice_23 hl (by decide) rfl (fun ls hl => ?_)
      refine lv_iconst (v := (0 : Int32)) hx hb dX5_twice_25 rfl ?_
      refine lv_istore (lv' := [(6, .int (0 : Int32)), (5, .int (0 : Int32)), (4, .ref (ad r4)), (3, .ref (ad r2)), (0, .ref (ad 14)), (1, .int x1), (2, .int x2)]) hx hb dX5_twice_26 hl (by decide) rfl (fun ls hl => ?_)
      refine lv_iconst (v := (1 : Int32)) hx hb dX5_twice_28 rfl ?_
      refine lv_istore (lv' := [(7, .int (1 : Int32)), (6, .int (0 : Int32)), (5, .int (0 : Int32)), (4, .ref (ad r4)), (3, .ref (ad r2)), (0, .ref (ad 14)), (1, .int x1), (2, .int x2)]) hx hb dX5_twice_29 hl (by decide) rfl (fun ls hl => ?_)
      exact w31 r2 r4 hr2 hr4 fu (0 : Int32) (0 : Int32) (1 : Int32) ts tc v5.1 v5.2 hf _ _ _ X (lv_sub hl [5, 4, 3, 2, 1, 0] rfl)
set_option maxRecDepth 100000 in
set_option maxHeartbeats 4000000 in
theorem eX5_twice {l : Launch} {dd : va_G} {cy : Nat → ClassId} {ad : Nat → Nat} {A : Nat → Prop} {fu : Nat} {ts : Nat → Int32} {tc : Nat → Nat → Int32} {rk : Nat → Int32} {pl : Nat → Int32} {ru : Nat → Int64} {sl : Nat → Int32} {bg : Nat → Int32} {kn : Nat → Int64} {rm : Int32} {ol : Nat → Int64} {od : Nat → UInt64} {x1 : Int32} {x2 : Int32} {E9 : String} {tso : Nat → Int32} {tco : Nat → Nat → Int32} {rko : Nat → Int32} {plo : Nat → Int32} (htr : l.stackTraces = false) (hf : fX5_twice fu ts tc rk pl x1 x2 = some (.error E9, tso, tco, rko, plo)) : vx_Met l yX5_twice wsX5_twice { frames := 7, cells := 1, slots := 6, locals := 132 } (va_Pc [.ref (ad 14), .int x1, .int x2] (IT dd cy A (wlC ad cy ts tc rk pl ru sl bg kn rm ol od))) (fun _ _ _ _ => False) (XE dd cy A E9 (wlC ad cy tso tco rko plo ru sl bg kn rm ol od)) 1 6 A := by
  refine vx_ofW (cc := cX5_twice) (maxL := 9) (ret := some .int) (by decide) rfl ?_
  intro p e s m args below meth c s₁ B hml hexc hv
  obtain ⟨hav, hI, hT⟩ := hv
  have hx := B.exec
  have hb := B.bytes
  have hr := B.returns
  have hts := atoms_spec (ws := wsX5_twice) B.pre
  have hown : s.vm.findClass RX5 = some m.cls := findClass_of_methodNamed B.named
  have hlocks := B.notSynchronized
  have X := XW.of hI
  have h5 : ∀ w ∈ wsX50, w ∈ wsX5_twice := by decide +kernel
  refine xe_in hav (Nat.le_of_ble_eq_true rfl) rfl (fun ls hl => ?_)
  have w31 : ∀ (t3 : Nat) (t4 : Nat) (ht3 : t3 < 7) (ht4 : t4 < 7) (n : Nat) (y5 : Int32) (y6 : Int32) (y7 : Int32) (ts : Nat → Int32) (tc : Nat → Nat → Int32) (rk : Nat → Int32) (pl : Nat → Int32), fX5_twice_31 fu t3 t4 n y5 y6 y7 ts tc rk pl = some (.error E9, tso, tco, rko, plo) → ∀ (H : Heap) (locs : List Loc) (ls : Array Slot), XW dd cy A s (wlC ad cy ts tc rk pl ru sl bg kn rm ol od) H locs → lv_has ls 9 [(0, .ref (ad 14)), (3, .ref (ad t3)), (4, .ref (ad t4)), (5, .int y5), (6, .int y6), (7, .int y7)] → W p l e (headSpec wsX5_twice { frames := 7, cells := 1, slots := 6, locals := 132 }).room s m args below meth c H locs 0 0 (vx_MQ below (fun _ _ _ _ => False) (XE dd cy A E9 (wlC ad cy tso tco rko plo ru sl bg kn rm ol od)) args s 1 6 A) (F0 m 31 ls []) := by
    intro t3 t4 ht3 ht4 n
    induction n with
    | zero => intro y5 y6 y7 ts tc rk pl hf; exact absurd hf (by simp [fX5_twice_31])
    | succ n ih =>
      intro y5 y6 y7 ts tc rk pl hf H locs ls X hl
      rw [fX5_twice_31] at hf
      refine lv_iload hx hb dX5_twice_31 (lv_at hl 5 rfl) ?_
      refine lv_aload hx hb dX5_twice_33 (lv_at hl 2 rfl) ?_
      refine xb hf (fun v6 hv hf => ?_)
      refine xc_V1 (rest := [.int y7]) ⟨hx, hb, hml, hown, hts⟩ (mX4_size ht4 hv) (cwV 0 hts gX5_twice_X4_size rfl rfl rfl hqX4_size ⟨Nat.le_of_ble_eq_true rfl, Nat.le_of_ble_eq_true rfl⟩) X (va_recv X.1 X.2.1 (ci := 0) (q0 := t4) rfl (wlC_t ht4)) rfl hl.1 rfl (Nat.le_of_ble_eq_true rfl) dX5_twice_35 ⟨Nat.zero_le _, Nat.zero_le _⟩ (fun H locs X => ?_)
      refine xr_icmp_ge (tgt := 82) hx hb dX5_twice_38 rfl hf (fun hf => ?_) (fun hf => ?_)
      · refine lv_aload_n hx hb dX5_twice_82 rfl (lv_at hl 0 rfl) ?_
        refine lv_aload_n hx hb dX5_twice_83 rfl (lv_at hl 1 rfl) ?_
        refine lv_aload hx hb dX5_twice_84 (lv_at hl 2 rfl) ?_
        refine lv_iload hx hb dX5_twice_86 (lv_at hl 4 rfl) ?_
        refine lv_iload hx hb dX5_twice_88 (lv_at hl 4 rfl) ?_
        refine lv_iload hx hb dX5_twice_90 (lv_at hl 3 rfl) ?_
        refine lv_iadd hx hb dX5_twice_92 ?_
        refine xb hf (fun v7 hv hf => ?_)
        refine xc_V1 (rest := []) ⟨hx, hb, hml, hown, hts⟩ (mX5_becomePart ht3 ht4 hv) (cwV 4 hts gX5_twice_X5_becomePart rfl rfl rfl hqX5_becomePart ⟨Nat.le_of_ble_eq_true rfl, Nat.le_of_ble_eq_true rfl⟩) X (va_recv X.1 X.2.1 (ci := 1) (q0 := 14) rfl wlC_14) rfl hl.1 rfl (Nat.le_of_ble_eq_true rfl) dX5_twice_93 ⟨Nat.zero_le _, Nat.zero_le _⟩ (fun H locs X => ?_)
        cases hf
      · refine lv_aload_n hx hb dX5_twice_41 rfl (lv_at hl 0 rfl) ?_
        refine xg_f hx hb hts hown X h5 14 wlC_14 rfl 2 (by decide) (by decide +kernel) (v := .ref (ad 16)) rfl dX5_twice_42 ?_
        refine lv_aload hx hb dX5_twice_45 (lv_at hl 2 rfl) ?_
        refine lv_iload hx hb dX5_twice_47 (lv_at hl 5 rfl) ?_
        refine xb hf (fun v8 hv hf => ?_)
        refine xc_V1 (rest := []) ⟨hx, hb, hml, hown, hts⟩ (mX0_sharedBefore ht4 hv) (cwV 2 hts gX5_twice_X0_sharedBefore rfl rfl rfl hqX0_sharedBefore ⟨Nat.le_of_ble_eq_true rfl, Nat.le_of_ble_eq_true rfl⟩) X (va_recv X.1 X.2.1 (ci := 2) (q0 := 16) rfl wlC_16) rfl hl.1 rfl (Nat.le_of_ble_eq_true rfl) dX5_twice_49 ⟨Nat.zero_le _, Nat.zero_le _⟩ (fun H locs X => ?_)
        refine lv_istore (lv' := [(8, .int v8), (0, .ref (ad 14)), (3, .ref (ad t3)), (4, .ref (ad t4)), (5, .int y5), (6, .int y6), (7, .int y7)]) hx hb dX5_twice_52 hl (by decide) rfl (fun ls hl => ?_)
        refine lv_iload hx hb dX5_twice_54 (lv_at hl 0 rfl) ?_
        refine lv_iload hx hb dX5_twice_56 (lv_at hl 4 rfl) ?_
        refine xr_icmp_le (tgt := 76) hx hb dX5_twice_58 rfl hf (fun hf => ?_) (fun hf => ?_)
        · refine lv_iinc (v := (y7 + 1)) (lv' := [(7, .int (y7 + 1)), (8, .int v8), (0, .ref (ad 14)), (3, .ref (ad t3)), (4, .ref (ad t4)), (5, .int y5), (6, .int y6)]) hx hb dX5_twice_76 hl (k := 6) rfl ii_1 (by decide) rfl (fun ls hl => ?_)
          refine lv_goto (tgt := 31) hx hb dX5_twice_79 rfl ?_
          exact ih y5 y6 (y7 + 1) ts tc rk pl hf _ _ _ X (lv_sub hl [2, 3, 4, 5, 6, 0] rfl)
        · refine lv_iload hx hb dX5_twice_61 (lv_at hl 0 rfl) ?_
          refine lv_istore (lv' := [(5, .int v8), (8, .int v8), (0, .ref (ad 14)), (3, .ref (ad t3)), (4, .ref (ad t4)), (6, .int y6), (7, .int y7)]) hx hb dX5_twice_63 hl (by decide) rfl (fun ls hl => ?_)
          refine lv_aload_n hx hb dX5_twice_65 rfl (lv_at hl 2 rfl) ?_
          refine xg_f hx hb hts hown X h5 14 wlC_14 rfl 2 (by decide) (by decide +kernel) (v := .ref (ad 16)) rfl dX5_twice_66 ?_
          refine lv_iload hx hb dX5_twice_69 (lv_at hl 6 rfl) ?_
          refine xb hf (fun v9 hv hf => ?_)
          refine xc_V1 (rest := []) ⟨hx, hb, hml, hown, hts⟩ (mX0_placeBy hv) (cwV 1 hts gX5_twice_X0_placeBy rfl rfl rfl hqX0_placeBy ⟨Nat.le_of_ble_eq_true rfl, Nat.le_of_ble_eq_true rfl⟩) X (va_recv X.1 X.2.1 (ci := 2) (q0 := 16) rfl wlC_16) rfl hl.1 rfl (Nat.le_of_ble_eq_true rfl) dX5_twice_71 ⟨Nat.zero_le _, Nat.zero_le _⟩ (fun H locs X => ?_)
          refine lv_istore (lv' := [(6, .int v9), (5, .int v8), (8, .int v8), (0, .ref (ad 14)), (3, .ref (ad t3)), (4, .ref (ad t4)), (7, .int y7)]) hx hb dX5_twice_74 hl (by decide) rfl (fun ls hl => ?_)
          refine lv_iinc (v := (y7 + 1)) (lv' := [(7, .int (y7 + 1)), (6, .int v9), (5, .int v8), (8, .int v8), (0, .ref (ad 14)), (3, .ref (ad t3)), (4, .ref (ad t4))]) hx hb dX5_twice_76 hl (k := 6) rfl ii_1 (by decide) rfl (fun ls hl => ?_)
          refine lv_goto (tgt := 31) hx hb dX5_twice_79 rfl ?_
          exact ih v8 v9 (y7 + 1) ts tc rk pl hf _ _ _ X (lv_sub hl [4, 5, 6, 2, 1, 0] rfl)
  rw [fX5_twice] at hf
  refine lv_aload_n hx hb dX5_twice_0 rfl (lv_at hl 0 rfl) ?_
  refine lv_iload_n hx hb dX5_twice_1 rfl (lv_at hl 1 rfl) ?_
  refine xb hf (fun v1 hv1 hf => ?_)
  refine exb_c hf (fun e9 h9 hf => ?_) (fun r2 h9 hf => ?_)
  · cases hf
    exact xt_V (rest := []) ⟨hx, hb, hml, hown, hts⟩ (eX5_textOf htr (exo_s hv1 h9)) (cwV 1 hts gX5_twice_X5_textOf rfl rfl rfl hqX5_textOf ⟨Nat.le_of_ble_eq_true rfl, Nat.le_of_ble_eq_true rfl⟩) X hT (va_recv X.1 X.2.1 (ci := 1) (q0 := 14) rfl wlC_14) rfl hl.1 rfl (Nat.le_of_ble_eq_true rfl) dX5_twice_2 ⟨Nat.le_of_ble_eq_true rfl, Nat.le_of_ble_eq_true rfl⟩ hexc hlocks
  · have hr2 : r2 < 7 := fX5_textOf_lt (exo_s hv1 h9)
    refine xc_V1 (rest := []) ⟨hx, hb, hml, hown, hts⟩ (mX5_textOf (exo_s hv1 h9)) (cwV 1 hts gX5_twice_X5_textOf rfl rfl rfl hqX5_textOf ⟨Nat.le_of_ble_eq_true rfl, Nat.le_of_ble_eq_true rfl⟩) X (va_recv X.1 X.2.1 (ci := 1) (q0 := 14) rfl wlC_14) rfl hl.1 rfl (Nat.le_of_ble_eq_true rfl) dX5_twice_2 ⟨Nat.zero_le _, Nat.zero_le _⟩ (fun H locs X => ?_)
    refine lv_astore_n (lv' := [(3, .ref (ad r2)), (0, .ref (ad 14)), (1, .int x1), (2, .int x2)]) hx hb dX5_twice_5 rfl hl (by decide) rfl (fun ls hl => ?_)
    refine lv_aload_n hx hb dX5_twice_6 rfl (lv_at hl 1 rfl) ?_
    refine lv_iload_n hx hb dX5_twice_7 rfl (lv_at hl 3 rfl) ?_
    refine xb hf (fun v3 hv3 hf => ?_)
    refine exb_c hf (fun e9 h9 hf => ?_) (fun r4 h9 hf => ?_)
    · cases hf
      exact xt_V (rest := []) ⟨hx, hb, hml, hown, hts⟩ (eX5_textOf htr (exo_s hv3 h9)) (cwV 1 hts gX5_twice_X5_textOf rfl rfl rfl hqX5_textOf ⟨Nat.le_of_ble_eq_true rfl, Nat.le_of_ble_eq_true rfl⟩) X hT (va_recv X.1 X.2.1 (ci := 1) (q0 := 14) rfl wlC_14) rfl hl.1 rfl (Nat.le_of_ble_eq_true rfl) dX5_twice_8 ⟨Nat.le_of_ble_eq_true rfl, Nat.le_of_ble_eq_true rfl⟩ hexc hlocks
    · have hr4 : r4 < 7 := fX5_textOf_lt (exo_s hv3 h9)
      refine xc_V1 (rest := []) ⟨hx, hb, hml, hown, hts⟩ (mX5_textOf (exo_s hv3 h9)) (cwV 1 hts gX5_twice_X5_textOf rfl rfl rfl hqX5_textOf ⟨Nat.le_of_ble_eq_true rfl, Nat.le_of_ble_eq_true rfl⟩) X (va_recv X.1 X.2.1 (ci := 1) (q0 := 14) rfl wlC_14) rfl hl.1 rfl (Nat.le_of_ble_eq_true rfl) dX5_twice_8 ⟨Nat.zero_le _, Nat.zero_le _⟩ (fun H locs X => ?_)
      refine lv_astore (lv' := [(4, .ref (ad r4)), (3, .ref (ad r2)), (0, .ref (ad 14)), (1, .int x1), (2, .int x2)]) hx hb dX5_twice_11 hl (by decide) rfl (fun ls hl => ?_)
      refine lv_aload_n hx hb dX5_twice_13 rfl (lv_at hl 2 rfl) ?_
      refine xg_f hx hb hts hown X h5 14 wlC_14 rfl 2 (by decide) (by decide +kernel) (v := .ref (ad 16)) rfl dX5_twice_14 ?_
      refine lv_aload hx hb dX5_twice_17 (lv_at hl 0 rfl) ?_
      refine xb hf (fun v5 hv hf => ?_)
      refine xc_V0 (rest := []) ⟨hx, hb, hml, hown, hts⟩ (mX0_arrange hr4 hv) (cwV 1 hts gX5_twice_X0_arrange rfl rfl rfl hqX0_arrange ⟨Nat.le_of_ble_eq_true rfl, Nat.le_of_ble_eq_true rfl⟩) X (va_recv X.1 X.2.1 (ci := 2) (q0 := 16) rfl wlC_16) rfl hl.1 rfl (Nat.le_of_ble_eq_true rfl) dX5_twice_19 ⟨Nat.zero_le _, Nat.zero_le _⟩ (fun H locs X => ?_)
      refine lv_iconst (v := (0 : Int32)) hx hb dX5_twice_22 rfl ?_
      refine lv_istore (lv' := [(5, .int (0 : Int32)), (4, .ref (ad r4)), (3, .ref (ad r2)), (0, .ref (ad 14)), (1, .int x1), (2, .int x2)]) hx hb dX5_twice_23 hl (by decide) rfl (fun ls hl => ?_)
      refine lv_iconst (v := (0 : Int32)) hx hb dX5_twice_25 rfl ?_
      refine lv_istore (lv' := [(6, .int (0 : Int32)), (5, .int (0 : Int32)), (4, .ref (ad r4)), (3, .ref (ad r2)), (0, .ref (ad 14)), (1, .int x1), (2, .int x2)]) hx hb dX5_twice_26 hl (by decide) rfl (fun ls hl => ?_)
      refine lv_iconst (v := (1 : Int32)) hx hb dX5_twice_28 rfl ?_
      refine lv_istore (lv' := [(7, .int (1 : Int32)), (6, .int (0 : Int32)), (5, .int (0 : Int32)), (4, .ref (ad r4)), (3, .ref (ad r2)), (0, .ref (ad 14)), (1, .int x1), (2, .int x2)]) hx hb dX5_twice_29 hl (by decide) rfl (fun ls hl => ?_)
      exact w31 r2 r4 hr2 hr4 fu (0 : Int32) (0 : Int32) (1 : Int32) ts tc v5.1 v5.2 hf _ _ _ X (lv_sub hl [5, 4, 3, 2, 1, 0] rfl)
set_option maxRecDepth 100000 in
set_option maxHeartbeats 4000000 in
theorem mX5_mirrors {l : Launch} {dd : va_G} {cy : Nat → ClassId} {ad : Nat → Nat} {A : Nat → Prop} {fu : Nat} {ts : Nat → Int32} {tc : Nat → Nat → Int32} {rk : Nat → Int32} {pl : Nat → Int32} {ru : Nat → Int64} {sl : Nat → Int32} {bg : Nat → Int32} {kn : Nat → Int64} {rm : Int32} {ol : Nat → Int64} {od : Nat → UInt64} {x1 : Int32} {rv : Int32} {rko : Nat → Int32} {plo : Nat → Int32} (hf : fX5_mirrors fu ts tc rk pl x1 = some (.ok rv, rko, plo)) : Met l yX5_mirrors wsX5_mirrors { frames := 4, cells := 0, slots := 0, locals := 95 } (va_Pc [.ref (ad 14), .int x1] (IW dd cy A (wlC ad cy ts tc rk pl ru sl bg kn rm ol od))) (QX dd cy A (some (.int rv)) (wlC ad cy ts tc rko plo ru sl bg kn rm ol od)) 0 0 A := by
  refine Met.ofW (cc := cX5_mirrors) (maxL := 8) (ret := some .int) (by decide) rfl ?_
  intro p e s m args below meth c s₁ B hml hv
  obtain ⟨hav, hI⟩ := hv
  have hx := B.exec
  have hb := B.bytes
  have hr := B.returns
  have hts := atoms_spec (ws := wsX5_mirrors) B.pre
  have hown : s.vm.findClass RX5 = some m.cls := findClass_of_methodNamed B.named
  have hlocks := B.notSynchronized
  have X := XW.of hI
  have h5 : ∀ w ∈ wsX50, w ∈ wsX5_mirrors := by decide +kernel
  refine xe_in hav (Nat.le_of_ble_eq_true rfl) rfl (fun ls hl => ?_)
  have w60 : ∀ (t2 : Nat) (y4 : Int32) (y5 : Int32) (ht2 : t2 < 7) (k19 : Int32 → Int32 → (Nat → Int32) → (Nat → Int32) → Option (Except String Int32 × (Nat → Int32) × (Nat → Int32))) (hk19 : ∀ (zy3 : Int32) (zy4 : Int32) (zrk : Nat → Int32) (zpl : Nat → Int32), k19 zy3 zy4 zrk zpl = some (.ok rv, rko, plo) → ∀ (H : Heap) (locs : List Loc) (ls : Array Slot), XW dd cy A s (wlC ad cy ts tc zrk zpl ru sl bg kn rm ol od) H locs → lv_has ls 8 [(0, .ref (ad 14)), (2, .ref (ad t2)), (3, .int zy3), (4, .int zy4)] → W p l e (headSpec wsX5_mirrors { frames := 4, cells := 0, slots := 0, locals := 95 }).room s m args below meth c H locs 0 0 (MQ below (QX dd cy A (some (.int rv)) (wlC ad cy ts tc rko plo ru sl bg kn rm ol od)) args s 0 0 A) (F0 m 19 ls [])) (n : Nat) (y3 : Int32) (y7 : Int32) (rk : Nat → Int32) (pl : Nat → Int32), fX5_mirrors_60 fu ts tc t2 y4 y5 k19 n y3 y7 rk pl = some (.ok rv, rko, plo) → ∀ (H : Heap) (locs : List Loc) (ls : Array Slot), XW dd cy A s (wlC ad cy ts tc rk pl ru sl bg kn rm ol od) H locs → lv_has ls 8 [(0, .ref (ad 14)), (2, .ref (ad t2)), (3, .int y3), (4, .int y4), (5, .int y5), (7, .int y7)] → W p l e (headSpec wsX5_mirrors { frames := 4, cells := 0, slots := 0, locals := 95 }).room s m args below meth c H locs 0 0 (MQ below (QX dd cy A (some (.int rv)) (wlC ad cy ts tc rko plo ru sl bg kn rm ol od)) args s 0 0 A) (F0 m 60 ls []) := by
    intro t2 y4 y5 ht2 k19 hk19 n
    induction n with
    | zero => intro y3 y7 rk pl hf; exact absurd hf (by simp [fX5_mirrors_60])
    | succ n ih =>
      intro y3 y7 rk pl hf H locs ls X hl
      rw [fX5_mirrors_60] at hf
      refine lv_iload hx hb dX5_mirrors_60 (lv_at hl 5 rfl) ?_
      refine lv_aload_n hx hb dX5_mirrors_62 rfl (lv_at hl 1 rfl) ?_
      refine xb hf (fun v7 hv hf => ?_)
      refine xc_V1 (rest := [.int y7]) ⟨hx, hb, hml, hown, hts⟩ (mX4_size ht2 hv) (cwV 0 hts gX5_mirrors_X4_size rfl rfl rfl hqX4_size ⟨Nat.le_of_ble_eq_true rfl, Nat.le_of_ble_eq_true rfl⟩) X (va_recv X.1 X.2.1 (ci := 0) (q0 := t2) rfl (wlC_t ht2)) rfl hl.1 rfl (Nat.le_of_ble_eq_true rfl) dX5_mirrors_63 ⟨Nat.zero_le _, Nat.zero_le _⟩ (fun H locs X => ?_)
      refine xr_icmp_gt (tgt := 89) hx hb dX5_mirrors_66 rfl hf (fun hf => ?_) (fun hf => ?_)
      · refine lv_iinc (v := (y4 + 1)) (lv' := [(4, .int (y4 + 1)), (0, .ref (ad 14)), (2, .ref (ad t2)), (3, .int y3), (5, .int y5), (7, .int y7)]) hx hb dX5_mirrors_89 hl (k := 3) rfl ii_1 (by decide) rfl (fun ls hl => ?_)
        refine lv_goto (tgt := 19) hx hb dX5_mirrors_92 rfl ?_
        exact hk19 y3 (y4 + 1) rk pl hf _ _ _ X (lv_sub hl [1, 2, 3, 0] rfl)
      · refine lv_aload_n hx hb dX5_mirrors_69 rfl (lv_at hl 1 rfl) ?_
        refine lv_iload hx hb dX5_mirrors_70 (lv_at hl 4 rfl) ?_
        refine lv_iload hx hb dX5_mirrors_72 (lv_at hl 5 rfl) ?_
        refine xb hf (fun v8 hv hf => ?_)
        refine xc_V1 (rest := []) ⟨hx, hb, hml, hown, hts⟩ (mX4_isMirror ht2 hv) (cwV 2 hts gX5_mirrors_X4_isMirror rfl rfl rfl hqX4_isMirror ⟨Nat.le_of_ble_eq_true rfl, Nat.le_of_ble_eq_true rfl⟩) X (va_recv X.1 X.2.1 (ci := 0) (q0 := t2) rfl (wlC_t ht2)) rfl hl.1 rfl (Nat.le_of_ble_eq_true rfl) dX5_mirrors_74 ⟨Nat.zero_le _, Nat.zero_le _⟩ (fun H locs X => ?_)
        refine xr_if_eq (tgt := 83) hx hb dX5_mirrors_77 rfl hf (fun hf => ?_) (fun hf => ?_)
        · refine lv_iinc (v := (y7 + 1)) (lv' := [(7, .int (y7 + 1)), (0, .ref (ad 14)), (2, .ref (ad t2)), (3, .int y3), (4, .int y4), (5, .int y5)]) hx hb dX5_mirrors_83 hl (k := 5) rfl ii_1 (by decide) rfl (fun ls hl => ?_)
          refine lv_goto (tgt := 60) hx hb dX5_mirrors_86 rfl ?_
          exact ih y3 (y7 + 1) rk pl hf _ _ _ X (lv_sub hl [1, 2, 3, 4, 5, 0] rfl)
        · refine lv_iinc (v := (y3 + 1)) (lv' := [(3, .int (y3 + 1)), (0, .ref (ad 14)), (2, .ref (ad t2)), (4, .int y4), (5, .int y5), (7, .int y7)]) hx hb dX5_mirrors_80 hl (k := 2) rfl ii_1 (by decide) rfl (fun ls hl => ?_)
          refine lv_iinc (v := (y7 + 1)) (lv' := [(7, .int (y7 + 1)), (3, .int (y3 + 1)), (0, .ref (ad 14)), (2, .ref (ad t2)), (4, .int y4), (5, .int y5)]) hx hb dX5_mirrors_83 hl (k := 5) rfl ii_1 (by decide) rfl (fun ls hl => ?_)
          refine lv_goto (tgt := 60) hx hb dX5_mirrors_86 rfl ?_
          exact ih (y3 + 1) (y7 + 1) rk pl hf _ _ _ X (lv_sub hl [2, 3, 1, 4, 5, 0] rfl)
  have w19 : ∀ (t2 : Nat) (ht2 : t2 < 7) (n : Nat) (y3 : Int32) (y4 : Int32) (rk : Nat → Int32) (pl : Nat → Int32), fX5_mirrors_19 fu ts tc t2 n y3 y4 rk pl = some (.ok rv, rko, plo) → ∀ (H : Heap) (locs : List Loc) (ls : Array Slot), XW dd cy A s (wlC ad cy ts tc rk pl ru sl bg kn rm ol od) H locs → lv_has ls 8 [(0, .ref (ad 14)), (2, .ref (ad t2)), (3, .int y3), (4, .int y4)] → W p l e (headSpec wsX5_mirrors { frames := 4, cells := 0, slots := 0, locals := 95 }).room s m args below meth c H locs 0 0 (MQ below (QX dd cy A (some (.int rv)) (wlC ad cy ts tc rko plo ru sl bg kn rm ol od)) args s 0 0 A) (F0 m 19 ls []) := by
    intro t2 ht2 n
    induction n with
    | zero => intro y3 y4 rk pl hf; exact absurd hf (by simp [fX5_mirrors_19])
    | succ n ih =>
      intro y3 y4 rk pl hf H locs ls X hl
      rw [fX5_mirrors_19] at hf
      refine lv_iload hx hb dX5_mirrors_19 (lv_at hl 3 rfl) ?_
      refine lv_aload_n hx hb dX5_mirrors_21 rfl (lv_at hl 1 rfl) ?_
      refine xb hf (fun v4 hv hf => ?_)
      refine xc_V1 (rest := [.int y4]) ⟨hx, hb, hml, hown, hts⟩ (mX4_size ht2 hv) (cwV 0 hts gX5_mirrors_X4_size rfl rfl rfl hqX4_size ⟨Nat.le_of_ble_eq_true rfl, Nat.le_of_ble_eq_true rfl⟩) X (va_recv X.1 X.2.1 (ci := 0) (q0 := t2) rfl (wlC_t ht2)) rfl hl.1 rfl (Nat.le_of_ble_eq_true rfl) dX5_mirrors_22 ⟨Nat.zero_le _, Nat.zero_le _⟩ (fun H locs X => ?_)
      refine xr_icmp_ge (tgt := 95) hx hb dX5_mirrors_25 rfl hf (fun hf => ?_) (fun hf => ?_)
      · refine lv_iload_n hx hb dX5_mirrors_95 rfl (lv_at hl 2 rfl) ?_
        cases hf
        exact xe_i hx hb hr hlocks X dX5_mirrors_96
      · refine lv_aload_n hx hb dX5_mirrors_28 rfl (lv_at hl 0 rfl) ?_
        refine xg_f hx hb hts hown X h5 14 wlC_14 rfl 2 (by decide) (by decide +kernel) (v := .ref (ad 16)) rfl dX5_mirrors_29 ?_
        refine lv_iload hx hb dX5_mirrors_32 (lv_at hl 3 rfl) ?_
        refine xb hf (fun v5 hv hf => ?_)
        refine xc_V1 (rest := []) ⟨hx, hb, hml, hown, hts⟩ (mX0_placeBy hv) (cwV 1 hts gX5_mirrors_X0_placeBy rfl rfl rfl hqX0_placeBy ⟨Nat.le_of_ble_eq_true rfl, Nat.le_of_ble_eq_true rfl⟩) X (va_recv X.1 X.2.1 (ci := 2) (q0 := 16) rfl wlC_16) rfl hl.1 rfl (Nat.le_of_ble_eq_true rfl) dX5_mirrors_34 ⟨Nat.zero_le _, Nat.zero_le _⟩ (fun H locs X => ?_)
        refine lv_istore (lv' := [(5, .int v5), (0, .ref (ad 14)), (2, .ref (ad t2)), (3, .int y3), (4, .int y4)]) hx hb dX5_mirrors_37 hl (by decide) rfl (fun ls hl => ?_)
        refine lv_iload hx hb dX5_mirrors_39 (lv_at hl 0 rfl) ?_
        refine lv_aload_n hx hb dX5_mirrors_41 rfl (lv_at hl 1 rfl) ?_
        refine xg_f hx hb hts hown X h5 14 wlC_14 rfl 2 (by decide) (by decide +kernel) (v := .ref (ad 16)) rfl dX5_mirrors_42 ?_
        refine lv_aload_n hx hb dX5_mirrors_45 rfl (lv_at hl 2 rfl) ?_
        refine lv_iload hx hb dX5_mirrors_46 (lv_at hl 4 rfl) ?_
        refine xb hf (fun v6 hv hf => ?_)
        refine xc_V1 (rest := [.int v5]) ⟨hx, hb, hml, hown, hts⟩ (mX0_sharedBefore ht2 hv) (cwV 2 hts gX5_mirrors_X0_sharedBefore rfl rfl rfl hqX0_sharedBefore ⟨Nat.le_of_ble_eq_true rfl, Nat.le_of_ble_eq_true rfl⟩) X (va_recv X.1 X.2.1 (ci := 2) (q0 := 16) rfl wlC_16) rfl hl.1 rfl (Nat.le_of_ble_eq_true rfl) dX5_mirrors_48 ⟨Nat.zero_le _, Nat.zero_le _⟩ (fun H locs X => ?_)
        refine lv_iadd hx hb dX5_mirrors_51 ?_
        refine lv_iconst (v := (1 : Int32)) hx hb dX5_mirrors_52 rfl ?_
        refine lv_iadd hx hb dX5_mirrors_53 ?_
        refine lv_istore (lv' := [(6, .int ((v5 + v6) + (1 : Int32))), (5, .int v5), (0, .ref (ad 14)), (2, .ref (ad t2)), (3, .int y3), (4, .int y4)]) hx hb dX5_mirrors_54 hl (by decide) rfl (fun ls hl => ?_)
        refine lv_iload hx hb dX5_mirrors_56 (lv_at hl 0 rfl) ?_
        refine lv_istore (lv' := [(7, .int ((v5 + v6) + (1 : Int32))), (6, .int ((v5 + v6) + (1 : Int32))), (5, .int v5), (0, .ref (ad 14)), (2, .ref (ad t2)), (3, .int y3), (4, .int y4)]) hx hb dX5_mirrors_58 hl (by decide) rfl (fun ls hl => ?_)
        exact w60 t2 y4 v5 ht2 _ ih fu y3 ((v5 + v6) + (1 : Int32)) rk pl hf _ _ _ X (lv_sub hl [3, 4, 5, 6, 2, 0] rfl)
  rw [fX5_mirrors] at hf
  refine lv_aload_n hx hb dX5_mirrors_0 rfl (lv_at hl 0 rfl) ?_
  refine lv_iload_n hx hb dX5_mirrors_1 rfl (lv_at hl 1 rfl) ?_
  refine xb hf (fun v1 hv1 hf => ?_)
  refine exb_c hf (fun e9 h9 hf => ?_) (fun r2 h9 hf => ?_)
  · cases hf
  · have hr2 : r2 < 7 := fX5_textOf_lt (exo_s hv1 h9)
    refine xc_V1 (rest := []) ⟨hx, hb, hml, hown, hts⟩ (mX5_textOf (exo_s hv1 h9)) (cwV 1 hts gX5_mirrors_X5_textOf rfl rfl rfl hqX5_textOf ⟨Nat.le_of_ble_eq_true rfl, Nat.le_of_ble_eq_true rfl⟩) X (va_recv X.1 X.2.1 (ci := 1) (q0 := 14) rfl wlC_14) rfl hl.1 rfl (Nat.le_of_ble_eq_true rfl) dX5_mirrors_2 ⟨Nat.zero_le _, Nat.zero_le _⟩ (fun H locs X => ?_)
    refine lv_astore_n (lv' := [(2, .ref (ad r2)), (0, .ref (ad 14)), (1, .int x1)]) hx hb dX5_mirrors_5 rfl hl (by decide) rfl (fun ls hl => ?_)
    refine lv_aload_n hx hb dX5_mirrors_6 rfl (lv_at hl 1 rfl) ?_
    refine xg_f hx hb hts hown X h5 14 wlC_14 rfl 2 (by decide) (by decide +kernel) (v := .ref (ad 16)) rfl dX5_mirrors_7 ?_
    refine lv_aload_n hx hb dX5_mirrors_10 rfl (lv_at hl 0 rfl) ?_
    refine xb hf (fun v3 hv hf => ?_)
    refine xc_V0 (rest := []) ⟨hx, hb, hml, hown, hts⟩ (mX0_arrange hr2 hv) (cwV 1 hts gX5_mirrors_X0_arrange rfl rfl rfl hqX0_arrange ⟨Nat.le_of_ble_eq_true rfl, Nat.le_of_ble_eq_true rfl⟩) X (va_recv X.1 X.2.1 (ci := 2) (q0 := 16) rfl wlC_16) rfl hl.1 rfl (Nat.le_of_ble_eq_true rfl) dX5_mirrors_11 ⟨Nat.zero_le _, Nat.zero_le _⟩ (fun H locs X => ?_)
    refine lv_iconst (v := (0 : Int32)) hx hb dX5_mirrors_14 rfl ?_
    refine lv_istore_n (lv' := [(3, .int (0 : Int32)), (2, .ref (ad r2)), (0, .ref (ad 14)), (1, .int x1)]) hx hb dX5_mirrors_15 rfl hl (by decide) rfl (fun ls hl => ?_)
    refine lv_iconst (v := (0 : Int32)) hx hb dX5_mirrors_16 rfl ?_
    refine lv_istore (lv' := [(4, .int (0 : Int32)), (3, .int (0 : Int32)), (2, .ref (ad r2)), (0, .ref (ad 14)), (1, .int x1)]) hx hb dX5_mirrors_17 hl (by decide) rfl (fun ls hl => ?_)
    exact w19 r2 hr2 fu (0 : Int32) (0 : Int32) v3.1 v3.2 hf _ _ _ X (lv_sub hl [3, 2, 1, 0] rfl)
set_option maxRecDepth 100000 in
set_option maxHeartbeats 4000000 in
theorem eX5_mirrors {l : Launch} {dd : va_G} {cy : Nat → ClassId} {ad : Nat → Nat} {A : Nat → Prop} {fu : Nat} {ts : Nat → Int32} {tc : Nat → Nat → Int32} {rk : Nat → Int32} {pl : Nat → Int32} {ru : Nat → Int64} {sl : Nat → Int32} {bg : Nat → Int32} {kn : Nat → Int64} {rm : Int32} {ol : Nat → Int64} {od : Nat → UInt64} {x1 : Int32} {E9 : String} {rko : Nat → Int32} {plo : Nat → Int32} (htr : l.stackTraces = false) (hf : fX5_mirrors fu ts tc rk pl x1 = some (.error E9, rko, plo)) : vx_Met l yX5_mirrors wsX5_mirrors { frames := 7, cells := 1, slots := 6, locals := 121 } (va_Pc [.ref (ad 14), .int x1] (IT dd cy A (wlC ad cy ts tc rk pl ru sl bg kn rm ol od))) (fun _ _ _ _ => False) (XE dd cy A E9 (wlC ad cy ts tc rko plo ru sl bg kn rm ol od)) 1 6 A := by
  refine vx_ofW (cc := cX5_mirrors) (maxL := 8) (ret := some .int) (by decide) rfl ?_
  intro p e s m args below meth c s₁ B hml hexc hv
  obtain ⟨hav, hI, hT⟩ := hv
  have hx := B.exec
  have hb := B.bytes
  have hr := B.returns
  have hts := atoms_spec (ws := wsX5_mirrors) B.pre
  have hown : s.vm.findClass RX5 = some m.cls := findClass_of_methodNamed B.named
  have hlocks := B.notSynchronized
  have X := XW.of hI
  have h5 : ∀ w ∈ wsX50, w ∈ wsX5_mirrors := by decide +kernel
  refine xe_in hav (Nat.le_of_ble_eq_true rfl) rfl (fun ls hl => ?_)
  have w60 : ∀ (t2 : Nat) (y4 : Int32) (y5 : Int32) (ht2 : t2 < 7) (k19 : Int32 → Int32 → (Nat → Int32) → (Nat → Int32) → Option (Except String Int32 × (Nat → Int32) × (Nat → Int32))) (hk19 : ∀ (zy3 : Int32) (zy4 : Int32) (zrk : Nat → Int32) (zpl : Nat → Int32), k19 zy3 zy4 zrk zpl = some (.error E9, rko, plo) → ∀ (H : Heap) (locs : List Loc) (ls : Array Slot), XW dd cy A s (wlC ad cy ts tc zrk zpl ru sl bg kn rm ol od) H locs → lv_has ls 8 [(0, .ref (ad 14)), (2, .ref (ad t2)), (3, .int zy3), (4, .int zy4)] → W p l e (headSpec wsX5_mirrors { frames := 7, cells := 1, slots := 6, locals := 121 }).room s m args below meth c H locs 0 0 (vx_MQ below (fun _ _ _ _ => False) (XE dd cy A E9 (wlC ad cy ts tc rko plo ru sl bg kn rm ol od)) args s 1 6 A) (F0 m 19 ls [])) (n : Nat) (y3 : Int32) (y7 : Int32) (rk : Nat → Int32) (pl : Nat → Int32), fX5_mirrors_60 fu ts tc t2 y4 y5 k19 n y3 y7 rk pl = some (.error E9, rko, plo) → ∀ (H : Heap) (locs : List Loc) (ls : Array Slot), XW dd cy A s (wlC ad cy ts tc rk pl ru sl bg kn rm ol od) H locs → lv_has ls 8 [(0, .ref (ad 14)), (2, .ref (ad t2)), (3, .int y3), (4, .int y4), (5, .int y5), (7, .int y7)] → W p l e (headSpec wsX5_mirrors { frames := 7, cells := 1, slots := 6, locals := 121 }).room s m args below meth c H locs 0 0 (vx_MQ below (fun _ _ _ _ => False) (XE dd cy A E9 (wlC ad cy ts tc rko plo ru sl bg kn rm ol od)) args s 1 6 A) (F0 m 60 ls []) := by
    intro t2 y4 y5 ht2 k19 hk19 n
    induction n with
    | zero => intro y3 y7 rk pl hf; exact absurd hf (by simp [fX5_mirrors_60])
    | succ n ih =>
      intro y3 y7 rk pl hf H locs ls X hl
      rw [fX5_mirrors_60] at hf
      refine lv_iload hx hb dX5_mirrors_60 (lv_at hl 5 rfl) ?_
      refine lv_aload_n hx hb dX5_mirrors_62 rfl (lv_at hl 1 rfl) ?_
      refine xb hf (fun v7 hv hf => ?_)
      refine xc_V1 (rest := [.int y7]) ⟨hx, hb, hml, hown, hts⟩ (mX4_size ht2 hv) (cwV 0 hts gX5_mirrors_X4_size rfl rfl rfl hqX4_size ⟨Nat.le_of_ble_eq_true rfl, Nat.le_of_ble_eq_true rfl⟩) X (va_recv X.1 X.2.1 (ci := 0) (q0 := t2) rfl (wlC_t ht2)) rfl hl.1 rfl (Nat.le_of_ble_eq_true rfl) dX5_mirrors_63 ⟨Nat.zero_le _, Nat.zero_le _⟩ (fun H locs X => ?_)
      refine xr_icmp_gt (tgt := 89) hx hb dX5_mirrors_66 rfl hf (fun hf => ?_) (fun hf => ?_)
      · refine lv_iinc (v := (y4 + 1)) (lv' := [(4, .int (y4 + 1)), (0, .ref (ad 14)), (2, .ref (ad t2)), (3, .int y3), (5, .int y5), (7, .int y7)]) hx hb dX5_mirrors_89 hl (k := 3) rfl ii_1 (by decide) rfl (fun ls hl => ?_)
        refine lv_goto (tgt := 19) hx hb dX5_mirrors_92 rfl ?_
        exact hk19 y3 (y4 + 1) rk pl hf _ _ _ X (lv_sub hl [1, 2, 3, 0] rfl)
      · refine lv_aload_n hx hb dX5_mirrors_69 rfl (lv_at hl 1 rfl) ?_
        refine lv_iload hx hb dX5_mirrors_70 (lv_at hl 4 rfl) ?_
        refine lv_iload hx hb dX5_mirrors_72 (lv_at hl 5 rfl) ?_
        refine xb hf (fun v8 hv hf => ?_)
        refine xc_V1 (rest := []) ⟨hx, hb, hml, hown, hts⟩ (mX4_isMirror ht2 hv) (cwV 2 hts gX5_mirrors_X4_isMirror rfl rfl rfl hqX4_isMirror ⟨Nat.le_of_ble_eq_true rfl, Nat.le_of_ble_eq_true rfl⟩) X (va_recv X.1 X.2.1 (ci := 0) (q0 := t2) rfl (wlC_t ht2)) rfl hl.1 rfl (Nat.le_of_ble_eq_true rfl) dX5_mirrors_74 ⟨Nat.zero_le _, Nat.zero_le _⟩ (fun H locs X => ?_)
        refine xr_if_eq (tgt := 83) hx hb dX5_mirrors_77 rfl hf (fun hf => ?_) (fun hf => ?_)
        · refine lv_iinc (v := (y7 + 1)) (lv' := [(7, .int (y7 + 1)), (0, .ref (ad 14)), (2, .ref (ad t2)), (3, .int y3), (4, .int y4), (5, .int y5)]) hx hb dX5_mirrors_83 hl (k := 5) rfl ii_1 (by decide) rfl (fun ls hl => ?_)
          refine lv_goto (tgt := 60) hx hb dX5_mirrors_86 rfl ?_
          exact ih y3 (y7 + 1) rk pl hf _ _ _ X (lv_sub hl [1, 2, 3, 4, 5, 0] rfl)
        · refine lv_iinc (v := (y3 + 1)) (lv' := [(3, .int (y3 + 1)), (0, .ref (ad 14)), (2, .ref (ad t2)), (4, .int y4), (5, .int y5), (7, .int y7)]) hx hb dX5_mirrors_80 hl (k := 2) rfl ii_1 (by decide) rfl (fun ls hl => ?_)
          refine lv_iinc (v := (y7 + 1)) (lv' := [(7, .int (y7 + 1)), (3, .int (y3 + 1)), (0, .ref (ad 14)), (2, .ref (ad t2)), (4, .int y4), (5, .int y5)]) hx hb dX5_mirrors_83 hl (k := 5) rfl ii_1 (by decide) rfl (fun ls hl => ?_)
          refine lv_goto (tgt := 60) hx hb dX5_mirrors_86 rfl ?_
          exact ih (y3 + 1) (y7 + 1) rk pl hf _ _ _ X (lv_sub hl [2, 3, 1, 4, 5, 0] rfl)
  have w19 : ∀ (t2 : Nat) (ht2 : t2 < 7) (n : Nat) (y3 : Int32) (y4 : Int32) (rk : Nat → Int32) (pl : Nat → Int32), fX5_mirrors_19 fu ts tc t2 n y3 y4 rk pl = some (.error E9, rko, plo) → ∀ (H : Heap) (locs : List Loc) (ls : Array Slot), XW dd cy A s (wlC ad cy ts tc rk pl ru sl bg kn rm ol od) H locs → lv_has ls 8 [(0, .ref (ad 14)), (2, .ref (ad t2)), (3, .int y3), (4, .int y4)] → W p l e (headSpec wsX5_mirrors { frames := 7, cells := 1, slots := 6, locals := 121 }).room s m args below meth c H locs 0 0 (vx_MQ below (fun _ _ _ _ => False) (XE dd cy A E9 (wlC ad cy ts tc rko plo ru sl bg kn rm ol od)) args s 1 6 A) (F0 m 19 ls []) := by
    intro t2 ht2 n
    induction n with
    | zero => intro y3 y4 rk pl hf; exact absurd hf (by simp [fX5_mirrors_19])
    | succ n ih =>
      intro y3 y4 rk pl hf H locs ls X hl
      rw [fX5_mirrors_19] at hf
      refine lv_iload hx hb dX5_mirrors_19 (lv_at hl 3 rfl) ?_
      refine lv_aload_n hx hb dX5_mirrors_21 rfl (lv_at hl 1 rfl) ?_
      refine xb hf (fun v4 hv hf => ?_)
      refine xc_V1 (rest := [.int y4]) ⟨hx, hb, hml, hown, hts⟩ (mX4_size ht2 hv) (cwV 0 hts gX5_mirrors_X4_size rfl rfl rfl hqX4_size ⟨Nat.le_of_ble_eq_true rfl, Nat.le_of_ble_eq_true rfl⟩) X (va_recv X.1 X.2.1 (ci := 0) (q0 := t2) rfl (wlC_t ht2)) rfl hl.1 rfl (Nat.le_of_ble_eq_true rfl) dX5_mirrors_22 ⟨Nat.zero_le _, Nat.zero_le _⟩ (fun H locs X => ?_)
      refine xr_icmp_ge (tgt := 95) hx hb dX5_mirrors_25 rfl hf (fun hf => ?_) (fun hf => ?_)
      · refine lv_iload_n hx hb dX5_mirrors_95 rfl (lv_at hl 2 rfl) ?_
        cases hf
      · refine lv_aload_n hx hb dX5_mirrors_28 rfl (lv_at hl 0 rfl) ?_
        refine xg_f hx hb hts hown X h5 14 wlC_14 rfl 2 (by decide) (by decide +kernel) (v := .ref (ad 16)) rfl dX5_mirrors_29 ?_
        refine lv_iload hx hb dX5_mirrors_32 (lv_at hl 3 rfl) ?_
        refine xb hf (fun v5 hv hf => ?_)
        refine xc_V1 (rest := []) ⟨hx, hb, hml, hown, hts⟩ (mX0_placeBy hv) (cwV 1 hts gX5_mirrors_X0_placeBy rfl rfl rfl hqX0_placeBy ⟨Nat.le_of_ble_eq_true rfl, Nat.le_of_ble_eq_true rfl⟩) X (va_recv X.1 X.2.1 (ci := 2) (q0 := 16) rfl wlC_16) rfl hl.1 rfl (Nat.le_of_ble_eq_true rfl) dX5_mirrors_34 ⟨Nat.zero_le _, Nat.zero_le _⟩ (fun H locs X => ?_)
        refine lv_istore (lv' := [(5, .int v5), (0, .ref (ad 14)), (2, .ref (ad t2)), (3, .int y3), (4, .int y4)]) hx hb dX5_mirrors_37 hl (by decide) rfl (fun ls hl => ?_)
        refine lv_iload hx hb dX5_mirrors_39 (lv_at hl 0 rfl) ?_
        refine lv_aload_n hx hb dX5_mirrors_41 rfl (lv_at hl 1 rfl) ?_
        refine xg_f hx hb hts hown X h5 14 wlC_14 rfl 2 (by decide) (by decide +kernel) (v := .ref (ad 16)) rfl dX5_mirrors_42 ?_
        refine lv_aload_n hx hb dX5_mirrors_45 rfl (lv_at hl 2 rfl) ?_
        refine lv_iload hx hb dX5_mirrors_46 (lv_at hl 4 rfl) ?_
        refine xb hf (fun v6 hv hf => ?_)
        refine xc_V1 (rest := [.int v5]) ⟨hx, hb, hml, hown, hts⟩ (mX0_sharedBefore ht2 hv) (cwV 2 hts gX5_mirrors_X0_sharedBefore rfl rfl rfl hqX0_sharedBefore ⟨Nat.le_of_ble_eq_true rfl, Nat.le_of_ble_eq_true rfl⟩) X (va_recv X.1 X.2.1 (ci := 2) (q0 := 16) rfl wlC_16) rfl hl.1 rfl (Nat.le_of_ble_eq_true rfl) dX5_mirrors_48 ⟨Nat.zero_le _, Nat.zero_le _⟩ (fun H locs X => ?_)
        refine lv_iadd hx hb dX5_mirrors_51 ?_
        refine lv_iconst (v := (1 : Int32)) hx hb dX5_mirrors_52 rfl ?_
        refine lv_iadd hx hb dX5_mirrors_53 ?_
        refine lv_istore (lv' := [(6, .int ((v5 + v6) + (1 : Int32))), (5, .int v5), (0, .ref (ad 14)), (2, .ref (ad t2)), (3, .int y3), (4, .int y4)]) hx hb dX5_mirrors_54 hl (by decide) rfl (fun ls hl => ?_)
        refine lv_iload hx hb dX5_mirrors_56 (lv_at hl 0 rfl) ?_
        refine lv_istore (lv' := [(7, .int ((v5 + v6) + (1 : Int32))), (6, .int ((v5 + v6) + (1 : Int32))), (5, .int v5), (0, .ref (ad 14)), (2, .ref (ad t2)), (3, .int y3), (4, .int y4)]) hx hb dX5_mirrors_58 hl (by decide) rfl (fun ls hl => ?_)
        exact w60 t2 y4 v5 ht2 _ ih fu y3 ((v5 + v6) + (1 : Int32)) rk pl hf _ _ _ X (lv_sub hl [3, 4, 5, 6, 2, 0] rfl)
  rw [fX5_mirrors] at hf
  refine lv_aload_n hx hb dX5_mirrors_0 rfl (lv_at hl 0 rfl) ?_
  refine lv_iload_n hx hb dX5_mirrors_1 rfl (lv_at hl 1 rfl) ?_
  refine xb hf (fun v1 hv1 hf => ?_)
  refine exb_c hf (fun e9 h9 hf => ?_) (fun r2 h9 hf => ?_)
  · cases hf
    exact xt_V (rest := []) ⟨hx, hb, hml, hown, hts⟩ (eX5_textOf htr (exo_s hv1 h9)) (cwV 1 hts gX5_mirrors_X5_textOf rfl rfl rfl hqX5_textOf ⟨Nat.le_of_ble_eq_true rfl, Nat.le_of_ble_eq_true rfl⟩) X hT (va_recv X.1 X.2.1 (ci := 1) (q0 := 14) rfl wlC_14) rfl hl.1 rfl (Nat.le_of_ble_eq_true rfl) dX5_mirrors_2 ⟨Nat.le_of_ble_eq_true rfl, Nat.le_of_ble_eq_true rfl⟩ hexc hlocks
  · have hr2 : r2 < 7 := fX5_textOf_lt (exo_s hv1 h9)
    refine xc_V1 (rest := []) ⟨hx, hb, hml, hown, hts⟩ (mX5_textOf (exo_s hv1 h9)) (cwV 1 hts gX5_mirrors_X5_textOf rfl rfl rfl hqX5_textOf ⟨Nat.le_of_ble_eq_true rfl, Nat.le_of_ble_eq_true rfl⟩) X (va_recv X.1 X.2.1 (ci := 1) (q0 := 14) rfl wlC_14) rfl hl.1 rfl (Nat.le_of_ble_eq_true rfl) dX5_mirrors_2 ⟨Nat.zero_le _, Nat.zero_le _⟩ (fun H locs X => ?_)
    refine lv_astore_n (lv' := [(2, .ref (ad r2)), (0, .ref (ad 14)), (1, .int x1)]) hx hb dX5_mirrors_5 rfl hl (by decide) rfl (fun ls hl => ?_)
    refine lv_aload_n hx hb dX5_mirrors_6 rfl (lv_at hl 1 rfl) ?_
    refine xg_f hx hb hts hown X h5 14 wlC_14 rfl 2 (by decide) (by decide +kernel) (v := .ref (ad 16)) rfl dX5_mirrors_7 ?_
    refine lv_aload_n hx hb dX5_mirrors_10 rfl (lv_at hl 0 rfl) ?_
    refine xb hf (fun v3 hv hf => ?_)
    refine xc_V0 (rest := []) ⟨hx, hb, hml, hown, hts⟩ (mX0_arrange hr2 hv) (cwV 1 hts gX5_mirrors_X0_arrange rfl rfl rfl hqX0_arrange ⟨Nat.le_of_ble_eq_true rfl, Nat.le_of_ble_eq_true rfl⟩) X (va_recv X.1 X.2.1 (ci := 2) (q0 := 16) rfl wlC_16) rfl hl.1 rfl (Nat.le_of_ble_eq_true rfl) dX5_mirrors_11 ⟨Nat.zero_le _, Nat.zero_le _⟩ (fun H locs X => ?_)
    refine lv_iconst (v := (0 : Int32)) hx hb dX5_mirrors_14 rfl ?_
    refine lv_istore_n (lv' := [(3, .int (0 : Int32)), (2, .ref (ad r2)), (0, .ref (ad 14)), (1, .int x1)]) hx hb dX5_mirrors_15 rfl hl (by decide) rfl (fun ls hl => ?_)
    refine lv_iconst (v := (0 : Int32)) hx hb dX5_mirrors_16 rfl ?_
    refine lv_istore (lv' := [(4, .int (0 : Int32)), (3, .int (0 : Int32)), (2, .ref (ad r2)), (0, .ref (ad 14)), (1, .int x1)]) hx hb dX5_mirrors_17 hl (by decide) rfl (fun ls hl => ?_)
    exact w19 r2 hr2 fu (0 : Int32) (0 : Int32) v3.1 v3.2 hf _ _ _ X (lv_sub hl [3, 2, 1, 0] rfl)
set_option maxRecDepth 100000 in
set_option maxHeartbeats 4000000 in
theorem mX5_commute {l : Launch} {dd : va_G} {cy : Nat → ClassId} {ad : Nat → Nat} {A : Nat → Prop} {fu : Nat} {ts : Nat → Int32} {tc : Nat → Nat → Int32} {rk : Nat → Int32} {pl : Nat → Int32} {ru : Nat → Int64} {sl : Nat → Int32} {bg : Nat → Int32} {kn : Nat → Int64} {rm : Int32} {ol : Nat → Int64} {od : Nat → UInt64} {x1 : Int32} {x2 : Int32} {rv : Int32} (hf : fX5_commute fu ts tc x1 x2 = some (.ok rv)) : Met l yX5_commute wsX5_commute { frames := 3, cells := 0, slots := 0, locals := 66 } (va_Pc [.ref (ad 14), .int x1, .int x2] (IW dd cy A (wlC ad cy ts tc rk pl ru sl bg kn rm ol od))) (QX dd cy A (some (.int rv)) (wlC ad cy ts tc rk pl ru sl bg kn rm ol od)) 0 0 A := by
  refine Met.ofW (cc := cX5_commute) (maxL := 3) (ret := some .boolean) (by decide) rfl ?_
  intro p e s m args below meth c s₁ B hml hv
  obtain ⟨hav, hI⟩ := hv
  have hx := B.exec
  have hb := B.bytes
  have hr := B.returns
  have hts := atoms_spec (ws := wsX5_commute) B.pre
  have hown : s.vm.findClass RX5 = some m.cls := findClass_of_methodNamed B.named
  have hlocks := B.notSynchronized
  have X := XW.of hI
  refine xe_in hav (Nat.le_of_ble_eq_true rfl) rfl (fun ls hl => ?_)
  rw [fX5_commute] at hf
  refine lv_aload_n hx hb dX5_commute_0 rfl (lv_at hl 0 rfl) ?_
  refine lv_iload_n hx hb dX5_commute_1 rfl (lv_at hl 1 rfl) ?_
  refine xb hf (fun v1 hv1 hf => ?_)
  refine exb_c hf (fun e9 h9 hf => ?_) (fun r2 h9 hf => ?_)
  · cases hf
  · have hr2 : r2 < 7 := fX5_textOf_lt (exo_s hv1 h9)
    refine xc_V1 (rest := []) ⟨hx, hb, hml, hown, hts⟩ (mX5_textOf (exo_s hv1 h9)) (cwV 1 hts gX5_commute_X5_textOf rfl rfl rfl hqX5_textOf ⟨Nat.le_of_ble_eq_true rfl, Nat.le_of_ble_eq_true rfl⟩) X (va_recv X.1 X.2.1 (ci := 1) (q0 := 14) rfl wlC_14) rfl hl.1 rfl (Nat.le_of_ble_eq_true rfl) dX5_commute_2 ⟨Nat.zero_le _, Nat.zero_le _⟩ (fun H locs X => ?_)
    refine lv_aload_n hx hb dX5_commute_5 rfl (lv_at hl 0 rfl) ?_
    refine lv_iload_n hx hb dX5_commute_6 rfl (lv_at hl 2 rfl) ?_
    refine xb hf (fun v3 hv3 hf => ?_)
    refine exb_c hf (fun e9 h9 hf => ?_) (fun r4 h9 hf => ?_)
    · cases hf
    · have hr4 : r4 < 7 := fX5_textOf_lt (exo_s hv3 h9)
      refine xc_V1 (rest := [.ref (ad r2)]) ⟨hx, hb, hml, hown, hts⟩ (mX5_textOf (exo_s hv3 h9)) (cwV 1 hts gX5_commute_X5_textOf rfl rfl rfl hqX5_textOf ⟨Nat.le_of_ble_eq_true rfl, Nat.le_of_ble_eq_true rfl⟩) X (va_recv X.1 X.2.1 (ci := 1) (q0 := 14) rfl wlC_14) rfl hl.1 rfl (Nat.le_of_ble_eq_true rfl) dX5_commute_7 ⟨Nat.zero_le _, Nat.zero_le _⟩ (fun H locs X => ?_)
      refine xb hf (fun v5 hv hf => ?_)
      refine xc_S1 (rest := []) ⟨hx, hb, hml, hown, hts⟩ (mX3_doCommute hr2 hr4 hv) (va_cwS 2 hts gX5_commute_X3_doCommute rfl rfl rfl hqX3_doCommute ⟨Nat.le_of_ble_eq_true rfl, Nat.le_of_ble_eq_true rfl⟩) X rfl hl.1 rfl (Nat.le_of_ble_eq_true rfl) dX5_commute_10 ⟨Nat.zero_le _, Nat.zero_le _⟩ (fun H locs X => ?_)
      refine xb hf (fun z9 hz hf => ?_)
      obtain ⟨hn, rfl⟩ := ckZ_some hz
      cases hf
      exact xe_z hx hb hr hlocks X hn dX5_commute_13
set_option maxRecDepth 100000 in
set_option maxHeartbeats 4000000 in
theorem eX5_commute {l : Launch} {dd : va_G} {cy : Nat → ClassId} {ad : Nat → Nat} {A : Nat → Prop} {fu : Nat} {ts : Nat → Int32} {tc : Nat → Nat → Int32} {rk : Nat → Int32} {pl : Nat → Int32} {ru : Nat → Int64} {sl : Nat → Int32} {bg : Nat → Int32} {kn : Nat → Int64} {rm : Int32} {ol : Nat → Int64} {od : Nat → UInt64} {x1 : Int32} {x2 : Int32} {E9 : String} (htr : l.stackTraces = false) (hf : fX5_commute fu ts tc x1 x2 = some (.error E9)) : vx_Met l yX5_commute wsX5_commute { frames := 7, cells := 1, slots := 6, locals := 121 } (va_Pc [.ref (ad 14), .int x1, .int x2] (IT dd cy A (wlC ad cy ts tc rk pl ru sl bg kn rm ol od))) (fun _ _ _ _ => False) (XE dd cy A E9 (wlC ad cy ts tc rk pl ru sl bg kn rm ol od)) 1 6 A := by
  refine vx_ofW (cc := cX5_commute) (maxL := 3) (ret := some .boolean) (by decide) rfl ?_
  intro p e s m args below meth c s₁ B hml hexc hv
  obtain ⟨hav, hI, hT⟩ := hv
  have hx := B.exec
  have hb := B.bytes
  have hr := B.returns
  have hts := atoms_spec (ws := wsX5_commute) B.pre
  have hown : s.vm.findClass RX5 = some m.cls := findClass_of_methodNamed B.named
  have hlocks := B.notSynchronized
  have X := XW.of hI
  refine xe_in hav (Nat.le_of_ble_eq_true rfl) rfl (fun ls hl => ?_)
  rw [fX5_commute] at hf
  refine lv_aload_n hx hb dX5_commute_0 rfl (lv_at hl 0 rfl) ?_
  refine lv_iload_n hx hb dX5_commute_1 rfl (lv_at hl 1 rfl) ?_
  refine xb hf (fun v1 hv1 hf => ?_)
  refine exb_c hf (fun e9 h9 hf => ?_) (fun r2 h9 hf => ?_)
  · cases hf
    exact xt_V (rest := []) ⟨hx, hb, hml, hown, hts⟩ (eX5_textOf htr (exo_s hv1 h9)) (cwV 1 hts gX5_commute_X5_textOf rfl rfl rfl hqX5_textOf ⟨Nat.le_of_ble_eq_true rfl, Nat.le_of_ble_eq_true rfl⟩) X hT (va_recv X.1 X.2.1 (ci := 1) (q0 := 14) rfl wlC_14) rfl hl.1 rfl (Nat.le_of_ble_eq_true rfl) dX5_commute_2 ⟨Nat.le_of_ble_eq_true rfl, Nat.le_of_ble_eq_true rfl⟩ hexc hlocks
  · have hr2 : r2 < 7 := fX5_textOf_lt (exo_s hv1 h9)
    refine xc_V1 (rest := []) ⟨hx, hb, hml, hown, hts⟩ (mX5_textOf (exo_s hv1 h9)) (cwV 1 hts gX5_commute_X5_textOf rfl rfl rfl hqX5_textOf ⟨Nat.le_of_ble_eq_true rfl, Nat.le_of_ble_eq_true rfl⟩) X (va_recv X.1 X.2.1 (ci := 1) (q0 := 14) rfl wlC_14) rfl hl.1 rfl (Nat.le_of_ble_eq_true rfl) dX5_commute_2 ⟨Nat.zero_le _, Nat.zero_le _⟩ (fun H locs X => ?_)
    refine lv_aload_n hx hb dX5_commute_5 rfl (lv_at hl 0 rfl) ?_
    refine lv_iload_n hx hb dX5_commute_6 rfl (lv_at hl 2 rfl) ?_
    refine xb hf (fun v3 hv3 hf => ?_)
    refine exb_c hf (fun e9 h9 hf => ?_) (fun r4 h9 hf => ?_)
    · cases hf
      exact xt_V (rest := [.ref (ad r2)]) ⟨hx, hb, hml, hown, hts⟩ (eX5_textOf htr (exo_s hv3 h9)) (cwV 1 hts gX5_commute_X5_textOf rfl rfl rfl hqX5_textOf ⟨Nat.le_of_ble_eq_true rfl, Nat.le_of_ble_eq_true rfl⟩) X hT (va_recv X.1 X.2.1 (ci := 1) (q0 := 14) rfl wlC_14) rfl hl.1 rfl (Nat.le_of_ble_eq_true rfl) dX5_commute_7 ⟨Nat.le_of_ble_eq_true rfl, Nat.le_of_ble_eq_true rfl⟩ hexc hlocks
    · have hr4 : r4 < 7 := fX5_textOf_lt (exo_s hv3 h9)
      refine xc_V1 (rest := [.ref (ad r2)]) ⟨hx, hb, hml, hown, hts⟩ (mX5_textOf (exo_s hv3 h9)) (cwV 1 hts gX5_commute_X5_textOf rfl rfl rfl hqX5_textOf ⟨Nat.le_of_ble_eq_true rfl, Nat.le_of_ble_eq_true rfl⟩) X (va_recv X.1 X.2.1 (ci := 1) (q0 := 14) rfl wlC_14) rfl hl.1 rfl (Nat.le_of_ble_eq_true rfl) dX5_commute_7 ⟨Nat.zero_le _, Nat.zero_le _⟩ (fun H locs X => ?_)
      refine xb hf (fun v5 hv hf => ?_)
      refine xc_S1 (rest := []) ⟨hx, hb, hml, hown, hts⟩ (mX3_doCommute hr2 hr4 hv) (va_cwS 2 hts gX5_commute_X3_doCommute rfl rfl rfl hqX3_doCommute ⟨Nat.le_of_ble_eq_true rfl, Nat.le_of_ble_eq_true rfl⟩) X rfl hl.1 rfl (Nat.le_of_ble_eq_true rfl) dX5_commute_10 ⟨Nat.zero_le _, Nat.zero_le _⟩ (fun H locs X => ?_)
      refine xb hf (fun z9 hz hf => ?_)
      obtain ⟨hn, rfl⟩ := ckZ_some hz
      cases hf
set_option maxRecDepth 100000 in
set_option maxHeartbeats 4000000 in
theorem mX5_commonRoot {l : Launch} {dd : va_G} {cy : Nat → ClassId} {ad : Nat → Nat} {A : Nat → Prop} {fu : Nat} {ts : Nat → Int32} {tc : Nat → Nat → Int32} {rk : Nat → Int32} {pl : Nat → Int32} {ru : Nat → Int64} {sl : Nat → Int32} {bg : Nat → Int32} {kn : Nat → Int64} {rm : Int32} {ol : Nat → Int64} {od : Nat → UInt64} {x1 : Int32} {x2 : Int32} {x3 : Int32} {rv : Int32} {tso : Nat → Int32} {tco : Nat → Nat → Int32} (hf : fX5_commonRoot fu ts tc x1 x2 x3 = some (.ok rv, tso, tco)) : Met l yX5_commonRoot wsX5_commonRoot { frames := 6, cells := 0, slots := 0, locals := 132 } (va_Pc [.ref (ad 14), .int x1, .int x2, .int x3] (IW dd cy A (wlC ad cy ts tc rk pl ru sl bg kn rm ol od))) (QX dd cy A (some (.int rv)) (wlC ad cy tso tco rk pl ru sl bg kn rm ol od)) 0 0 A := by
  refine Met.ofW (cc := cX5_commonRoot) (maxL := 8) (ret := some .int) (by decide) rfl ?_
  intro p e s m args below meth c s₁ B hml hv
  obtain ⟨hav, hI⟩ := hv
  have hx := B.exec
  have hb := B.bytes
  have hr := B.returns
  have hts := atoms_spec (ws := wsX5_commonRoot) B.pre
  have hown : s.vm.findClass RX5 = some m.cls := findClass_of_methodNamed B.named
  have hlocks := B.notSynchronized
  have X := XW.of hI
  refine xe_in hav (Nat.le_of_ble_eq_true rfl) rfl (fun ls hl => ?_)
  rw [fX5_commonRoot] at hf
  refine lv_aload_n hx hb dX5_commonRoot_0 rfl (lv_at hl 0 rfl) ?_
  refine lv_iload_n hx hb dX5_commonRoot_1 rfl (lv_at hl 1 rfl) ?_
  refine xb hf (fun v1 hv1 hf => ?_)
  refine exb_c hf (fun e9 h9 hf => ?_) (fun r2 h9 hf => ?_)
  · cases hf
  · have hr2 : r2 < 7 := fX5_textOf_lt (exo_s hv1 h9)
    refine xc_V1 (rest := []) ⟨hx, hb, hml, hown, hts⟩ (mX5_textOf (exo_s hv1 h9)) (cwV 1 hts gX5_commonRoot_X5_textOf rfl rfl rfl hqX5_textOf ⟨Nat.le_of_ble_eq_true rfl, Nat.le_of_ble_eq_true rfl⟩) X (va_recv X.1 X.2.1 (ci := 1) (q0 := 14) rfl wlC_14) rfl hl.1 rfl (Nat.le_of_ble_eq_true rfl) dX5_commonRoot_2 ⟨Nat.zero_le _, Nat.zero_le _⟩ (fun H locs X => ?_)
    refine lv_astore (lv' := [(4, .ref (ad r2)), (0, .ref (ad 14)), (1, .int x1), (2, .int x2), (3, .int x3)]) hx hb dX5_commonRoot_5 hl (by decide) rfl (fun ls hl => ?_)
    refine lv_aload_n hx hb dX5_commonRoot_7 rfl (lv_at hl 1 rfl) ?_
    refine lv_iload_n hx hb dX5_commonRoot_8 rfl (lv_at hl 3 rfl) ?_
    refine xb hf (fun v3 hv3 hf => ?_)
    refine exb_c hf (fun e9 h9 hf => ?_) (fun r4 h9 hf => ?_)
    · cases hf
    · have hr4 : r4 < 7 := fX5_textOf_lt (exo_s hv3 h9)
      refine xc_V1 (rest := []) ⟨hx, hb, hml, hown, hts⟩ (mX5_textOf (exo_s hv3 h9)) (cwV 1 hts gX5_commonRoot_X5_textOf rfl rfl rfl hqX5_textOf ⟨Nat.le_of_ble_eq_true rfl, Nat.le_of_ble_eq_true rfl⟩) X (va_recv X.1 X.2.1 (ci := 1) (q0 := 14) rfl wlC_14) rfl hl.1 rfl (Nat.le_of_ble_eq_true rfl) dX5_commonRoot_9 ⟨Nat.zero_le _, Nat.zero_le _⟩ (fun H locs X => ?_)
      refine lv_astore (lv' := [(5, .ref (ad r4)), (4, .ref (ad r2)), (0, .ref (ad 14)), (1, .int x1), (2, .int x2), (3, .int x3)]) hx hb dX5_commonRoot_12 hl (by decide) rfl (fun ls hl => ?_)
      refine lv_aload_n hx hb dX5_commonRoot_14 rfl (lv_at hl 2 rfl) ?_
      refine lv_iload_n hx hb dX5_commonRoot_15 rfl (lv_at hl 5 rfl) ?_
      refine xb hf (fun v5 hv5 hf => ?_)
      refine exb_c hf (fun e9 h9 hf => ?_) (fun r6 h9 hf => ?_)
      · cases hf
      · have hr6 : r6 < 7 := fX5_textOf_lt (exo_s hv5 h9)
        refine xc_V1 (rest := []) ⟨hx, hb, hml, hown, hts⟩ (mX5_textOf (exo_s hv5 h9)) (cwV 1 hts gX5_commonRoot_X5_textOf rfl rfl rfl hqX5_textOf ⟨Nat.le_of_ble_eq_true rfl, Nat.le_of_ble_eq_true rfl⟩) X (va_recv X.1 X.2.1 (ci := 1) (q0 := 14) rfl wlC_14) rfl hl.1 rfl (Nat.le_of_ble_eq_true rfl) dX5_commonRoot_16 ⟨Nat.zero_le _, Nat.zero_le _⟩ (fun H locs X => ?_)
        refine lv_astore (lv' := [(6, .ref (ad r6)), (5, .ref (ad r4)), (4, .ref (ad r2)), (0, .ref (ad 14)), (1, .int x1), (2, .int x2), (3, .int x3)]) hx hb dX5_commonRoot_19 hl (by decide) rfl (fun ls hl => ?_)
        refine lv_aload hx hb dX5_commonRoot_21 (lv_at hl 1 rfl) ?_
        refine lv_aload hx hb dX5_commonRoot_23 (lv_at hl 0 rfl) ?_
        refine xb hf (fun v7 hv hf => ?_)
        refine xc_S1 (rest := []) ⟨hx, hb, hml, hown, hts⟩ (mX3_sharedSize hr4 hr6 hv) (va_cwS 2 hts gX5_commonRoot_X3_sharedSize rfl rfl rfl hqX3_sharedSize ⟨Nat.le_of_ble_eq_true rfl, Nat.le_of_ble_eq_true rfl⟩) X rfl hl.1 rfl (Nat.le_of_ble_eq_true rfl) dX5_commonRoot_25 ⟨Nat.zero_le _, Nat.zero_le _⟩ (fun H locs X => ?_)
        refine lv_istore (lv' := [(7, .int v7), (6, .ref (ad r6)), (5, .ref (ad r4)), (4, .ref (ad r2)), (0, .ref (ad 14)), (1, .int x1), (2, .int x2), (3, .int x3)]) hx hb dX5_commonRoot_28 hl (by decide) rfl (fun ls hl => ?_)
        refine lv_iload hx hb dX5_commonRoot_30 (lv_at hl 0 rfl) ?_
        refine xr_if_ne (tgt := 45) hx hb dX5_commonRoot_32 rfl hf (fun hf => ?_) (fun hf => ?_)
        · refine lv_aload_n hx hb dX5_commonRoot_45 rfl (lv_at hl 4 rfl) ?_
          refine lv_aload hx hb dX5_commonRoot_46 (lv_at hl 3 rfl) ?_
          refine lv_aload hx hb dX5_commonRoot_48 (lv_at hl 2 rfl) ?_
          refine xb hf (fun v8 hv hf => ?_)
          refine xc_V1 (rest := [.ref (ad r2), .ref (ad 14)]) ⟨hx, hb, hml, hown, hts⟩ (mX4_isEmpty hr4 hv) (cwV 0 hts gX5_commonRoot_X4_isEmpty rfl rfl rfl hqX4_isEmpty ⟨Nat.le_of_ble_eq_true rfl, Nat.le_of_ble_eq_true rfl⟩) X (va_recv X.1 X.2.1 (ci := 0) (q0 := r4) rfl (wlC_t hr4)) rfl hl.1 rfl (Nat.le_of_ble_eq_true rfl) dX5_commonRoot_50 ⟨Nat.zero_le _, Nat.zero_le _⟩ (fun H locs X => ?_)
          refine xr_if_eq (tgt := 61) hx hb dX5_commonRoot_53 rfl hf (fun hf => ?_) (fun hf => ?_)
          · refine lv_aload hx hb dX5_commonRoot_61 (lv_at hl 2 rfl) ?_
            refine lv_iconst (v := (0 : Int32)) hx hb dX5_commonRoot_63 rfl ?_
            refine lv_iload hx hb dX5_commonRoot_64 (lv_at hl 0 rfl) ?_
            refine xb hf (fun v9 hv hf => ?_)
            refine xc_V1 (rest := []) ⟨hx, hb, hml, hown, hts⟩ (mX5_becomePart hr2 hr4 hv) (cwV 4 hts gX5_commonRoot_X5_becomePart rfl rfl rfl hqX5_becomePart ⟨Nat.le_of_ble_eq_true rfl, Nat.le_of_ble_eq_true rfl⟩) X (va_recv X.1 X.2.1 (ci := 1) (q0 := 14) rfl wlC_14) rfl hl.1 rfl (Nat.le_of_ble_eq_true rfl) dX5_commonRoot_66 ⟨Nat.zero_le _, Nat.zero_le _⟩ (fun H locs X => ?_)
            cases hf
            exact xe_i hx hb hr hlocks X dX5_commonRoot_69
          · refine lv_aload hx hb dX5_commonRoot_56 (lv_at hl 1 rfl) ?_
            refine lv_goto (tgt := 63) hx hb dX5_commonRoot_58 rfl ?_
            refine lv_iconst (v := (0 : Int32)) hx hb dX5_commonRoot_63 rfl ?_
            refine lv_iload hx hb dX5_commonRoot_64 (lv_at hl 0 rfl) ?_
            refine xb hf (fun v10 hv hf => ?_)
            refine xc_V1 (rest := []) ⟨hx, hb, hml, hown, hts⟩ (mX5_becomePart hr2 hr6 hv) (cwV 4 hts gX5_commonRoot_X5_becomePart rfl rfl rfl hqX5_becomePart ⟨Nat.le_of_ble_eq_true rfl, Nat.le_of_ble_eq_true rfl⟩) X (va_recv X.1 X.2.1 (ci := 1) (q0 := 14) rfl wlC_14) rfl hl.1 rfl (Nat.le_of_ble_eq_true rfl) dX5_commonRoot_66 ⟨Nat.zero_le _, Nat.zero_le _⟩ (fun H locs X => ?_)
            cases hf
            exact xe_i hx hb hr hlocks X dX5_commonRoot_69
        · cases hf
set_option maxRecDepth 100000 in
set_option maxHeartbeats 4000000 in
theorem eX5_commonRoot {l : Launch} {dd : va_G} {cy : Nat → ClassId} {ad : Nat → Nat} {A : Nat → Prop} {fu : Nat} {ts : Nat → Int32} {tc : Nat → Nat → Int32} {rk : Nat → Int32} {pl : Nat → Int32} {ru : Nat → Int64} {sl : Nat → Int32} {bg : Nat → Int32} {kn : Nat → Int64} {rm : Int32} {ol : Nat → Int64} {od : Nat → UInt64} {x1 : Int32} {x2 : Int32} {x3 : Int32} {E9 : String} {tso : Nat → Int32} {tco : Nat → Nat → Int32} (htr : l.stackTraces = false) (hf : fX5_commonRoot fu ts tc x1 x2 x3 = some (.error E9, tso, tco)) : vx_Met l yX5_commonRoot wsX5_commonRoot { frames := 7, cells := 1, slots := 6, locals := 132 } (va_Pc [.ref (ad 14), .int x1, .int x2, .int x3] (IT dd cy A (wlC ad cy ts tc rk pl ru sl bg kn rm ol od))) (fun _ _ _ _ => False) (XE dd cy A E9 (wlC ad cy tso tco rk pl ru sl bg kn rm ol od)) 1 6 A := by
  refine vx_ofW (cc := cX5_commonRoot) (maxL := 8) (ret := some .int) (by decide) rfl ?_
  intro p e s m args below meth c s₁ B hml hexc hv
  obtain ⟨hav, hI, hT⟩ := hv
  have hx := B.exec
  have hb := B.bytes
  have hr := B.returns
  have hts := atoms_spec (ws := wsX5_commonRoot) B.pre
  have hown : s.vm.findClass RX5 = some m.cls := findClass_of_methodNamed B.named
  have hlocks := B.notSynchronized
  have X := XW.of hI
  refine xe_in hav (Nat.le_of_ble_eq_true rfl) rfl (fun ls hl => ?_)
  rw [fX5_commonRoot] at hf
  refine lv_aload_n hx hb dX5_commonRoot_0 rfl (lv_at hl 0 rfl) ?_
  refine lv_iload_n hx hb dX5_commonRoot_1 rfl (lv_at hl 1 rfl) ?_
  refine xb hf (fun v1 hv1 hf => ?_)
  refine exb_c hf (fun e9 h9 hf => ?_) (fun r2 h9 hf => ?_)
  · cases hf
    exact xt_V (rest := []) ⟨hx, hb, hml, hown, hts⟩ (eX5_textOf htr (exo_s hv1 h9)) (cwV 1 hts gX5_commonRoot_X5_textOf rfl rfl rfl hqX5_textOf ⟨Nat.le_of_ble_eq_true rfl, Nat.le_of_ble_eq_true rfl⟩) X hT (va_recv X.1 X.2.1 (ci := 1) (q0 := 14) rfl wlC_14) rfl hl.1 rfl (Nat.le_of_ble_eq_true rfl) dX5_commonRoot_2 ⟨Nat.le_of_ble_eq_true rfl, Nat.le_of_ble_eq_true rfl⟩ hexc hlocks
  · have hr2 : r2 < 7 := fX5_textOf_lt (exo_s hv1 h9)
    refine xc_V1 (rest := []) ⟨hx, hb, hml, hown, hts⟩ (mX5_textOf (exo_s hv1 h9)) (cwV 1 hts gX5_commonRoot_X5_textOf rfl rfl rfl hqX5_textOf ⟨Nat.le_of_ble_eq_true rfl, Nat.le_of_ble_eq_true rfl⟩) X (va_recv X.1 X.2.1 (ci := 1) (q0 := 14) rfl wlC_14) rfl hl.1 rfl (Nat.le_of_ble_eq_true rfl) dX5_commonRoot_2 ⟨Nat.zero_le _, Nat.zero_le _⟩ (fun H locs X => ?_)
    refine lv_astore (lv' := [(4, .ref (ad r2)), (0, .ref (ad 14)), (1, .int x1), (2, .int x2), (3, .int x3)]) hx hb dX5_commonRoot_5 hl (by decide) rfl (fun ls hl => ?_)
    refine lv_aload_n hx hb dX5_commonRoot_7 rfl (lv_at hl 1 rfl) ?_
    refine lv_iload_n hx hb dX5_commonRoot_8 rfl (lv_at hl 3 rfl) ?_
    refine xb hf (fun v3 hv3 hf => ?_)
    refine exb_c hf (fun e9 h9 hf => ?_) (fun r4 h9 hf => ?_)
    · cases hf
      exact xt_V (rest := []) ⟨hx, hb, hml, hown, hts⟩ (eX5_textOf htr (exo_s hv3 h9)) (cwV 1 hts gX5_commonRoot_X5_textOf rfl rfl rfl hqX5_textOf ⟨Nat.le_of_ble_eq_true rfl, Nat.le_of_ble_eq_true rfl⟩) X hT (va_recv X.1 X.2.1 (ci := 1) (q0 := 14) rfl wlC_14) rfl hl.1 rfl (Nat.le_of_ble_eq_true rfl) dX5_commonRoot_9 ⟨Nat.le_of_ble_eq_true rfl, Nat.le_of_ble_eq_true rfl⟩ hexc hlocks
    · have hr4 : r4 < 7 := fX5_textOf_lt (exo_s hv3 h9)
      refine xc_V1 (rest := []) ⟨hx, hb, hml, hown, hts⟩ (mX5_textOf (exo_s hv3 h9)) (cwV 1 hts gX5_commonRoot_X5_textOf rfl rfl rfl hqX5_textOf ⟨Nat.le_of_ble_eq_true rfl, Nat.le_of_ble_eq_true rfl⟩) X (va_recv X.1 X.2.1 (ci := 1) (q0 := 14) rfl wlC_14) rfl hl.1 rfl (Nat.le_of_ble_eq_true rfl) dX5_commonRoot_9 ⟨Nat.zero_le _, Nat.zero_le _⟩ (fun H locs X => ?_)
      refine lv_astore (lv' := [(5, .ref (ad r4)), (4, .ref (ad r2)), (0, .ref (ad 14)), (1, .int x1), (2, .int x2), (3, .int x3)]) hx hb dX5_commonRoot_12 hl (by decide) rfl (fun ls hl => ?_)
      refine lv_aload_n hx hb dX5_commonRoot_14 rfl (lv_at hl 2 rfl) ?_
      refine lv_iload_n hx hb dX5_commonRoot_15 rfl (lv_at hl 5 rfl) ?_
      refine xb hf (fun v5 hv5 hf => ?_)
      refine exb_c hf (fun e9 h9 hf => ?_) (fun r6 h9 hf => ?_)
      · cases hf
        exact xt_V (rest := []) ⟨hx, hb, hml, hown, hts⟩ (eX5_textOf htr (exo_s hv5 h9)) (cwV 1 hts gX5_commonRoot_X5_textOf rfl rfl rfl hqX5_textOf ⟨Nat.le_of_ble_eq_true rfl, Nat.le_of_ble_eq_true rfl⟩) X hT (va_recv X.1 X.2.1 (ci := 1) (q0 := 14) rfl wlC_14) rfl hl.1 rfl (Nat.le_of_ble_eq_true rfl) dX5_commonRoot_16 ⟨Nat.le_of_ble_eq_true rfl, Nat.le_of_ble_eq_true rfl⟩ hexc hlocks
      · have hr6 : r6 < 7 := fX5_textOf_lt (exo_s hv5 h9)
        refine xc_V1 (rest := []) ⟨hx, hb, hml, hown, hts⟩ (mX5_textOf (exo_s hv5 h9)) (cwV 1 hts gX5_commonRoot_X5_textOf rfl rfl rfl hqX5_textOf ⟨Nat.le_of_ble_eq_true rfl, Nat.le_of_ble_eq_true rfl⟩) X (va_recv X.1 X.2.1 (ci := 1) (q0 := 14) rfl wlC_14) rfl hl.1 rfl (Nat.le_of_ble_eq_true rfl) dX5_commonRoot_16 ⟨Nat.zero_le _, Nat.zero_le _⟩ (fun H locs X => ?_)
        refine lv_astore (lv' := [(6, .ref (ad r6)), (5, .ref (ad r4)), (4, .ref (ad r2)), (0, .ref (ad 14)), (1, .int x1), (2, .int x2), (3, .int x3)]) hx hb dX5_commonRoot_19 hl (by decide) rfl (fun ls hl => ?_)
        refine lv_aload hx hb dX5_commonRoot_21 (lv_at hl 1 rfl) ?_
        refine lv_aload hx hb dX5_commonRoot_23 (lv_at hl 0 rfl) ?_
        refine xb hf (fun v7 hv hf => ?_)
        refine xc_S1 (rest := []) ⟨hx, hb, hml, hown, hts⟩ (mX3_sharedSize hr4 hr6 hv) (va_cwS 2 hts gX5_commonRoot_X3_sharedSize rfl rfl rfl hqX3_sharedSize ⟨Nat.le_of_ble_eq_true rfl, Nat.le_of_ble_eq_true rfl⟩) X rfl hl.1 rfl (Nat.le_of_ble_eq_true rfl) dX5_commonRoot_25 ⟨Nat.zero_le _, Nat.zero_le _⟩ (fun H locs X => ?_)
        refine lv_istore (lv' := [(7, .int v7), (6, .ref (ad r6)), (5, .ref (ad r4)), (4, .ref (ad r2)), (0, .ref (ad 14)), (1, .int x1), (2, .int x2), (3, .int x3)]) hx hb dX5_commonRoot_28 hl (by decide) rfl (fun ls hl => ?_)
        refine lv_iload hx hb dX5_commonRoot_30 (lv_at hl 0 rfl) ?_
        refine xr_if_ne (tgt := 45) hx hb dX5_commonRoot_32 rfl hf (fun hf => ?_) (fun hf => ?_)
        · refine lv_aload_n hx hb dX5_commonRoot_45 rfl (lv_at hl 4 rfl) ?_
          refine lv_aload hx hb dX5_commonRoot_46 (lv_at hl 3 rfl) ?_
          refine lv_aload hx hb dX5_commonRoot_48 (lv_at hl 2 rfl) ?_
          refine xb hf (fun v8 hv hf => ?_)
          refine xc_V1 (rest := [.ref (ad r2), .ref (ad 14)]) ⟨hx, hb, hml, hown, hts⟩ (mX4_isEmpty hr4 hv) (cwV 0 hts gX5_commonRoot_X4_isEmpty rfl rfl rfl hqX4_isEmpty ⟨Nat.le_of_ble_eq_true rfl, Nat.le_of_ble_eq_true rfl⟩) X (va_recv X.1 X.2.1 (ci := 0) (q0 := r4) rfl (wlC_t hr4)) rfl hl.1 rfl (Nat.le_of_ble_eq_true rfl) dX5_commonRoot_50 ⟨Nat.zero_le _, Nat.zero_le _⟩ (fun H locs X => ?_)
          refine xr_if_eq (tgt := 61) hx hb dX5_commonRoot_53 rfl hf (fun hf => ?_) (fun hf => ?_)
          · refine lv_aload hx hb dX5_commonRoot_61 (lv_at hl 2 rfl) ?_
            refine lv_iconst (v := (0 : Int32)) hx hb dX5_commonRoot_63 rfl ?_
            refine lv_iload hx hb dX5_commonRoot_64 (lv_at hl 0 rfl) ?_
            refine xb hf (fun v9 hv hf => ?_)
            refine xc_V1 (rest := []) ⟨hx, hb, hml, hown, hts⟩ (mX5_becomePart hr2 hr4 hv) (cwV 4 hts gX5_commonRoot_X5_becomePart rfl rfl rfl hqX5_becomePart ⟨Nat.le_of_ble_eq_true rfl, Nat.le_of_ble_eq_true rfl⟩) X (va_recv X.1 X.2.1 (ci := 1) (q0 := 14) rfl wlC_14) rfl hl.1 rfl (Nat.le_of_ble_eq_true rfl) dX5_commonRoot_66 ⟨Nat.zero_le _, Nat.zero_le _⟩ (fun H locs X => ?_)
            cases hf
          · refine lv_aload hx hb dX5_commonRoot_56 (lv_at hl 1 rfl) ?_
            refine lv_goto (tgt := 63) hx hb dX5_commonRoot_58 rfl ?_
            refine lv_iconst (v := (0 : Int32)) hx hb dX5_commonRoot_63 rfl ?_
            refine lv_iload hx hb dX5_commonRoot_64 (lv_at hl 0 rfl) ?_
            refine xb hf (fun v10 hv hf => ?_)
            refine xc_V1 (rest := []) ⟨hx, hb, hml, hown, hts⟩ (mX5_becomePart hr2 hr6 hv) (cwV 4 hts gX5_commonRoot_X5_becomePart rfl rfl rfl hqX5_becomePart ⟨Nat.le_of_ble_eq_true rfl, Nat.le_of_ble_eq_true rfl⟩) X (va_recv X.1 X.2.1 (ci := 1) (q0 := 14) rfl wlC_14) rfl hl.1 rfl (Nat.le_of_ble_eq_true rfl) dX5_commonRoot_66 ⟨Nat.zero_le _, Nat.zero_le _⟩ (fun H locs X => ?_)
            cases hf
        · cases hf
          exact xt_throw (rest := []) (text := "no common root") hx hb htr hown hts hT X (by decide +kernel) (by decide +kernel) (by decide +kernel) (by decide +kernel) (by decide +kernel) (by decide +kernel) th_hn_210 th_hot_206_210 (hl.1.trans hml.symm) dX5_commonRoot_35 dX5_commonRoot_38 dX5_commonRoot_39 dX5_commonRoot_41 dX5_commonRoot_44 hexc (Nat.le_of_ble_eq_true rfl) (Nat.le_of_ble_eq_true rfl) (Nat.le_of_ble_eq_true rfl) (Nat.le_of_ble_eq_true rfl) hlocks
set_option maxRecDepth 100000 in
set_option maxHeartbeats 4000000 in
theorem mX5_requireSet {l : Launch} {dd : va_G} {cy : Nat → ClassId} {ad : Nat → Nat} {A : Nat → Prop} {ts : Nat → Int32} {tc : Nat → Nat → Int32} {rk : Nat → Int32} {pl : Nat → Int32} {ru : Nat → Int64} {sl : Nat → Int32} {bg : Nat → Int32} {kn : Nat → Int64} {rm : Int32} {ol : Nat → Int64} {od : Nat → UInt64} {x0 : Int32} (hf : fX5_requireSet x0 = some (.ok ())) : Met l yX5_requireSet wsX5_requireSet { frames := 0, cells := 0, slots := 0, locals := 0 } (va_Pc [.int x0] (IW dd cy A (wlC ad cy ts tc rk pl ru sl bg kn rm ol od))) (QX dd cy A none (wlC ad cy ts tc rk pl ru sl bg kn rm ol od)) 0 0 A := by
  refine Met.ofW (cc := cX5_requireSet) (maxL := 1) (ret := none) (by decide) rfl ?_
  intro p e s m args below meth c s₁ B hml hv
  obtain ⟨hav, hI⟩ := hv
  have hx := B.exec
  have hb := B.bytes
  have hr := B.returns
  have hts := atoms_spec (ws := wsX5_requireSet) B.pre
  have hown : s.vm.findClass RX5 = some m.cls := findClass_of_methodNamed B.named
  have hlocks := B.notSynchronized
  have X := XW.of hI
  refine xe_in hav (Nat.le_of_ble_eq_true rfl) rfl (fun ls hl => ?_)
  rw [fX5_requireSet] at hf
  refine lv_iload_n hx hb dX5_requireSet_0 rfl (lv_at hl 0 rfl) ?_
  refine xr_if_lt (tgt := 10) hx hb dX5_requireSet_1 rfl hf (fun hf => ?_) (fun hf => ?_)
  · cases hf
  · refine lv_iload_n hx hb dX5_requireSet_4 rfl (lv_at hl 0 rfl) ?_
    refine lv_bipush (v := (63 : Int32)) hx hb dX5_requireSet_5 rfl ?_
    refine xr_icmp_le (tgt := 21) hx hb dX5_requireSet_7 rfl hf (fun hf => ?_) (fun hf => ?_)
    · cases hf
      exact xe_v hx hb hr hlocks X dX5_requireSet_21
    · cases hf
set_option maxRecDepth 100000 in
set_option maxHeartbeats 4000000 in
theorem eX5_requireSet {l : Launch} {dd : va_G} {cy : Nat → ClassId} {ad : Nat → Nat} {A : Nat → Prop} {ts : Nat → Int32} {tc : Nat → Nat → Int32} {rk : Nat → Int32} {pl : Nat → Int32} {ru : Nat → Int64} {sl : Nat → Int32} {bg : Nat → Int32} {kn : Nat → Int64} {rm : Int32} {ol : Nat → Int64} {od : Nat → UInt64} {x0 : Int32} {E9 : String} (htr : l.stackTraces = false) (hf : fX5_requireSet x0 = some (.error E9)) : vx_Met l yX5_requireSet wsX5_requireSet { frames := 6, cells := 1, slots := 6, locals := 100 } (va_Pc [.int x0] (IT dd cy A (wlC ad cy ts tc rk pl ru sl bg kn rm ol od))) (fun _ _ _ _ => False) (XE dd cy A E9 (wlC ad cy ts tc rk pl ru sl bg kn rm ol od)) 1 6 A := by
  refine vx_ofW (cc := cX5_requireSet) (maxL := 1) (ret := none) (by decide) rfl ?_
  intro p e s m args below meth c s₁ B hml hexc hv
  obtain ⟨hav, hI, hT⟩ := hv
  have hx := B.exec
  have hb := B.bytes
  have hr := B.returns
  have hts := atoms_spec (ws := wsX5_requireSet) B.pre
  have hown : s.vm.findClass RX5 = some m.cls := findClass_of_methodNamed B.named
  have hlocks := B.notSynchronized
  have X := XW.of hI
  refine xe_in hav (Nat.le_of_ble_eq_true rfl) rfl (fun ls hl => ?_)
  rw [fX5_requireSet] at hf
  refine lv_iload_n hx hb dX5_requireSet_0 rfl (lv_at hl 0 rfl) ?_
  refine xr_if_lt (tgt := 10) hx hb dX5_requireSet_1 rfl hf (fun hf => ?_) (fun hf => ?_)
  · cases hf
    exact xt_throwW (rest := []) (text := "the set is not 0 to 63") hx hb htr hown hts hT X (by decide +kernel) (by decide +kernel) (by decide +kernel) (by decide +kernel) (by decide +kernel) (by decide +kernel) th_hn_57 th_hot_53_57 (hl.1.trans hml.symm) dX5_requireSet_10 dX5_requireSet_13 dX5_requireSet_14 dX5_requireSet_17 dX5_requireSet_20 hexc (Nat.le_of_ble_eq_true rfl) (Nat.le_of_ble_eq_true rfl) (Nat.le_of_ble_eq_true rfl) (Nat.le_of_ble_eq_true rfl) hlocks
  · refine lv_iload_n hx hb dX5_requireSet_4 rfl (lv_at hl 0 rfl) ?_
    refine lv_bipush (v := (63 : Int32)) hx hb dX5_requireSet_5 rfl ?_
    refine xr_icmp_le (tgt := 21) hx hb dX5_requireSet_7 rfl hf (fun hf => ?_) (fun hf => ?_)
    · cases hf
    · cases hf
      exact xt_throwW (rest := []) (text := "the set is not 0 to 63") hx hb htr hown hts hT X (by decide +kernel) (by decide +kernel) (by decide +kernel) (by decide +kernel) (by decide +kernel) (by decide +kernel) th_hn_57 th_hot_53_57 (hl.1.trans hml.symm) dX5_requireSet_10 dX5_requireSet_13 dX5_requireSet_14 dX5_requireSet_17 dX5_requireSet_20 hexc (Nat.le_of_ble_eq_true rfl) (Nat.le_of_ble_eq_true rfl) (Nat.le_of_ble_eq_true rfl) (Nat.le_of_ble_eq_true rfl) hlocks
set_option maxRecDepth 100000 in
set_option maxHeartbeats 4000000 in
theorem mX5_ways {l : Launch} {dd : va_G} {cy : Nat → ClassId} {ad : Nat → Nat} {A : Nat → Prop} {fu : Nat} {ts : Nat → Int32} {tc : Nat → Nat → Int32} {rk : Nat → Int32} {pl : Nat → Int32} {ru : Nat → Int64} {sl : Nat → Int32} {bg : Nat → Int32} {kn : Nat → Int64} {rm : Int32} {ol : Nat → Int64} {od : Nat → UInt64} {x1 : Int32} {x2 : Int32} {rv : Int64} {ruo : Nat → Int64} (hf : fX5_ways fu ts tc ru x1 x2 = some (.ok rv, ruo)) : Met l yX5_ways wsX5_ways { frames := 4, cells := 0, slots := 0, locals := 107 } (va_Pc [.ref (ad 14), .int x1, .int x2] (IW dd cy A (wlC ad cy ts tc rk pl ru sl bg kn rm ol od))) (QX dd cy A (some (.long rv)) (wlC ad cy ts tc rk pl ruo sl bg kn rm ol od)) 0 0 A := by
  refine Met.ofW (cc := cX5_ways) (maxL := 4) (ret := some .long) (by decide) rfl ?_
  intro p e s m args below meth c s₁ B hml hv
  obtain ⟨hav, hI⟩ := hv
  have hx := B.exec
  have hb := B.bytes
  have hr := B.returns
  have hts := atoms_spec (ws := wsX5_ways) B.pre
  have hown : s.vm.findClass RX5 = some m.cls := findClass_of_methodNamed B.named
  have hlocks := B.notSynchronized
  have X := XW.of hI
  have h5 : ∀ w ∈ wsX50, w ∈ wsX5_ways := by decide +kernel
  refine xe_in hav (Nat.le_of_ble_eq_true rfl) rfl (fun ls hl => ?_)
  rw [fX5_ways] at hf
  refine lv_aload_n hx hb dX5_ways_0 rfl (lv_at hl 0 rfl) ?_
  refine lv_iload_n hx hb dX5_ways_1 rfl (lv_at hl 1 rfl) ?_
  refine xb hf (fun v1 hv1 hf => ?_)
  refine exb_c hf (fun e9 h9 hf => ?_) (fun r2 h9 hf => ?_)
  · cases hf
  · have hr2 : r2 < 7 := fX5_textOf_lt (exo_s hv1 h9)
    refine xc_V1 (rest := []) ⟨hx, hb, hml, hown, hts⟩ (mX5_textOf (exo_s hv1 h9)) (cwV 1 hts gX5_ways_X5_textOf rfl rfl rfl hqX5_textOf ⟨Nat.le_of_ble_eq_true rfl, Nat.le_of_ble_eq_true rfl⟩) X (va_recv X.1 X.2.1 (ci := 1) (q0 := 14) rfl wlC_14) rfl hl.1 rfl (Nat.le_of_ble_eq_true rfl) dX5_ways_2 ⟨Nat.zero_le _, Nat.zero_le _⟩ (fun H locs X => ?_)
    refine lv_astore_n (lv' := [(3, .ref (ad r2)), (0, .ref (ad 14)), (1, .int x1), (2, .int x2)]) hx hb dX5_ways_5 rfl hl (by decide) rfl (fun ls hl => ?_)
    refine lv_iload_n hx hb dX5_ways_6 rfl (lv_at hl 3 rfl) ?_
    refine xb hf (fun v3 hv3 hf => ?_)
    refine exb_c hf (fun e9 h9 hf => ?_) (fun r4 h9 hf => ?_)
    · cases hf
    · refine xc_S0 (rest := []) ⟨hx, hb, hml, hown, hts⟩ (mX5_requireSet (exo_s hv3 h9)) (va_cwS 1 hts gX5_ways_X5_requireSet rfl rfl rfl hqX5_requireSet ⟨Nat.le_of_ble_eq_true rfl, Nat.le_of_ble_eq_true rfl⟩) X rfl hl.1 rfl (Nat.le_of_ble_eq_true rfl) dX5_ways_7 ⟨Nat.zero_le _, Nat.zero_le _⟩ (fun H locs X => ?_)
      refine lv_aload_n hx hb dX5_ways_10 rfl (lv_at hl 1 rfl) ?_
      refine xg_f hx hb hts hown X h5 14 wlC_14 rfl 3 (by decide) (by decide +kernel) (v := .ref (ad 19)) rfl dX5_ways_11 ?_
      refine lv_aload_n hx hb dX5_ways_14 rfl (lv_at hl 0 rfl) ?_
      refine lv_aload_n hx hb dX5_ways_15 rfl (lv_at hl 1 rfl) ?_
      refine xg_f hx hb hts hown X h5 14 wlC_14 rfl 0 (by decide) (by decide +kernel) (v := .ref (ad 15)) rfl dX5_ways_16 ?_
      refine lv_iload_n hx hb dX5_ways_19 rfl (lv_at hl 3 rfl) ?_
      refine xb hf (fun v5 hv hf => ?_)
      refine xc_V1 (rest := []) ⟨hx, hb, hml, hown, hts⟩ (mX2_countRows hr2 hv) (cwV 3 hts gX5_ways_X2_countRows rfl rfl rfl hqX2_countRows ⟨Nat.le_of_ble_eq_true rfl, Nat.le_of_ble_eq_true rfl⟩) X (va_recv X.1 X.2.1 (ci := 3) (q0 := 19) rfl wlC_19) rfl hl.1 rfl (Nat.le_of_ble_eq_true rfl) dX5_ways_20 ⟨Nat.zero_le _, Nat.zero_le _⟩ (fun H locs X => ?_)
      cases hf
      exact xe_l hx hb hr hlocks X dX5_ways_23
set_option maxRecDepth 100000 in
set_option maxHeartbeats 4000000 in
theorem eX5_ways {l : Launch} {dd : va_G} {cy : Nat → ClassId} {ad : Nat → Nat} {A : Nat → Prop} {fu : Nat} {ts : Nat → Int32} {tc : Nat → Nat → Int32} {rk : Nat → Int32} {pl : Nat → Int32} {ru : Nat → Int64} {sl : Nat → Int32} {bg : Nat → Int32} {kn : Nat → Int64} {rm : Int32} {ol : Nat → Int64} {od : Nat → UInt64} {x1 : Int32} {x2 : Int32} {E9 : String} {ruo : Nat → Int64} (htr : l.stackTraces = false) (hf : fX5_ways fu ts tc ru x1 x2 = some (.error E9, ruo)) : vx_Met l yX5_ways wsX5_ways { frames := 7, cells := 1, slots := 6, locals := 121 } (va_Pc [.ref (ad 14), .int x1, .int x2] (IT dd cy A (wlC ad cy ts tc rk pl ru sl bg kn rm ol od))) (fun _ _ _ _ => False) (XE dd cy A E9 (wlC ad cy ts tc rk pl ruo sl bg kn rm ol od)) 1 6 A := by
  refine vx_ofW (cc := cX5_ways) (maxL := 4) (ret := some .long) (by decide) rfl ?_
  intro p e s m args below meth c s₁ B hml hexc hv
  obtain ⟨hav, hI, hT⟩ := hv
  have hx := B.exec
  have hb := B.bytes
  have hr := B.returns
  have hts := atoms_spec (ws := wsX5_ways) B.pre
  have hown : s.vm.findClass RX5 = some m.cls := findClass_of_methodNamed B.named
  have hlocks := B.notSynchronized
  have X := XW.of hI
  have h5 : ∀ w ∈ wsX50, w ∈ wsX5_ways := by decide +kernel
  refine xe_in hav (Nat.le_of_ble_eq_true rfl) rfl (fun ls hl => ?_)
  rw [fX5_ways] at hf
  refine lv_aload_n hx hb dX5_ways_0 rfl (lv_at hl 0 rfl) ?_
  refine lv_iload_n hx hb dX5_ways_1 rfl (lv_at hl 1 rfl) ?_
  refine xb hf (fun v1 hv1 hf => ?_)
  refine exb_c hf (fun e9 h9 hf => ?_) (fun r2 h9 hf => ?_)
  · cases hf
    exact xt_V (rest := []) ⟨hx, hb, hml, hown, hts⟩ (eX5_textOf htr (exo_s hv1 h9)) (cwV 1 hts gX5_ways_X5_textOf rfl rfl rfl hqX5_textOf ⟨Nat.le_of_ble_eq_true rfl, Nat.le_of_ble_eq_true rfl⟩) X hT (va_recv X.1 X.2.1 (ci := 1) (q0 := 14) rfl wlC_14) rfl hl.1 rfl (Nat.le_of_ble_eq_true rfl) dX5_ways_2 ⟨Nat.le_of_ble_eq_true rfl, Nat.le_of_ble_eq_true rfl⟩ hexc hlocks
  · have hr2 : r2 < 7 := fX5_textOf_lt (exo_s hv1 h9)
    refine xc_V1 (rest := []) ⟨hx, hb, hml, hown, hts⟩ (mX5_textOf (exo_s hv1 h9)) (cwV 1 hts gX5_ways_X5_textOf rfl rfl rfl hqX5_textOf ⟨Nat.le_of_ble_eq_true rfl, Nat.le_of_ble_eq_true rfl⟩) X (va_recv X.1 X.2.1 (ci := 1) (q0 := 14) rfl wlC_14) rfl hl.1 rfl (Nat.le_of_ble_eq_true rfl) dX5_ways_2 ⟨Nat.zero_le _, Nat.zero_le _⟩ (fun H locs X => ?_)
    refine lv_astore_n (lv' := [(3, .ref (ad r2)), (0, .ref (ad 14)), (1, .int x1), (2, .int x2)]) hx hb dX5_ways_5 rfl hl (by decide) rfl (fun ls hl => ?_)
    refine lv_iload_n hx hb dX5_ways_6 rfl (lv_at hl 3 rfl) ?_
    refine xb hf (fun v3 hv3 hf => ?_)
    refine exb_c hf (fun e9 h9 hf => ?_) (fun r4 h9 hf => ?_)
    · cases hf
      exact xt_S (rest := []) ⟨hx, hb, hml, hown, hts⟩ (eX5_requireSet htr (exo_s hv3 h9)) (va_cwS 1 hts gX5_ways_X5_requireSet rfl rfl rfl hqX5_requireSet ⟨Nat.le_of_ble_eq_true rfl, Nat.le_of_ble_eq_true rfl⟩) X hT rfl hl.1 rfl (Nat.le_of_ble_eq_true rfl) dX5_ways_7 ⟨Nat.le_of_ble_eq_true rfl, Nat.le_of_ble_eq_true rfl⟩ hexc hlocks
    · refine xc_S0 (rest := []) ⟨hx, hb, hml, hown, hts⟩ (mX5_requireSet (exo_s hv3 h9)) (va_cwS 1 hts gX5_ways_X5_requireSet rfl rfl rfl hqX5_requireSet ⟨Nat.le_of_ble_eq_true rfl, Nat.le_of_ble_eq_true rfl⟩) X rfl hl.1 rfl (Nat.le_of_ble_eq_true rfl) dX5_ways_7 ⟨Nat.zero_le _, Nat.zero_le _⟩ (fun H locs X => ?_)
      refine lv_aload_n hx hb dX5_ways_10 rfl (lv_at hl 1 rfl) ?_
      refine xg_f hx hb hts hown X h5 14 wlC_14 rfl 3 (by decide) (by decide +kernel) (v := .ref (ad 19)) rfl dX5_ways_11 ?_
      refine lv_aload_n hx hb dX5_ways_14 rfl (lv_at hl 0 rfl) ?_
      refine lv_aload_n hx hb dX5_ways_15 rfl (lv_at hl 1 rfl) ?_
      refine xg_f hx hb hts hown X h5 14 wlC_14 rfl 0 (by decide) (by decide +kernel) (v := .ref (ad 15)) rfl dX5_ways_16 ?_
      refine lv_iload_n hx hb dX5_ways_19 rfl (lv_at hl 3 rfl) ?_
      refine xb hf (fun v5 hv hf => ?_)
      refine xc_V1 (rest := []) ⟨hx, hb, hml, hown, hts⟩ (mX2_countRows hr2 hv) (cwV 3 hts gX5_ways_X2_countRows rfl rfl rfl hqX2_countRows ⟨Nat.le_of_ble_eq_true rfl, Nat.le_of_ble_eq_true rfl⟩) X (va_recv X.1 X.2.1 (ci := 3) (q0 := 19) rfl wlC_19) rfl hl.1 rfl (Nat.le_of_ble_eq_true rfl) dX5_ways_20 ⟨Nat.zero_le _, Nat.zero_le _⟩ (fun H locs X => ?_)
      cases hf
set_option maxRecDepth 100000 in
set_option maxHeartbeats 4000000 in
theorem mX5_isFree {l : Launch} {dd : va_G} {cy : Nat → ClassId} {ad : Nat → Nat} {A : Nat → Prop} {fu : Nat} {ts : Nat → Int32} {tc : Nat → Nat → Int32} {rk : Nat → Int32} {pl : Nat → Int32} {ru : Nat → Int64} {sl : Nat → Int32} {bg : Nat → Int32} {kn : Nat → Int64} {rm : Int32} {ol : Nat → Int64} {od : Nat → UInt64} {x1 : Int32} {rv : Int32} {slo : Nat → Int32} {bgo : Nat → Int32} {kno : Nat → Int64} {rmo : Int32} (hf : fX5_isFree fu ts tc sl bg kn rm x1 = some (.ok rv, slo, bgo, kno, rmo)) : Met l yX5_isFree wsX5_isFree { frames := 4, cells := 0, slots := 0, locals := 109 } (va_Pc [.ref (ad 14), .int x1] (IW dd cy A (wlC ad cy ts tc rk pl ru sl bg kn rm ol od))) (QX dd cy A (some (.int rv)) (wlC ad cy ts tc rk pl ru slo bgo kno rmo ol od)) 0 0 A := by
  refine Met.ofW (cc := cX5_isFree) (maxL := 2) (ret := some .boolean) (by decide) rfl ?_
  intro p e s m args below meth c s₁ B hml hv
  obtain ⟨hav, hI⟩ := hv
  have hx := B.exec
  have hb := B.bytes
  have hr := B.returns
  have hts := atoms_spec (ws := wsX5_isFree) B.pre
  have hown : s.vm.findClass RX5 = some m.cls := findClass_of_methodNamed B.named
  have hlocks := B.notSynchronized
  have X := XW.of hI
  have h5 : ∀ w ∈ wsX50, w ∈ wsX5_isFree := by decide +kernel
  refine xe_in hav (Nat.le_of_ble_eq_true rfl) rfl (fun ls hl => ?_)
  rw [fX5_isFree] at hf
  refine lv_iload_n hx hb dX5_isFree_0 rfl (lv_at hl 1 rfl) ?_
  refine xb hf (fun v1 hv1 hf => ?_)
  refine exb_c hf (fun e9 h9 hf => ?_) (fun r2 h9 hf => ?_)
  · cases hf
  · refine xc_S0 (rest := []) ⟨hx, hb, hml, hown, hts⟩ (mX5_requireSet (exo_s hv1 h9)) (va_cwS 1 hts gX5_isFree_X5_requireSet rfl rfl rfl hqX5_requireSet ⟨Nat.le_of_ble_eq_true rfl, Nat.le_of_ble_eq_true rfl⟩) X rfl hl.1 rfl (Nat.le_of_ble_eq_true rfl) dX5_isFree_1 ⟨Nat.zero_le _, Nat.zero_le _⟩ (fun H locs X => ?_)
    refine lv_aload_n hx hb dX5_isFree_4 rfl (lv_at hl 0 rfl) ?_
    refine xg_f hx hb hts hown X h5 14 wlC_14 rfl 3 (by decide) (by decide +kernel) (v := .ref (ad 19)) rfl dX5_isFree_5 ?_
    refine lv_aload_n hx hb dX5_isFree_8 rfl (lv_at hl 0 rfl) ?_
    refine xg_f hx hb hts hown X h5 14 wlC_14 rfl 0 (by decide) (by decide +kernel) (v := .ref (ad 15)) rfl dX5_isFree_9 ?_
    refine lv_iload_n hx hb dX5_isFree_12 rfl (lv_at hl 1 rfl) ?_
    refine xb hf (fun v3 hv hf => ?_)
    refine xc_V1 (rest := []) ⟨hx, hb, hml, hown, hts⟩ (mX2_areFree hv) (cwV 2 hts gX5_isFree_X2_areFree rfl rfl rfl hqX2_areFree ⟨Nat.le_of_ble_eq_true rfl, Nat.le_of_ble_eq_true rfl⟩) X (va_recv X.1 X.2.1 (ci := 3) (q0 := 19) rfl wlC_19) rfl hl.1 rfl (Nat.le_of_ble_eq_true rfl) dX5_isFree_13 ⟨Nat.zero_le _, Nat.zero_le _⟩ (fun H locs X => ?_)
    refine xb hf (fun z9 hz hf => ?_)
    obtain ⟨hn, rfl⟩ := ckZ_some hz
    cases hf
    exact xe_z hx hb hr hlocks X hn dX5_isFree_16
set_option maxRecDepth 100000 in
set_option maxHeartbeats 4000000 in
theorem eX5_isFree {l : Launch} {dd : va_G} {cy : Nat → ClassId} {ad : Nat → Nat} {A : Nat → Prop} {fu : Nat} {ts : Nat → Int32} {tc : Nat → Nat → Int32} {rk : Nat → Int32} {pl : Nat → Int32} {ru : Nat → Int64} {sl : Nat → Int32} {bg : Nat → Int32} {kn : Nat → Int64} {rm : Int32} {ol : Nat → Int64} {od : Nat → UInt64} {x1 : Int32} {E9 : String} {slo : Nat → Int32} {bgo : Nat → Int32} {kno : Nat → Int64} {rmo : Int32} (htr : l.stackTraces = false) (hf : fX5_isFree fu ts tc sl bg kn rm x1 = some (.error E9, slo, bgo, kno, rmo)) : vx_Met l yX5_isFree wsX5_isFree { frames := 7, cells := 1, slots := 6, locals := 120 } (va_Pc [.ref (ad 14), .int x1] (IT dd cy A (wlC ad cy ts tc rk pl ru sl bg kn rm ol od))) (fun _ _ _ _ => False) (XE dd cy A E9 (wlC ad cy ts tc rk pl ru slo bgo kno rmo ol od)) 1 6 A := by
  refine vx_ofW (cc := cX5_isFree) (maxL := 2) (ret := some .boolean) (by decide) rfl ?_
  intro p e s m args below meth c s₁ B hml hexc hv
  obtain ⟨hav, hI, hT⟩ := hv
  have hx := B.exec
  have hb := B.bytes
  have hr := B.returns
  have hts := atoms_spec (ws := wsX5_isFree) B.pre
  have hown : s.vm.findClass RX5 = some m.cls := findClass_of_methodNamed B.named
  have hlocks := B.notSynchronized
  have X := XW.of hI
  have h5 : ∀ w ∈ wsX50, w ∈ wsX5_isFree := by decide +kernel
  refine xe_in hav (Nat.le_of_ble_eq_true rfl) rfl (fun ls hl => ?_)
  rw [fX5_isFree] at hf
  refine lv_iload_n hx hb dX5_isFree_0 rfl (lv_at hl 1 rfl) ?_
  refine xb hf (fun v1 hv1 hf => ?_)
  refine exb_c hf (fun e9 h9 hf => ?_) (fun r2 h9 hf => ?_)
  · cases hf
    exact xt_S (rest := []) ⟨hx, hb, hml, hown, hts⟩ (eX5_requireSet htr (exo_s hv1 h9)) (va_cwS 1 hts gX5_isFree_X5_requireSet rfl rfl rfl hqX5_requireSet ⟨Nat.le_of_ble_eq_true rfl, Nat.le_of_ble_eq_true rfl⟩) X hT rfl hl.1 rfl (Nat.le_of_ble_eq_true rfl) dX5_isFree_1 ⟨Nat.le_of_ble_eq_true rfl, Nat.le_of_ble_eq_true rfl⟩ hexc hlocks
  · refine xc_S0 (rest := []) ⟨hx, hb, hml, hown, hts⟩ (mX5_requireSet (exo_s hv1 h9)) (va_cwS 1 hts gX5_isFree_X5_requireSet rfl rfl rfl hqX5_requireSet ⟨Nat.le_of_ble_eq_true rfl, Nat.le_of_ble_eq_true rfl⟩) X rfl hl.1 rfl (Nat.le_of_ble_eq_true rfl) dX5_isFree_1 ⟨Nat.zero_le _, Nat.zero_le _⟩ (fun H locs X => ?_)
    refine lv_aload_n hx hb dX5_isFree_4 rfl (lv_at hl 0 rfl) ?_
    refine xg_f hx hb hts hown X h5 14 wlC_14 rfl 3 (by decide) (by decide +kernel) (v := .ref (ad 19)) rfl dX5_isFree_5 ?_
    refine lv_aload_n hx hb dX5_isFree_8 rfl (lv_at hl 0 rfl) ?_
    refine xg_f hx hb hts hown X h5 14 wlC_14 rfl 0 (by decide) (by decide +kernel) (v := .ref (ad 15)) rfl dX5_isFree_9 ?_
    refine lv_iload_n hx hb dX5_isFree_12 rfl (lv_at hl 1 rfl) ?_
    refine xb hf (fun v3 hv hf => ?_)
    refine xc_V1 (rest := []) ⟨hx, hb, hml, hown, hts⟩ (mX2_areFree hv) (cwV 2 hts gX5_isFree_X2_areFree rfl rfl rfl hqX2_areFree ⟨Nat.le_of_ble_eq_true rfl, Nat.le_of_ble_eq_true rfl⟩) X (va_recv X.1 X.2.1 (ci := 3) (q0 := 19) rfl wlC_19) rfl hl.1 rfl (Nat.le_of_ble_eq_true rfl) dX5_isFree_13 ⟨Nat.zero_le _, Nat.zero_le _⟩ (fun H locs X => ?_)
    refine xb hf (fun z9 hz hf => ?_)
    obtain ⟨hn, rfl⟩ := ckZ_some hz
    cases hf
set_option maxRecDepth 100000 in
set_option maxHeartbeats 4000000 in
theorem mX5_rootShare {l : Launch} {dd : va_G} {cy : Nat → ClassId} {ad : Nat → Nat} {A : Nat → Prop} {fu : Nat} {ts : Nat → Int32} {tc : Nat → Nat → Int32} {rk : Nat → Int32} {pl : Nat → Int32} {ru : Nat → Int64} {sl : Nat → Int32} {bg : Nat → Int32} {kn : Nat → Int64} {rm : Int32} {ol : Nat → Int64} {od : Nat → UInt64} {x1 : Int32} {rv : UInt32} (hf : fX5_rootShare fu ts tc x1 = some (.ok rv)) : Met l yX5_rootShare wsX5_rootShare { frames := 4, cells := 0, slots := 0, locals := 99 } (va_Pc [.ref (ad 14), .int x1] (IW dd cy A (wlC ad cy ts tc rk pl ru sl bg kn rm ol od))) (QX dd cy A (some (.float rv)) (wlC ad cy ts tc rk pl ru sl bg kn rm ol od)) 0 0 A := by
  refine Met.ofW (cc := cX5_rootShare) (maxL := 3) (ret := some .float) (by decide) rfl ?_
  intro p e s m args below meth c s₁ B hml hv
  obtain ⟨hav, hI⟩ := hv
  have hx := B.exec
  have hb := B.bytes
  have hr := B.returns
  have hts := atoms_spec (ws := wsX5_rootShare) B.pre
  have hown : s.vm.findClass RX5 = some m.cls := findClass_of_methodNamed B.named
  have hlocks := B.notSynchronized
  have X := XW.of hI
  refine xe_in hav (Nat.le_of_ble_eq_true rfl) rfl (fun ls hl => ?_)
  rw [fX5_rootShare] at hf
  refine lv_aload_n hx hb dX5_rootShare_0 rfl (lv_at hl 0 rfl) ?_
  refine lv_iload_n hx hb dX5_rootShare_1 rfl (lv_at hl 1 rfl) ?_
  refine xb hf (fun v1 hv1 hf => ?_)
  refine exb_c hf (fun e9 h9 hf => ?_) (fun r2 h9 hf => ?_)
  · cases hf
  · have hr2 : r2 < 7 := fX5_textOf_lt (exo_s hv1 h9)
    refine xc_V1 (rest := []) ⟨hx, hb, hml, hown, hts⟩ (mX5_textOf (exo_s hv1 h9)) (cwV 1 hts gX5_rootShare_X5_textOf rfl rfl rfl hqX5_textOf ⟨Nat.le_of_ble_eq_true rfl, Nat.le_of_ble_eq_true rfl⟩) X (va_recv X.1 X.2.1 (ci := 1) (q0 := 14) rfl wlC_14) rfl hl.1 rfl (Nat.le_of_ble_eq_true rfl) dX5_rootShare_2 ⟨Nat.zero_le _, Nat.zero_le _⟩ (fun H locs X => ?_)
    refine lv_astore_n (lv' := [(2, .ref (ad r2)), (0, .ref (ad 14)), (1, .int x1)]) hx hb dX5_rootShare_5 rfl hl (by decide) rfl (fun ls hl => ?_)
    refine lv_aload_n hx hb dX5_rootShare_6 rfl (lv_at hl 0 rfl) ?_
    refine xb hf (fun v3 hv hf => ?_)
    refine xc_V1 (rest := []) ⟨hx, hb, hml, hown, hts⟩ (mX4_isEmpty hr2 hv) (cwV 0 hts gX5_rootShare_X4_isEmpty rfl rfl rfl hqX4_isEmpty ⟨Nat.le_of_ble_eq_true rfl, Nat.le_of_ble_eq_true rfl⟩) X (va_recv X.1 X.2.1 (ci := 0) (q0 := r2) rfl (wlC_t hr2)) rfl hl.1 rfl (Nat.le_of_ble_eq_true rfl) dX5_rootShare_7 ⟨Nat.zero_le _, Nat.zero_le _⟩ (fun H locs X => ?_)
    refine xr_if_eq (tgt := 23) hx hb dX5_rootShare_10 rfl hf (fun hf => ?_) (fun hf => ?_)
    · refine lv_aload_n hx hb dX5_rootShare_23 rfl (lv_at hl 0 rfl) ?_
      refine xb hf (fun v4 hv hf => ?_)
      refine xc_V1 (rest := []) ⟨hx, hb, hml, hown, hts⟩ (mX4_rootSize hr2 hv) (cwV 0 hts gX5_rootShare_X4_rootSize rfl rfl rfl hqX4_rootSize ⟨Nat.le_of_ble_eq_true rfl, Nat.le_of_ble_eq_true rfl⟩) X (va_recv X.1 X.2.1 (ci := 0) (q0 := r2) rfl (wlC_t hr2)) rfl hl.1 rfl (Nat.le_of_ble_eq_true rfl) dX5_rootShare_24 ⟨Nat.zero_le _, Nat.zero_le _⟩ (fun H locs X => ?_)
      refine lv_i2f hx hb dX5_rootShare_27 ?_
      refine lv_aload_n hx hb dX5_rootShare_28 rfl (lv_at hl 0 rfl) ?_
      refine xb hf (fun v5 hv hf => ?_)
      refine xc_V1 (rest := [.float (FP.i2f v4)]) ⟨hx, hb, hml, hown, hts⟩ (mX4_size hr2 hv) (cwV 0 hts gX5_rootShare_X4_size rfl rfl rfl hqX4_size ⟨Nat.le_of_ble_eq_true rfl, Nat.le_of_ble_eq_true rfl⟩) X (va_recv X.1 X.2.1 (ci := 0) (q0 := r2) rfl (wlC_t hr2)) rfl hl.1 rfl (Nat.le_of_ble_eq_true rfl) dX5_rootShare_29 ⟨Nat.zero_le _, Nat.zero_le _⟩ (fun H locs X => ?_)
      refine lv_i2f hx hb dX5_rootShare_32 ?_
      refine xr_fdiv hx hb dX5_rootShare_33 hf (fun v6 hf => ?_)
      cases hf
      exact xe_f hx hb hr hlocks X dX5_rootShare_34
    · cases hf
set_option maxRecDepth 100000 in
set_option maxHeartbeats 4000000 in
theorem eX5_rootShare {l : Launch} {dd : va_G} {cy : Nat → ClassId} {ad : Nat → Nat} {A : Nat → Prop} {fu : Nat} {ts : Nat → Int32} {tc : Nat → Nat → Int32} {rk : Nat → Int32} {pl : Nat → Int32} {ru : Nat → Int64} {sl : Nat → Int32} {bg : Nat → Int32} {kn : Nat → Int64} {rm : Int32} {ol : Nat → Int64} {od : Nat → UInt64} {x1 : Int32} {E9 : String} (htr : l.stackTraces = false) (hf : fX5_rootShare fu ts tc x1 = some (.error E9)) : vx_Met l yX5_rootShare wsX5_rootShare { frames := 7, cells := 1, slots := 6, locals := 121 } (va_Pc [.ref (ad 14), .int x1] (IT dd cy A (wlC ad cy ts tc rk pl ru sl bg kn rm ol od))) (fun _ _ _ _ => False) (XE dd cy A E9 (wlC ad cy ts tc rk pl ru sl bg kn rm ol od)) 1 6 A := by
  refine vx_ofW (cc := cX5_rootShare) (maxL := 3) (ret := some .float) (by decide) rfl ?_
  intro p e s m args below meth c s₁ B hml hexc hv
  obtain ⟨hav, hI, hT⟩ := hv
  have hx := B.exec
  have hb := B.bytes
  have hr := B.returns
  have hts := atoms_spec (ws := wsX5_rootShare) B.pre
  have hown : s.vm.findClass RX5 = some m.cls := findClass_of_methodNamed B.named
  have hlocks := B.notSynchronized
  have X := XW.of hI
  refine xe_in hav (Nat.le_of_ble_eq_true rfl) rfl (fun ls hl => ?_)
  rw [fX5_rootShare] at hf
  refine lv_aload_n hx hb dX5_rootShare_0 rfl (lv_at hl 0 rfl) ?_
  refine lv_iload_n hx hb dX5_rootShare_1 rfl (lv_at hl 1 rfl) ?_
  refine xb hf (fun v1 hv1 hf => ?_)
  refine exb_c hf (fun e9 h9 hf => ?_) (fun r2 h9 hf => ?_)
  · cases hf
    exact xt_V (rest := []) ⟨hx, hb, hml, hown, hts⟩ (eX5_textOf htr (exo_s hv1 h9)) (cwV 1 hts gX5_rootShare_X5_textOf rfl rfl rfl hqX5_textOf ⟨Nat.le_of_ble_eq_true rfl, Nat.le_of_ble_eq_true rfl⟩) X hT (va_recv X.1 X.2.1 (ci := 1) (q0 := 14) rfl wlC_14) rfl hl.1 rfl (Nat.le_of_ble_eq_true rfl) dX5_rootShare_2 ⟨Nat.le_of_ble_eq_true rfl, Nat.le_of_ble_eq_true rfl⟩ hexc hlocks
  · have hr2 : r2 < 7 := fX5_textOf_lt (exo_s hv1 h9)
    refine xc_V1 (rest := []) ⟨hx, hb, hml, hown, hts⟩ (mX5_textOf (exo_s hv1 h9)) (cwV 1 hts gX5_rootShare_X5_textOf rfl rfl rfl hqX5_textOf ⟨Nat.le_of_ble_eq_true rfl, Nat.le_of_ble_eq_true rfl⟩) X (va_recv X.1 X.2.1 (ci := 1) (q0 := 14) rfl wlC_14) rfl hl.1 rfl (Nat.le_of_ble_eq_true rfl) dX5_rootShare_2 ⟨Nat.zero_le _, Nat.zero_le _⟩ (fun H locs X => ?_)
    refine lv_astore_n (lv' := [(2, .ref (ad r2)), (0, .ref (ad 14)), (1, .int x1)]) hx hb dX5_rootShare_5 rfl hl (by decide) rfl (fun ls hl => ?_)
    refine lv_aload_n hx hb dX5_rootShare_6 rfl (lv_at hl 0 rfl) ?_
    refine xb hf (fun v3 hv hf => ?_)
    refine xc_V1 (rest := []) ⟨hx, hb, hml, hown, hts⟩ (mX4_isEmpty hr2 hv) (cwV 0 hts gX5_rootShare_X4_isEmpty rfl rfl rfl hqX4_isEmpty ⟨Nat.le_of_ble_eq_true rfl, Nat.le_of_ble_eq_true rfl⟩) X (va_recv X.1 X.2.1 (ci := 0) (q0 := r2) rfl (wlC_t hr2)) rfl hl.1 rfl (Nat.le_of_ble_eq_true rfl) dX5_rootShare_7 ⟨Nat.zero_le _, Nat.zero_le _⟩ (fun H locs X => ?_)
    refine xr_if_eq (tgt := 23) hx hb dX5_rootShare_10 rfl hf (fun hf => ?_) (fun hf => ?_)
    · refine lv_aload_n hx hb dX5_rootShare_23 rfl (lv_at hl 0 rfl) ?_
      refine xb hf (fun v4 hv hf => ?_)
      refine xc_V1 (rest := []) ⟨hx, hb, hml, hown, hts⟩ (mX4_rootSize hr2 hv) (cwV 0 hts gX5_rootShare_X4_rootSize rfl rfl rfl hqX4_rootSize ⟨Nat.le_of_ble_eq_true rfl, Nat.le_of_ble_eq_true rfl⟩) X (va_recv X.1 X.2.1 (ci := 0) (q0 := r2) rfl (wlC_t hr2)) rfl hl.1 rfl (Nat.le_of_ble_eq_true rfl) dX5_rootShare_24 ⟨Nat.zero_le _, Nat.zero_le _⟩ (fun H locs X => ?_)
      refine lv_i2f hx hb dX5_rootShare_27 ?_
      refine lv_aload_n hx hb dX5_rootShare_28 rfl (lv_at hl 0 rfl) ?_
      refine xb hf (fun v5 hv hf => ?_)
      refine xc_V1 (rest := [.float (FP.i2f v4)]) ⟨hx, hb, hml, hown, hts⟩ (mX4_size hr2 hv) (cwV 0 hts gX5_rootShare_X4_size rfl rfl rfl hqX4_size ⟨Nat.le_of_ble_eq_true rfl, Nat.le_of_ble_eq_true rfl⟩) X (va_recv X.1 X.2.1 (ci := 0) (q0 := r2) rfl (wlC_t hr2)) rfl hl.1 rfl (Nat.le_of_ble_eq_true rfl) dX5_rootShare_29 ⟨Nat.zero_le _, Nat.zero_le _⟩ (fun H locs X => ?_)
      refine lv_i2f hx hb dX5_rootShare_32 ?_
      refine xr_fdiv hx hb dX5_rootShare_33 hf (fun v6 hf => ?_)
      cases hf
    · cases hf
      exact xt_throw (rest := []) (text := "an empty text has no root") hx hb htr hown hts hT X (by decide +kernel) (by decide +kernel) (by decide +kernel) (by decide +kernel) (by decide +kernel) (by decide +kernel) th_hn_227 th_hot_223_227 (hl.1.trans hml.symm) dX5_rootShare_13 dX5_rootShare_16 dX5_rootShare_17 dX5_rootShare_19 dX5_rootShare_22 hexc (Nat.le_of_ble_eq_true rfl) (Nat.le_of_ble_eq_true rfl) (Nat.le_of_ble_eq_true rfl) (Nat.le_of_ble_eq_true rfl) hlocks
set_option maxRecDepth 100000 in
set_option maxHeartbeats 4000000 in
theorem mX5_meanPeriod {l : Launch} {dd : va_G} {cy : Nat → ClassId} {ad : Nat → Nat} {A : Nat → Prop} {fu : Nat} {ts : Nat → Int32} {tc : Nat → Nat → Int32} {rk : Nat → Int32} {pl : Nat → Int32} {ru : Nat → Int64} {sl : Nat → Int32} {bg : Nat → Int32} {kn : Nat → Int64} {rm : Int32} {ol : Nat → Int64} {od : Nat → UInt64} {x1 : Int32} {rv : UInt64} (hf : fX5_meanPeriod fu ts tc x1 = some (.ok rv)) : Met l yX5_meanPeriod wsX5_meanPeriod { frames := 4, cells := 0, slots := 0, locals := 100 } (va_Pc [.ref (ad 14), .int x1] (IW dd cy A (wlC ad cy ts tc rk pl ru sl bg kn rm ol od))) (QX dd cy A (some (.double rv)) (wlC ad cy ts tc rk pl ru sl bg kn rm ol od)) 0 0 A := by
  refine Met.ofW (cc := cX5_meanPeriod) (maxL := 4) (ret := some .double) (by decide) rfl ?_
  intro p e s m args below meth c s₁ B hml hv
  obtain ⟨hav, hI⟩ := hv
  have hx := B.exec
  have hb := B.bytes
  have hr := B.returns
  have hts := atoms_spec (ws := wsX5_meanPeriod) B.pre
  have hown : s.vm.findClass RX5 = some m.cls := findClass_of_methodNamed B.named
  have hlocks := B.notSynchronized
  have X := XW.of hI
  refine xe_in hav (Nat.le_of_ble_eq_true rfl) rfl (fun ls hl => ?_)
  rw [fX5_meanPeriod] at hf
  refine lv_aload_n hx hb dX5_meanPeriod_0 rfl (lv_at hl 0 rfl) ?_
  refine lv_iload_n hx hb dX5_meanPeriod_1 rfl (lv_at hl 1 rfl) ?_
  refine xb hf (fun v1 hv1 hf => ?_)
  refine exb_c hf (fun e9 h9 hf => ?_) (fun r2 h9 hf => ?_)
  · cases hf
  · have hr2 : r2 < 7 := fX5_textOf_lt (exo_s hv1 h9)
    refine xc_V1 (rest := []) ⟨hx, hb, hml, hown, hts⟩ (mX5_textOf (exo_s hv1 h9)) (cwV 1 hts gX5_meanPeriod_X5_textOf rfl rfl rfl hqX5_textOf ⟨Nat.le_of_ble_eq_true rfl, Nat.le_of_ble_eq_true rfl⟩) X (va_recv X.1 X.2.1 (ci := 1) (q0 := 14) rfl wlC_14) rfl hl.1 rfl (Nat.le_of_ble_eq_true rfl) dX5_meanPeriod_2 ⟨Nat.zero_le _, Nat.zero_le _⟩ (fun H locs X => ?_)
    refine lv_astore_n (lv' := [(2, .ref (ad r2)), (0, .ref (ad 14)), (1, .int x1)]) hx hb dX5_meanPeriod_5 rfl hl (by decide) rfl (fun ls hl => ?_)
    refine lv_aload_n hx hb dX5_meanPeriod_6 rfl (lv_at hl 0 rfl) ?_
    refine xb hf (fun v3 hv hf => ?_)
    refine xc_V1 (rest := []) ⟨hx, hb, hml, hown, hts⟩ (mX4_countPeriods hr2 hv) (cwV 0 hts gX5_meanPeriod_X4_countPeriods rfl rfl rfl hqX4_countPeriods ⟨Nat.le_of_ble_eq_true rfl, Nat.le_of_ble_eq_true rfl⟩) X (va_recv X.1 X.2.1 (ci := 0) (q0 := r2) rfl (wlC_t hr2)) rfl hl.1 rfl (Nat.le_of_ble_eq_true rfl) dX5_meanPeriod_7 ⟨Nat.zero_le _, Nat.zero_le _⟩ (fun H locs X => ?_)
    refine lv_istore_n (lv' := [(3, .int v3), (2, .ref (ad r2)), (0, .ref (ad 14)), (1, .int x1)]) hx hb dX5_meanPeriod_10 rfl hl (by decide) rfl (fun ls hl => ?_)
    refine lv_iload_n hx hb dX5_meanPeriod_11 rfl (lv_at hl 0 rfl) ?_
    refine xr_if_ne (tgt := 25) hx hb dX5_meanPeriod_12 rfl hf (fun hf => ?_) (fun hf => ?_)
    · refine lv_aload_n hx hb dX5_meanPeriod_25 rfl (lv_at hl 1 rfl) ?_
      refine xb hf (fun v4 hv hf => ?_)
      refine xc_V1 (rest := []) ⟨hx, hb, hml, hown, hts⟩ (mX4_sumPeriods hr2 hv) (cwV 0 hts gX5_meanPeriod_X4_sumPeriods rfl rfl rfl hqX4_sumPeriods ⟨Nat.le_of_ble_eq_true rfl, Nat.le_of_ble_eq_true rfl⟩) X (va_recv X.1 X.2.1 (ci := 0) (q0 := r2) rfl (wlC_t hr2)) rfl hl.1 rfl (Nat.le_of_ble_eq_true rfl) dX5_meanPeriod_26 ⟨Nat.zero_le _, Nat.zero_le _⟩ (fun H locs X => ?_)
      refine lv_i2d hx hb dX5_meanPeriod_29 ?_
      refine lv_iload_n hx hb dX5_meanPeriod_30 rfl (lv_at hl 0 rfl) ?_
      refine lv_i2d hx hb dX5_meanPeriod_31 ?_
      refine xr_ddiv hx hb dX5_meanPeriod_32 hf (fun v5 hf => ?_)
      cases hf
      exact xe_d hx hb hr hlocks X dX5_meanPeriod_33
    · cases hf
set_option maxRecDepth 100000 in
set_option maxHeartbeats 4000000 in
theorem eX5_meanPeriod {l : Launch} {dd : va_G} {cy : Nat → ClassId} {ad : Nat → Nat} {A : Nat → Prop} {fu : Nat} {ts : Nat → Int32} {tc : Nat → Nat → Int32} {rk : Nat → Int32} {pl : Nat → Int32} {ru : Nat → Int64} {sl : Nat → Int32} {bg : Nat → Int32} {kn : Nat → Int64} {rm : Int32} {ol : Nat → Int64} {od : Nat → UInt64} {x1 : Int32} {E9 : String} (htr : l.stackTraces = false) (hf : fX5_meanPeriod fu ts tc x1 = some (.error E9)) : vx_Met l yX5_meanPeriod wsX5_meanPeriod { frames := 7, cells := 1, slots := 6, locals := 121 } (va_Pc [.ref (ad 14), .int x1] (IT dd cy A (wlC ad cy ts tc rk pl ru sl bg kn rm ol od))) (fun _ _ _ _ => False) (XE dd cy A E9 (wlC ad cy ts tc rk pl ru sl bg kn rm ol od)) 1 6 A := by
  refine vx_ofW (cc := cX5_meanPeriod) (maxL := 4) (ret := some .double) (by decide) rfl ?_
  intro p e s m args below meth c s₁ B hml hexc hv
  obtain ⟨hav, hI, hT⟩ := hv
  have hx := B.exec
  have hb := B.bytes
  have hr := B.returns
  have hts := atoms_spec (ws := wsX5_meanPeriod) B.pre
  have hown : s.vm.findClass RX5 = some m.cls := findClass_of_methodNamed B.named
  have hlocks := B.notSynchronized
  have X := XW.of hI
  refine xe_in hav (Nat.le_of_ble_eq_true rfl) rfl (fun ls hl => ?_)
  rw [fX5_meanPeriod] at hf
  refine lv_aload_n hx hb dX5_meanPeriod_0 rfl (lv_at hl 0 rfl) ?_
  refine lv_iload_n hx hb dX5_meanPeriod_1 rfl (lv_at hl 1 rfl) ?_
  refine xb hf (fun v1 hv1 hf => ?_)
  refine exb_c hf (fun e9 h9 hf => ?_) (fun r2 h9 hf => ?_)
  · cases hf
    exact xt_V (rest := []) ⟨hx, hb, hml, hown, hts⟩ (eX5_textOf htr (exo_s hv1 h9)) (cwV 1 hts gX5_meanPeriod_X5_textOf rfl rfl rfl hqX5_textOf ⟨Nat.le_of_ble_eq_true rfl, Nat.le_of_ble_eq_true rfl⟩) X hT (va_recv X.1 X.2.1 (ci := 1) (q0 := 14) rfl wlC_14) rfl hl.1 rfl (Nat.le_of_ble_eq_true rfl) dX5_meanPeriod_2 ⟨Nat.le_of_ble_eq_true rfl, Nat.le_of_ble_eq_true rfl⟩ hexc hlocks
  · have hr2 : r2 < 7 := fX5_textOf_lt (exo_s hv1 h9)
    refine xc_V1 (rest := []) ⟨hx, hb, hml, hown, hts⟩ (mX5_textOf (exo_s hv1 h9)) (cwV 1 hts gX5_meanPeriod_X5_textOf rfl rfl rfl hqX5_textOf ⟨Nat.le_of_ble_eq_true rfl, Nat.le_of_ble_eq_true rfl⟩) X (va_recv X.1 X.2.1 (ci := 1) (q0 := 14) rfl wlC_14) rfl hl.1 rfl (Nat.le_of_ble_eq_true rfl) dX5_meanPeriod_2 ⟨Nat.zero_le _, Nat.zero_le _⟩ (fun H locs X => ?_)
    refine lv_astore_n (lv' := [(2, .ref (ad r2)), (0, .ref (ad 14)), (1, .int x1)]) hx hb dX5_meanPeriod_5 rfl hl (by decide) rfl (fun ls hl => ?_)
    refine lv_aload_n hx hb dX5_meanPeriod_6 rfl (lv_at hl 0 rfl) ?_
    refine xb hf (fun v3 hv hf => ?_)
    refine xc_V1 (rest := []) ⟨hx, hb, hml, hown, hts⟩ (mX4_countPeriods hr2 hv) (cwV 0 hts gX5_meanPeriod_X4_countPeriods rfl rfl rfl hqX4_countPeriods ⟨Nat.le_of_ble_eq_true rfl, Nat.le_of_ble_eq_true rfl⟩) X (va_recv X.1 X.2.1 (ci := 0) (q0 := r2) rfl (wlC_t hr2)) rfl hl.1 rfl (Nat.le_of_ble_eq_true rfl) dX5_meanPeriod_7 ⟨Nat.zero_le _, Nat.zero_le _⟩ (fun H locs X => ?_)
    refine lv_istore_n (lv' := [(3, .int v3), (2, .ref (ad r2)), (0, .ref (ad 14)), (1, .int x1)]) hx hb dX5_meanPeriod_10 rfl hl (by decide) rfl (fun ls hl => ?_)
    refine lv_iload_n hx hb dX5_meanPeriod_11 rfl (lv_at hl 0 rfl) ?_
    refine xr_if_ne (tgt := 25) hx hb dX5_meanPeriod_12 rfl hf (fun hf => ?_) (fun hf => ?_)
    · refine lv_aload_n hx hb dX5_meanPeriod_25 rfl (lv_at hl 1 rfl) ?_
      refine xb hf (fun v4 hv hf => ?_)
      refine xc_V1 (rest := []) ⟨hx, hb, hml, hown, hts⟩ (mX4_sumPeriods hr2 hv) (cwV 0 hts gX5_meanPeriod_X4_sumPeriods rfl rfl rfl hqX4_sumPeriods ⟨Nat.le_of_ble_eq_true rfl, Nat.le_of_ble_eq_true rfl⟩) X (va_recv X.1 X.2.1 (ci := 0) (q0 := r2) rfl (wlC_t hr2)) rfl hl.1 rfl (Nat.le_of_ble_eq_true rfl) dX5_meanPeriod_26 ⟨Nat.zero_le _, Nat.zero_le _⟩ (fun H locs X => ?_)
      refine lv_i2d hx hb dX5_meanPeriod_29 ?_
      refine lv_iload_n hx hb dX5_meanPeriod_30 rfl (lv_at hl 0 rfl) ?_
      refine lv_i2d hx hb dX5_meanPeriod_31 ?_
      refine xr_ddiv hx hb dX5_meanPeriod_32 hf (fun v5 hf => ?_)
      cases hf
    · cases hf
      exact xt_throw (rest := []) (text := "an empty text has no period") hx hb htr hown hts hT X (by decide +kernel) (by decide +kernel) (by decide +kernel) (by decide +kernel) (by decide +kernel) (by decide +kernel) th_hn_227 th_hot_223_227 (hl.1.trans hml.symm) dX5_meanPeriod_15 dX5_meanPeriod_18 dX5_meanPeriod_19 dX5_meanPeriod_21 dX5_meanPeriod_24 hexc (Nat.le_of_ble_eq_true rfl) (Nat.le_of_ble_eq_true rfl) (Nat.le_of_ble_eq_true rfl) (Nat.le_of_ble_eq_true rfl) hlocks
set_option maxRecDepth 100000 in
set_option maxHeartbeats 4000000 in
theorem mX5_checksum {l : Launch} {dd : va_G} {cy : Nat → ClassId} {ad : Nat → Nat} {A : Nat → Prop} {fu : Nat} {ts : Nat → Int32} {tc : Nat → Nat → Int32} {rk : Nat → Int32} {pl : Nat → Int32} {ru : Nat → Int64} {sl : Nat → Int32} {bg : Nat → Int32} {kn : Nat → Int64} {rm : Int32} {ol : Nat → Int64} {od : Nat → UInt64} {rv : Int64} (hf : fX5_checksum fu ts tc = some rv) : Met l yX5_checksum wsX5_checksum { frames := 4, cells := 0, slots := 0, locals := 100 } (va_Pc [.ref (ad 14)] (IW dd cy A (wlC ad cy ts tc rk pl ru sl bg kn rm ol od))) (QX dd cy A (some (.long rv)) (wlC ad cy ts tc rk pl ru sl bg kn rm ol od)) 0 0 A := by
  refine Met.ofW (cc := cX5_checksum) (maxL := 5) (ret := some .long) (by decide) rfl ?_
  intro p e s m args below meth c s₁ B hml hv
  obtain ⟨hav, hI⟩ := hv
  have hx := B.exec
  have hb := B.bytes
  have hr := B.returns
  have hts := atoms_spec (ws := wsX5_checksum) B.pre
  have hown : s.vm.findClass RX5 = some m.cls := findClass_of_methodNamed B.named
  have hlocks := B.notSynchronized
  have X := XW.of hI
  have h5 : ∀ w ∈ wsX50, w ∈ wsX5_checksum := by decide +kernel
  refine xe_in hav (Nat.le_of_ble_eq_true rfl) rfl (fun ls hl => ?_)
  have w6 : ∀ (n : Nat) (y1 : Int64) (y3 : Int32), fX5_checksum_6 fu ts tc n y1 y3 = some rv → ∀ (H : Heap) (locs : List Loc) (ls : Array Slot), XW dd cy A s (wlC ad cy ts tc rk pl ru sl bg kn rm ol od) H locs → lv_has ls 5 [(0, .ref (ad 14)), (1, .long y1), (3, .int y3)] → W p l e (headSpec wsX5_checksum { frames := 4, cells := 0, slots := 0, locals := 100 }).room s m args below meth c H locs 0 0 (MQ below (QX dd cy A (some (.long rv)) (wlC ad cy ts tc rk pl ru sl bg kn rm ol od)) args s 0 0 A) (F0 m 6 ls []) := by
    intro n
    induction n with
    | zero => intro y1 y3 hf; exact absurd hf (by simp [fX5_checksum_6])
    | succ n ih =>
      intro y1 y3 hf H locs ls X hl
      rw [fX5_checksum_6] at hf
      refine lv_iload_n hx hb dX5_checksum_6 rfl (lv_at hl 2 rfl) ?_
      refine lv_bipush (v := (6 : Int32)) hx hb dX5_checksum_7 rfl ?_
      refine xr_icmp_ge (tgt := 66) hx hb dX5_checksum_9 rfl hf (fun hf => ?_) (fun hf => ?_)
      · refine lv_lload_n hx hb dX5_checksum_66 rfl (lv_at hl 1 rfl) ?_
        cases hf
        exact xe_l hx hb hr hlocks X dX5_checksum_67
      · refine lv_aload_n hx hb dX5_checksum_12 rfl (lv_at hl 0 rfl) ?_
        refine xg_f hx hb hts hown X h5 14 wlC_14 rfl 0 (by decide) (by decide +kernel) (v := .ref (ad 15)) rfl dX5_checksum_13 ?_
        refine lv_iload_n hx hb dX5_checksum_16 rfl (lv_at hl 2 rfl) ?_
        refine xa_text hx hb X wlC_15 dX5_checksum_17 hf (fun a1 ha1 hf => ?_)
        refine lv_astore (lv' := [(4, .ref (ad a1)), (0, .ref (ad 14)), (1, .long y1), (3, .int y3)]) hx hb dX5_checksum_18 hl (by decide) rfl (fun ls hl => ?_)
        refine lv_lload_n hx hb dX5_checksum_20 rfl (lv_at hl 2 rfl) ?_
        refine lv_ldc2 (v := (31 : Int64)) hx hb hown (hts (.constantLong RX5 235 (31)) (by decide +kernel)) dX5_checksum_21 ?_
        refine lv_lmul hx hb dX5_checksum_24 ?_
        refine lv_aload hx hb dX5_checksum_25 (lv_at hl 0 rfl) ?_
        refine xb hf (fun v2 hv hf => ?_)
        refine xc_V1 (rest := [.long (y1 * (31 : Int64))]) ⟨hx, hb, hml, hown, hts⟩ (mX4_size ha1 hv) (cwV 0 hts gX5_checksum_X4_size rfl rfl rfl hqX4_size ⟨Nat.le_of_ble_eq_true rfl, Nat.le_of_ble_eq_true rfl⟩) X (va_recv X.1 X.2.1 (ci := 0) (q0 := a1) rfl (wlC_t ha1)) rfl hl.1 rfl (Nat.le_of_ble_eq_true rfl) dX5_checksum_27 ⟨Nat.zero_le _, Nat.zero_le _⟩ (fun H locs X => ?_)
        refine lv_i2l (v := (v2.toInt64)) hx hb dX5_checksum_30 rfl ?_
        refine lv_ladd hx hb dX5_checksum_31 ?_
        refine lv_lstore_n (lv' := [(1, .long ((y1 * (31 : Int64)) + (v2.toInt64))), (4, .ref (ad a1)), (0, .ref (ad 14)), (3, .int y3)]) hx hb dX5_checksum_32 rfl hl (by decide) rfl (fun ls hl => ?_)
        refine lv_lload_n hx hb dX5_checksum_33 rfl (lv_at hl 0 rfl) ?_
        refine lv_ldc2 (v := (31 : Int64)) hx hb hown (hts (.constantLong RX5 235 (31)) (by decide +kernel)) dX5_checksum_34 ?_
        refine lv_lmul hx hb dX5_checksum_37 ?_
        refine lv_aload hx hb dX5_checksum_38 (lv_at hl 1 rfl) ?_
        refine lv_iconst (v := (0 : Int32)) hx hb dX5_checksum_40 rfl ?_
        refine xb hf (fun v3 hv hf => ?_)
        refine xc_V1 (rest := [.long (((y1 * (31 : Int64)) + (v2.toInt64)) * (31 : Int64))]) ⟨hx, hb, hml, hown, hts⟩ (mX4_hashFrom ha1 hv) (cwV 1 hts gX5_checksum_X4_hashFrom rfl rfl rfl hqX4_hashFrom ⟨Nat.le_of_ble_eq_true rfl, Nat.le_of_ble_eq_true rfl⟩) X (va_recv X.1 X.2.1 (ci := 0) (q0 := a1) rfl (wlC_t ha1)) rfl hl.1 rfl (Nat.le_of_ble_eq_true rfl) dX5_checksum_41 ⟨Nat.zero_le _, Nat.zero_le _⟩ (fun H locs X => ?_)
        refine lv_i2l (v := (v3.toInt64)) hx hb dX5_checksum_44 rfl ?_
        refine lv_ladd hx hb dX5_checksum_45 ?_
        refine lv_lstore_n (lv' := [(1, .long ((((y1 * (31 : Int64)) + (v2.toInt64)) * (31 : Int64)) + (v3.toInt64))), (4, .ref (ad a1)), (0, .ref (ad 14)), (3, .int y3)]) hx hb dX5_checksum_46 rfl hl (by decide) rfl (fun ls hl => ?_)
        refine lv_lload_n hx hb dX5_checksum_47 rfl (lv_at hl 0 rfl) ?_
        refine lv_ldc2 (v := (31 : Int64)) hx hb hown (hts (.constantLong RX5 235 (31)) (by decide +kernel)) dX5_checksum_48 ?_
        refine lv_lmul hx hb dX5_checksum_51 ?_
        refine lv_aload hx hb dX5_checksum_52 (lv_at hl 1 rfl) ?_
        refine xb hf (fun v4 hv hf => ?_)
        refine xc_V1 (rest := [.long (((((y1 * (31 : Int64)) + (v2.toInt64)) * (31 : Int64)) + (v3.toInt64)) * (31 : Int64))]) ⟨hx, hb, hml, hown, hts⟩ (mX4_countPeriods ha1 hv) (cwV 0 hts gX5_checksum_X4_countPeriods rfl rfl rfl hqX4_countPeriods ⟨Nat.le_of_ble_eq_true rfl, Nat.le_of_ble_eq_true rfl⟩) X (va_recv X.1 X.2.1 (ci := 0) (q0 := a1) rfl (wlC_t ha1)) rfl hl.1 rfl (Nat.le_of_ble_eq_true rfl) dX5_checksum_54 ⟨Nat.zero_le _, Nat.zero_le _⟩ (fun H locs X => ?_)
        refine lv_i2l (v := (v4.toInt64)) hx hb dX5_checksum_57 rfl ?_
        refine lv_ladd hx hb dX5_checksum_58 ?_
        refine lv_lstore_n (lv' := [(1, .long ((((((y1 * (31 : Int64)) + (v2.toInt64)) * (31 : Int64)) + (v3.toInt64)) * (31 : Int64)) + (v4.toInt64))), (4, .ref (ad a1)), (0, .ref (ad 14)), (3, .int y3)]) hx hb dX5_checksum_59 rfl hl (by decide) rfl (fun ls hl => ?_)
        refine lv_iinc (v := (y3 + 1)) (lv' := [(3, .int (y3 + 1)), (1, .long ((((((y1 * (31 : Int64)) + (v2.toInt64)) * (31 : Int64)) + (v3.toInt64)) * (31 : Int64)) + (v4.toInt64))), (4, .ref (ad a1)), (0, .ref (ad 14))]) hx hb dX5_checksum_60 hl (k := 3) rfl ii_1 (by decide) rfl (fun ls hl => ?_)
        refine lv_goto (tgt := 6) hx hb dX5_checksum_63 rfl ?_
        exact ih ((((((y1 * (31 : Int64)) + (v2.toInt64)) * (31 : Int64)) + (v3.toInt64)) * (31 : Int64)) + (v4.toInt64)) (y3 + 1) hf _ _ _ X (lv_sub hl [3, 1, 0] rfl)
  rw [fX5_checksum] at hf
  refine lv_ldc2 (v := (7 : Int64)) hx hb hown (hts (.constantLong RX5 233 (7)) (by decide +kernel)) dX5_checksum_0 ?_
  refine lv_lstore_n (lv' := [(1, .long (7 : Int64)), (0, .ref (ad 14))]) hx hb dX5_checksum_3 rfl hl (by decide) rfl (fun ls hl => ?_)
  refine lv_iconst (v := (0 : Int32)) hx hb dX5_checksum_4 rfl ?_
  refine lv_istore_n (lv' := [(3, .int (0 : Int32)), (1, .long (7 : Int64)), (0, .ref (ad 14))]) hx hb dX5_checksum_5 rfl hl (by decide) rfl (fun ls hl => ?_)
  exact w6 fu (7 : Int64) (0 : Int32) hf _ _ _ X (lv_sub hl [2, 1, 0] rfl)
set_option maxRecDepth 100000 in
set_option maxHeartbeats 4000000 in
theorem mX5_isTrue {l : Launch} {dd : va_G} {cy : Nat → ClassId} {ad : Nat → Nat} {A : Nat → Prop} {fu : Nat} {ts : Nat → Int32} {tc : Nat → Nat → Int32} {rk : Nat → Int32} {pl : Nat → Int32} {ru : Nat → Int64} {sl : Nat → Int32} {bg : Nat → Int32} {kn : Nat → Int64} {rm : Int32} {ol : Nat → Int64} {od : Nat → UInt64} {rv : Int32} (hf : fX5_isTrue fu ts tc = some rv) : Met l yX5_isTrue wsX5_isTrue { frames := 6, cells := 0, slots := 0, locals := 143 } (va_Pc [.ref (ad 14)] (IW dd cy A (wlC ad cy ts tc rk pl ru sl bg kn rm ol od))) (QX dd cy A (some (.int rv)) (wlC ad cy ts tc rk pl ru sl bg kn rm ol od)) 0 0 A := by
  refine Met.ofW (cc := cX5_isTrue) (maxL := 3) (ret := some .boolean) (by decide) rfl ?_
  intro p e s m args below meth c s₁ B hml hv
  obtain ⟨hav, hI⟩ := hv
  have hx := B.exec
  have hb := B.bytes
  have hr := B.returns
  have hts := atoms_spec (ws := wsX5_isTrue) B.pre
  have hown : s.vm.findClass RX5 = some m.cls := findClass_of_methodNamed B.named
  have hlocks := B.notSynchronized
  have X := XW.of hI
  have h5 : ∀ w ∈ wsX50, w ∈ wsX5_isTrue := by decide +kernel
  refine xe_in hav (Nat.le_of_ble_eq_true rfl) rfl (fun ls hl => ?_)
  have w24 : ∀ (y1 : Int32) (k2 : Int32 → Option (Int32)) (hk2 : ∀ (zy1 : Int32), k2 zy1 = some rv → ∀ (H : Heap) (locs : List Loc) (ls : Array Slot), XW dd cy A s (wlC ad cy ts tc rk pl ru sl bg kn rm ol od) H locs → lv_has ls 3 [(0, .ref (ad 14)), (1, .int zy1)] → W p l e (headSpec wsX5_isTrue { frames := 6, cells := 0, slots := 0, locals := 143 }).room s m args below meth c H locs 0 0 (MQ below (QX dd cy A (some (.int rv)) (wlC ad cy ts tc rk pl ru sl bg kn rm ol od)) args s 0 0 A) (F0 m 2 ls [])) (n : Nat) (y2 : Int32), fX5_isTrue_24 fu ts tc y1 k2 n y2 = some rv → ∀ (H : Heap) (locs : List Loc) (ls : Array Slot), XW dd cy A s (wlC ad cy ts tc rk pl ru sl bg kn rm ol od) H locs → lv_has ls 3 [(0, .ref (ad 14)), (1, .int y1), (2, .int y2)] → W p l e (headSpec wsX5_isTrue { frames := 6, cells := 0, slots := 0, locals := 143 }).room s m args below meth c H locs 0 0 (MQ below (QX dd cy A (some (.int rv)) (wlC ad cy ts tc rk pl ru sl bg kn rm ol od)) args s 0 0 A) (F0 m 24 ls []) := by
    intro y1 k2 hk2 n
    induction n with
    | zero => intro y2 hf; exact absurd hf (by simp [fX5_isTrue_24])
    | succ n ih =>
      intro y2 hf H locs ls X hl
      rw [fX5_isTrue_24] at hf
      refine lv_iload_n hx hb dX5_isTrue_24 rfl (lv_at hl 2 rfl) ?_
      refine lv_iload_n hx hb dX5_isTrue_25 rfl (lv_at hl 1 rfl) ?_
      refine xr_icmp_ge (tgt := 55) hx hb dX5_isTrue_26 rfl hf (fun hf => ?_) (fun hf => ?_)
      · refine lv_iinc (v := (y1 + 1)) (lv' := [(1, .int (y1 + 1)), (0, .ref (ad 14)), (2, .int y2)]) hx hb dX5_isTrue_55 hl (k := 1) rfl ii_1 (by decide) rfl (fun ls hl => ?_)
        refine lv_goto (tgt := 2) hx hb dX5_isTrue_58 rfl ?_
        exact hk2 (y1 + 1) hf _ _ _ X (lv_sub hl [1, 0] rfl)
      · refine lv_aload_n hx hb dX5_isTrue_29 rfl (lv_at hl 0 rfl) ?_
        refine xg_f hx hb hts hown X h5 14 wlC_14 rfl 0 (by decide) (by decide +kernel) (v := .ref (ad 15)) rfl dX5_isTrue_30 ?_
        refine lv_iload_n hx hb dX5_isTrue_33 rfl (lv_at hl 1 rfl) ?_
        refine xa_text hx hb X wlC_15 dX5_isTrue_34 hf (fun a3 ha3 hf => ?_)
        refine lv_aload_n hx hb dX5_isTrue_35 rfl (lv_at hl 0 rfl) ?_
        refine xg_f hx hb hts hown X h5 14 wlC_14 rfl 0 (by decide) (by decide +kernel) (v := .ref (ad 15)) rfl dX5_isTrue_36 ?_
        refine lv_iload_n hx hb dX5_isTrue_39 rfl (lv_at hl 2 rfl) ?_
        refine xa_text hx hb X wlC_15 dX5_isTrue_40 hf (fun a4 ha4 hf => ?_)
        refine xb hf (fun v5 hv hf => ?_)
        refine xc_S1 (rest := []) ⟨hx, hb, hml, hown, hts⟩ (mX3_areTrue ha3 ha4 hv) (va_cwS 2 hts gX5_isTrue_X3_areTrue rfl rfl rfl hqX3_areTrue ⟨Nat.le_of_ble_eq_true rfl, Nat.le_of_ble_eq_true rfl⟩) X rfl hl.1 rfl (Nat.le_of_ble_eq_true rfl) dX5_isTrue_41 ⟨Nat.zero_le _, Nat.zero_le _⟩ (fun H locs X => ?_)
        refine xr_if_ne (tgt := 49) hx hb dX5_isTrue_44 rfl hf (fun hf => ?_) (fun hf => ?_)
        · refine lv_iinc (v := (y2 + 1)) (lv' := [(2, .int (y2 + 1)), (0, .ref (ad 14)), (1, .int y1)]) hx hb dX5_isTrue_49 hl (k := 2) rfl ii_1 (by decide) rfl (fun ls hl => ?_)
          refine lv_goto (tgt := 24) hx hb dX5_isTrue_52 rfl ?_
          exact ih (y2 + 1) hf _ _ _ X (lv_sub hl [1, 2, 0] rfl)
        · refine lv_iconst (v := (0 : Int32)) hx hb dX5_isTrue_47 rfl ?_
          cases hf
          exact xe_z hx hb hr hlocks X rfl dX5_isTrue_48
  have w2 : ∀ (n : Nat) (y1 : Int32), fX5_isTrue_2 fu ts tc n y1 = some rv → ∀ (H : Heap) (locs : List Loc) (ls : Array Slot), XW dd cy A s (wlC ad cy ts tc rk pl ru sl bg kn rm ol od) H locs → lv_has ls 3 [(0, .ref (ad 14)), (1, .int y1)] → W p l e (headSpec wsX5_isTrue { frames := 6, cells := 0, slots := 0, locals := 143 }).room s m args below meth c H locs 0 0 (MQ below (QX dd cy A (some (.int rv)) (wlC ad cy ts tc rk pl ru sl bg kn rm ol od)) args s 0 0 A) (F0 m 2 ls []) := by
    intro n
    induction n with
    | zero => intro y1 hf; exact absurd hf (by simp [fX5_isTrue_2])
    | succ n ih =>
      intro y1 hf H locs ls X hl
      rw [fX5_isTrue_2] at hf
      refine lv_iload_n hx hb dX5_isTrue_2 rfl (lv_at hl 1 rfl) ?_
      refine lv_bipush (v := (6 : Int32)) hx hb dX5_isTrue_3 rfl ?_
      refine xr_icmp_ge (tgt := 61) hx hb dX5_isTrue_5 rfl hf (fun hf => ?_) (fun hf => ?_)
      · refine lv_iconst (v := (1 : Int32)) hx hb dX5_isTrue_61 rfl ?_
        cases hf
        exact xe_z hx hb hr hlocks X rfl dX5_isTrue_62
      · refine lv_aload_n hx hb dX5_isTrue_8 rfl (lv_at hl 0 rfl) ?_
        refine xg_f hx hb hts hown X h5 14 wlC_14 rfl 0 (by decide) (by decide +kernel) (v := .ref (ad 15)) rfl dX5_isTrue_9 ?_
        refine lv_iload_n hx hb dX5_isTrue_12 rfl (lv_at hl 1 rfl) ?_
        refine xa_text hx hb X wlC_15 dX5_isTrue_13 hf (fun a1 ha1 hf => ?_)
        refine xb hf (fun v2 hv hf => ?_)
        refine xc_S1 (rest := []) ⟨hx, hb, hml, hown, hts⟩ (mX1_areTrue ha1 hv) (va_cwS 1 hts gX5_isTrue_X1_areTrue rfl rfl rfl hqX1_areTrue ⟨Nat.le_of_ble_eq_true rfl, Nat.le_of_ble_eq_true rfl⟩) X rfl hl.1 rfl (Nat.le_of_ble_eq_true rfl) dX5_isTrue_14 ⟨Nat.zero_le _, Nat.zero_le _⟩ (fun H locs X => ?_)
        refine xr_if_ne (tgt := 22) hx hb dX5_isTrue_17 rfl hf (fun hf => ?_) (fun hf => ?_)
        · refine lv_iconst (v := (0 : Int32)) hx hb dX5_isTrue_22 rfl ?_
          refine lv_istore_n (lv' := [(2, .int (0 : Int32)), (0, .ref (ad 14)), (1, .int y1)]) hx hb dX5_isTrue_23 rfl hl (by decide) rfl (fun ls hl => ?_)
          exact w24 y1 _ ih fu (0 : Int32) hf _ _ _ X (lv_sub hl [1, 2, 0] rfl)
        · refine lv_iconst (v := (0 : Int32)) hx hb dX5_isTrue_20 rfl ?_
          cases hf
          exact xe_z hx hb hr hlocks X rfl dX5_isTrue_21
  rw [fX5_isTrue] at hf
  refine lv_iconst (v := (0 : Int32)) hx hb dX5_isTrue_0 rfl ?_
  refine lv_istore_n (lv' := [(1, .int (0 : Int32)), (0, .ref (ad 14))]) hx hb dX5_isTrue_1 rfl hl (by decide) rfl (fun ls hl => ?_)
  exact w2 fu (0 : Int32) hf _ _ _ X (lv_sub hl [1, 0] rfl)
