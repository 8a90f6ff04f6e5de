set_option maxRecDepth 100000 in
set_option maxHeartbeats 4000000 in
theorem mX4_size {l : Launch} {dd : va_G} {cy : Nat → ClassId} {ad : Nat → Nat} {A : Nat → Prop} {ts : Nat → Int32} {tc : Nat → Nat → Int32} {rk : Nat → Int32} {pl : Nat → Int32} {ru : Nat → Int64} {sl : Nat → Int32} {bg : Nat → Int32} {kn : Nat → Int64} {rm : Int32} {ol : Nat → Int64} {od : Nat → UInt64} {i : Nat} {rv : Int32} (hi : i < 7) (hf : fX4_size ts i = some rv) : Met l yX4_size wsX4_size { frames := 0, cells := 0, slots := 0, locals := 0 } (va_Pc [.ref (ad i)] (IW dd cy A (wlC ad cy ts tc rk pl ru sl bg kn rm ol od))) (QX dd cy A (some (.int rv)) (wlC ad cy ts tc rk pl ru sl bg kn rm ol od)) 0 0 A := by
  refine Met.ofW (cc := cX4_size) (maxL := 1) (ret := some .int) (by decide) rfl ?_
  intro p e s m args below meth c s₁ B hml hv
  obtain ⟨hav, hI⟩ := hv
  have hx := B.exec
  have hb := B.bytes
  have hr := B.returns
  have hts := atoms_spec (ws := wsX4_size) B.pre
  have hown : s.vm.findClass RX4 = some m.cls := findClass_of_methodNamed B.named
  have hlocks := B.notSynchronized
  have X := XW.of hI
  have h4 : ∀ w ∈ wsX40, w ∈ wsX4_size := by decide +kernel
  refine xe_in hav (Nat.le_of_ble_eq_true rfl) rfl (fun ls hl => ?_)
  rw [fX4_size] at hf
  refine lv_aload_n hx hb dX4_size_0 rfl (lv_at hl 0 rfl) ?_
  refine xg_f hx hb hts hown X h4 i (wlC_t hi) rfl 1 (by decide) (by decide +kernel) (v := .int (ts i)) rfl dX4_size_1 ?_
  cases hf
  exact xe_i hx hb hr hlocks X dX4_size_4
set_option maxRecDepth 100000 in
set_option maxHeartbeats 4000000 in
theorem mX4_add {l : Launch} {dd : va_G} {cy : Nat → ClassId} {ad : Nat → Nat} {A : Nat → Prop} {ts : Nat → Int32} {tc : Nat → Nat → Int32} {rk : Nat → Int32} {pl : Nat → Int32} {ru : Nat → Int64} {sl : Nat → Int32} {bg : Nat → Int32} {kn : Nat → Int64} {rm : Int32} {ol : Nat → Int64} {od : Nat → UInt64} {i : Nat} {x1 : Int32} {tso : Nat → Int32} {tco : Nat → Nat → Int32} (hi : i < 7) (hf : fX4_add ts tc i x1 = some (tso, tco)) : Met l yX4_add wsX4_add { frames := 0, cells := 0, slots := 0, locals := 0 } (va_Pc [.ref (ad i), .int x1] (IW dd cy A (wlC ad cy ts tc rk pl ru sl bg kn rm ol od))) (QX dd cy A none (wlC ad cy tso tco rk pl ru sl bg kn rm ol od)) 0 0 A := by
  refine Met.ofW (cc := cX4_add) (maxL := 2) (ret := none) (by decide) rfl ?_
  intro p e s m args below meth c s₁ B hml hv
  obtain ⟨hav, hI⟩ := hv
  have hx := B.exec
  have hb := B.bytes
  have hr := B.returns
  have hts := atoms_spec (ws := wsX4_add) B.pre
  have hown : s.vm.findClass RX4 = some m.cls := findClass_of_methodNamed B.named
  have hlocks := B.notSynchronized
  have X := XW.of hI
  have h4 : ∀ w ∈ wsX40, w ∈ wsX4_add := by decide +kernel
  refine xe_in hav (Nat.le_of_ble_eq_true rfl) rfl (fun ls hl => ?_)
  rw [fX4_add] at hf
  refine lv_aload_n hx hb dX4_add_0 rfl (lv_at hl 0 rfl) ?_
  refine xg_f hx hb hts hown X h4 i (wlC_t hi) rfl 1 (by decide) (by decide +kernel) (v := .int (ts i)) rfl dX4_add_1 ?_
  refine lv_bipush (v := (60 : Int32)) hx hb dX4_add_4 rfl ?_
  refine xr_icmp_ge (tgt := 29) hx hb dX4_add_6 rfl hf (fun hf => ?_) (fun hf => ?_)
  · cases hf
    exact xe_v hx hb hr hlocks X dX4_add_29
  · refine lv_aload_n hx hb dX4_add_9 rfl (lv_at hl 0 rfl) ?_
    refine xg_f hx hb hts hown X h4 i (wlC_t hi) rfl 0 (by decide) (by decide +kernel) (v := .ref (ad (i + 7))) rfl dX4_add_10 ?_
    refine lv_aload_n hx hb dX4_add_13 rfl (lv_at hl 0 rfl) ?_
    refine xg_f hx hb hts hown X h4 i (wlC_t hi) rfl 1 (by decide) (by decide +kernel) (v := .int (ts i)) rfl dX4_add_14 ?_
    refine lv_iload_n hx hb dX4_add_17 rfl (lv_at hl 1 rfl) ?_
    refine xa_cast hx hb X (i + 7) (wlC_tc hi) (wlC_s_tc hi) dX4_add_18 hf (fun g1 H locs hf X => ?_)
    refine lv_aload_n hx hb dX4_add_19 rfl (lv_at hl 0 rfl) ?_
    refine lv_dup hx hb dX4_add_20 rfl ?_
    refine xg_f hx hb hts hown X h4 i (wlC_t hi) rfl 1 (by decide) (by decide +kernel) (v := .int (ts i)) rfl dX4_add_21 ?_
    refine lv_iconst (v := (1 : Int32)) hx hb dX4_add_24 rfl ?_
    refine lv_iadd hx hb dX4_add_25 ?_
    refine xp_f hx hb hts hown X h4 tyX4_ok nmX4 i (wlC_t hi) rfl 1 (by decide) rfl (by decide +kernel) (by decide +kernel) (Nat.le_of_ble_eq_true rfl) (wlC_s_ts hi ((ts i) + (1 : Int32))) dX4_add_26 (fun H locs X => ?_)
    cases hf
    exact xe_v hx hb hr hlocks X dX4_add_29
set_option maxRecDepth 100000 in
set_option maxHeartbeats 4000000 in
theorem mX4_clear {l : Launch} {dd : va_G} {cy : Nat → ClassId} {ad : Nat → Nat} {A : Nat → Prop} {ts : Nat → Int32} {tc : Nat → Nat → Int32} {rk : Nat → Int32} {pl : Nat → Int32} {ru : Nat → Int64} {sl : Nat → Int32} {bg : Nat → Int32} {kn : Nat → Int64} {rm : Int32} {ol : Nat → Int64} {od : Nat → UInt64} {i : Nat} {tso : Nat → Int32} (hi : i < 7) (hf : fX4_clear ts i = some tso) : Met l yX4_clear wsX4_clear { frames := 0, cells := 0, slots := 0, locals := 0 } (va_Pc [.ref (ad i)] (IW dd cy A (wlC ad cy ts tc rk pl ru sl bg kn rm ol od))) (QX dd cy A none (wlC ad cy tso tc rk pl ru sl bg kn rm ol od)) 0 0 A := by
  refine Met.ofW (cc := cX4_clear) (maxL := 1) (ret := none) (by decide) rfl ?_
  intro p e s m args below meth c s₁ B hml hv
  obtain ⟨hav, hI⟩ := hv
  have hx := B.exec
  have hb := B.bytes
  have hr := B.returns
  have hts := atoms_spec (ws := wsX4_clear) B.pre
  have hown : s.vm.findClass RX4 = some m.cls := findClass_of_methodNamed B.named
  have hlocks := B.notSynchronized
  have X := XW.of hI
  have h4 : ∀ w ∈ wsX40, w ∈ wsX4_clear := by decide +kernel
  refine xe_in hav (Nat.le_of_ble_eq_true rfl) rfl (fun ls hl => ?_)
  rw [fX4_clear] at hf
  refine lv_aload_n hx hb dX4_clear_0 rfl (lv_at hl 0 rfl) ?_
  refine lv_iconst (v := (0 : Int32)) hx hb dX4_clear_1 rfl ?_
  refine xp_f hx hb hts hown X h4 tyX4_ok nmX4 i (wlC_t hi) rfl 1 (by decide) rfl (by decide +kernel) (by decide +kernel) (Nat.le_of_ble_eq_true rfl) (wlC_s_ts hi (0 : Int32)) dX4_clear_2 (fun H locs X => ?_)
  cases hf
  exact xe_v hx hb hr hlocks X dX4_clear_5
set_option maxRecDepth 100000 in
set_option maxHeartbeats 4000000 in
theorem mX4_signOn {l : Launch} {dd : va_G} {cy : Nat → ClassId} {ad : Nat → Nat} {A : Nat → Prop} {ts : Nat → Int32} {tc : Nat → Nat → Int32} {rk : Nat → Int32} {pl : Nat → Int32} {ru : Nat → Int64} {sl : Nat → Int32} {bg : Nat → Int32} {kn : Nat → Int64} {rm : Int32} {ol : Nat → Int64} {od : Nat → UInt64} {i : Nat} {x1 : Int32} {rv : Int32} (hi : i < 7) (hf : fX4_signOn ts tc i x1 = some rv) : Met l yX4_signOn wsX4_signOn { frames := 0, cells := 0, slots := 0, locals := 0 } (va_Pc [.ref (ad i), .int x1] (IW dd cy A (wlC ad cy ts tc rk pl ru sl bg kn rm ol od))) (QX dd cy A (some (.int rv)) (wlC ad cy ts tc rk pl ru sl bg kn rm ol od)) 0 0 A := by
  refine Met.ofW (cc := cX4_signOn) (maxL := 2) (ret := some .char) (by decide) rfl ?_
  intro p e s m args below meth c s₁ B hml hv
  obtain ⟨hav, hI⟩ := hv
  have hx := B.exec
  have hb := B.bytes
  have hr := B.returns
  have hts := atoms_spec (ws := wsX4_signOn) B.pre
  have hown : s.vm.findClass RX4 = some m.cls := findClass_of_methodNamed B.named
  have hlocks := B.notSynchronized
  have X := XW.of hI
  have h4 : ∀ w ∈ wsX40, w ∈ wsX4_signOn := by decide +kernel
  refine xe_in hav (Nat.le_of_ble_eq_true rfl) rfl (fun ls hl => ?_)
  rw [fX4_signOn] at hf
  refine lv_iload_n hx hb dX4_signOn_0 rfl (lv_at hl 1 rfl) ?_
  refine xr_if_lt (tgt := 12) hx hb dX4_signOn_1 rfl hf (fun hf => ?_) (fun hf => ?_)
  · refine lv_iconst (v := (0 : Int32)) hx hb dX4_signOn_12 rfl ?_
    refine lv_goto (tgt := 22) hx hb dX4_signOn_13 rfl ?_
    cases hf
    exact xe_z hx hb hr hlocks X rfl dX4_signOn_22
  · refine lv_iload_n hx hb dX4_signOn_4 rfl (lv_at hl 1 rfl) ?_
    refine lv_aload_n hx hb dX4_signOn_5 rfl (lv_at hl 0 rfl) ?_
    refine xg_f hx hb hts hown X h4 i (wlC_t hi) rfl 1 (by decide) (by decide +kernel) (v := .int (ts i)) rfl dX4_signOn_6 ?_
    refine xr_icmp_lt (tgt := 16) hx hb dX4_signOn_9 rfl hf (fun hf => ?_) (fun hf => ?_)
    · refine lv_aload_n hx hb dX4_signOn_16 rfl (lv_at hl 0 rfl) ?_
      refine xg_f hx hb hts hown X h4 i (wlC_t hi) rfl 0 (by decide) (by decide +kernel) (v := .ref (ad (i + 7))) rfl dX4_signOn_17 ?_
      refine lv_iload_n hx hb dX4_signOn_20 rfl (lv_at hl 1 rfl) ?_
      refine xa_cald hx hb X (i + 7) (wlC_tc hi) dX4_signOn_21 hf (fun v1 hf => ?_)
      refine xb hf (fun z9 hz hf => ?_)
      obtain ⟨hn, rfl⟩ := ckC_some hz
      cases hf
      exact xe_z hx hb hr hlocks X hn dX4_signOn_22
    · refine lv_iconst (v := (0 : Int32)) hx hb dX4_signOn_12 rfl ?_
      refine lv_goto (tgt := 22) hx hb dX4_signOn_13 rfl ?_
      cases hf
      exact xe_z hx hb hr hlocks X rfl dX4_signOn_22
set_option maxRecDepth 100000 in
set_option maxHeartbeats 4000000 in
theorem mX4_addPart {l : Launch} {dd : va_G} {cy : Nat → ClassId} {ad : Nat → Nat} {A : Nat → Prop} {fu : Nat} {ts : Nat → Int32} {tc : Nat → Nat → Int32} {rk : Nat → Int32} {pl : Nat → Int32} {ru : Nat → Int64} {sl : Nat → Int32} {bg : Nat → Int32} {kn : Nat → Int64} {rm : Int32} {ol : Nat → Int64} {od : Nat → UInt64} {i : Nat} {j1 : Nat} {x2 : Int32} {x3 : Int32} {tso : Nat → Int32} {tco : Nat → Nat → Int32} (hi : i < 7) (hj1 : j1 < 7) (hf : fX4_addPart fu ts tc i j1 x2 x3 = some (tso, tco)) : Met l yX4_addPart wsX4_addPart { frames := 1, cells := 0, slots := 0, locals := 21 } (va_Pc [.ref (ad i), .ref (ad j1), .int x2, .int x3] (IW dd cy A (wlC ad cy ts tc rk pl ru sl bg kn rm ol od))) (QX dd cy A none (wlC ad cy tso tco rk pl ru sl bg kn rm ol od)) 0 0 A := by
  refine Met.ofW (cc := cX4_addPart) (maxL := 5) (ret := none) (by decide) rfl ?_
  intro p e s m args below meth c s₁ B hml hv
  obtain ⟨hav, hI⟩ := hv
  have hx := B.exec
  have hb := B.bytes
  have hr := B.returns
  have hts := atoms_spec (ws := wsX4_addPart) B.pre
  have hown : s.vm.findClass RX4 = some m.cls := findClass_of_methodNamed B.named
  have hlocks := B.notSynchronized
  have X := XW.of hI
  refine xe_in hav (Nat.le_of_ble_eq_true rfl) rfl (fun ls hl => ?_)
  have w3 : ∀ (t0 : Nat) (t1 : Nat) (y3 : Int32) (ht0 : t0 < 7) (ht1 : t1 < 7) (n : Nat) (y4 : Int32) (ts : Nat → Int32) (tc : Nat → Nat → Int32), fX4_addPart_3 fu t0 t1 y3 n y4 ts tc = some (tso, tco) → ∀ (H : Heap) (locs : List Loc) (ls : Array Slot), XW dd cy A s (wlC ad cy ts tc rk pl ru sl bg kn rm ol od) H locs → lv_has ls 5 [(0, .ref (ad t0)), (1, .ref (ad t1)), (3, .int y3), (4, .int y4)] → W p l e (headSpec wsX4_addPart { frames := 1, cells := 0, slots := 0, locals := 21 }).room s m args below meth c H locs 0 0 (MQ below (QX dd cy A none (wlC ad cy tso tco rk pl ru sl bg kn rm ol od)) args s 0 0 A) (F0 m 3 ls []) := by
    intro t0 t1 y3 ht0 ht1 n
    induction n with
    | zero => intro y4 ts tc hf; exact absurd hf (by simp [fX4_addPart_3])
    | succ n ih =>
      intro y4 ts tc hf H locs ls X hl
      rw [fX4_addPart_3] at hf
      refine lv_iload hx hb dX4_addPart_3 (lv_at hl 3 rfl) ?_
      refine lv_iload_n hx hb dX4_addPart_5 rfl (lv_at hl 2 rfl) ?_
      refine xr_icmp_ge (tgt := 25) hx hb dX4_addPart_6 rfl hf (fun hf => ?_) (fun hf => ?_)
      · cases hf
        exact xe_v hx hb hr hlocks X dX4_addPart_25
      · refine lv_aload_n hx hb dX4_addPart_9 rfl (lv_at hl 0 rfl) ?_
        refine lv_aload_n hx hb dX4_addPart_10 rfl (lv_at hl 1 rfl) ?_
        refine lv_iload hx hb dX4_addPart_11 (lv_at hl 3 rfl) ?_
        refine xb hf (fun v1 hv hf => ?_)
        refine xc_V1 (rest := [.ref (ad t0)]) ⟨hx, hb, hml, hown, hts⟩ (mX4_signOn ht1 hv) (cwV 1 hts gX4_addPart_X4_signOn rfl rfl rfl hqX4_signOn ⟨Nat.le_of_ble_eq_true rfl, Nat.le_of_ble_eq_true rfl⟩) X (va_recv X.1 X.2.1 (ci := 0) (q0 := t1) rfl (wlC_t ht1)) rfl hl.1 rfl (Nat.le_of_ble_eq_true rfl) dX4_addPart_13 ⟨Nat.zero_le _, Nat.zero_le _⟩ (fun H locs X => ?_)
        refine xb hf (fun v2 hv hf => ?_)
        refine xc_V0 (rest := []) ⟨hx, hb, hml, hown, hts⟩ (mX4_add ht0 hv) (cwV 1 hts gX4_addPart_X4_add rfl rfl rfl hqX4_add ⟨Nat.le_of_ble_eq_true rfl, Nat.le_of_ble_eq_true rfl⟩) X (va_recv X.1 X.2.1 (ci := 0) (q0 := t0) rfl (wlC_t ht0)) rfl hl.1 rfl (Nat.le_of_ble_eq_true rfl) dX4_addPart_16 ⟨Nat.zero_le _, Nat.zero_le _⟩ (fun H locs X => ?_)
        refine lv_iinc (v := (y4 + 1)) (lv' := [(4, .int (y4 + 1)), (0, .ref (ad t0)), (1, .ref (ad t1)), (3, .int y3)]) hx hb dX4_addPart_19 hl (k := 3) rfl ii_1 (by decide) rfl (fun ls hl => ?_)
        refine lv_goto (tgt := 3) hx hb dX4_addPart_22 rfl ?_
        exact ih (y4 + 1) v2.1 v2.2 hf _ _ _ X (lv_sub hl [1, 2, 3, 0] rfl)
  rw [fX4_addPart] at hf
  refine lv_iload_n hx hb dX4_addPart_0 rfl (lv_at hl 2 rfl) ?_
  refine lv_istore (lv' := [(4, .int x2), (0, .ref (ad i)), (1, .ref (ad j1)), (2, .int x2), (3, .int x3)]) hx hb dX4_addPart_1 hl (by decide) rfl (fun ls hl => ?_)
  exact w3 i j1 x3 hi hj1 fu x2 ts tc hf _ _ _ X (lv_sub hl [1, 2, 4, 0] rfl)
set_option maxRecDepth 100000 in
set_option maxHeartbeats 4000000 in
theorem mX4_addAll {l : Launch} {dd : va_G} {cy : Nat → ClassId} {ad : Nat → Nat} {A : Nat → Prop} {fu : Nat} {ts : Nat → Int32} {tc : Nat → Nat → Int32} {rk : Nat → Int32} {pl : Nat → Int32} {ru : Nat → Int64} {sl : Nat → Int32} {bg : Nat → Int32} {kn : Nat → Int64} {rm : Int32} {ol : Nat → Int64} {od : Nat → UInt64} {i : Nat} {j1 : Nat} {tso : Nat → Int32} {tco : Nat → Nat → Int32} (hi : i < 7) (hj1 : j1 < 7) (hf : fX4_addAll fu ts tc i j1 = some (tso, tco)) : Met l yX4_addAll wsX4_addAll { frames := 2, cells := 0, slots := 0, locals := 45 } (va_Pc [.ref (ad i), .ref (ad j1)] (IW dd cy A (wlC ad cy ts tc rk pl ru sl bg kn rm ol od))) (QX dd cy A none (wlC ad cy tso tco rk pl ru sl bg kn rm ol od)) 0 0 A := by
  refine Met.ofW (cc := cX4_addAll) (maxL := 2) (ret := none) (by decide) rfl ?_
  intro p e s m args below meth c s₁ B hml hv
  obtain ⟨hav, hI⟩ := hv
  have hx := B.exec
  have hb := B.bytes
  have hr := B.returns
  have hts := atoms_spec (ws := wsX4_addAll) B.pre
  have hown : s.vm.findClass RX4 = some m.cls := findClass_of_methodNamed B.named
  have hlocks := B.notSynchronized
  have X := XW.of hI
  have h4 : ∀ w ∈ wsX40, w ∈ wsX4_addAll := by decide +kernel
  refine xe_in hav (Nat.le_of_ble_eq_true rfl) rfl (fun ls hl => ?_)
  rw [fX4_addAll] at hf
  refine lv_aload_n hx hb dX4_addAll_0 rfl (lv_at hl 0 rfl) ?_
  refine lv_aload_n hx hb dX4_addAll_1 rfl (lv_at hl 1 rfl) ?_
  refine lv_iconst (v := (0 : Int32)) hx hb dX4_addAll_2 rfl ?_
  refine lv_aload_n hx hb dX4_addAll_3 rfl (lv_at hl 1 rfl) ?_
  refine xg_f hx hb hts hown X h4 j1 (wlC_t hj1) rfl 1 (by decide) (by decide +kernel) (v := .int (ts j1)) rfl dX4_addAll_4 ?_
  refine xb hf (fun v1 hv hf => ?_)
  refine xc_V0 (rest := []) ⟨hx, hb, hml, hown, hts⟩ (mX4_addPart hi hj1 hv) (cwV 3 hts gX4_addAll_X4_addPart rfl rfl rfl hqX4_addPart ⟨Nat.le_of_ble_eq_true rfl, Nat.le_of_ble_eq_true rfl⟩) X (va_recv X.1 X.2.1 (ci := 0) (q0 := i) rfl (wlC_t hi)) rfl hl.1 rfl (Nat.le_of_ble_eq_true rfl) dX4_addAll_7 ⟨Nat.zero_le _, Nat.zero_le _⟩ (fun H locs X => ?_)
  cases hf
  exact xe_v hx hb hr hlocks X dX4_addAll_10
set_option maxRecDepth 100000 in
set_option maxHeartbeats 4000000 in
theorem mX4_become {l : Launch} {dd : va_G} {cy : Nat → ClassId} {ad : Nat → Nat} {A : Nat → Prop} {fu : Nat} {ts : Nat → Int32} {tc : Nat → Nat → Int32} {rk : Nat → Int32} {pl : Nat → Int32} {ru : Nat → Int64} {sl : Nat → Int32} {bg : Nat → Int32} {kn : Nat → Int64} {rm : Int32} {ol : Nat → Int64} {od : Nat → UInt64} {i : Nat} {j1 : Nat} {tso : Nat → Int32} {tco : Nat → Nat → Int32} (hi : i < 7) (hj1 : j1 < 7) (hf : fX4_become fu ts tc i j1 = some (tso, tco)) : Met l yX4_become wsX4_become { frames := 3, cells := 0, slots := 0, locals := 66 } (va_Pc [.ref (ad i), .ref (ad j1)] (IW dd cy A (wlC ad cy ts tc rk pl ru sl bg kn rm ol od))) (QX dd cy A none (wlC ad cy tso tco rk pl ru sl bg kn rm ol od)) 0 0 A := by
  refine Met.ofW (cc := cX4_become) (maxL := 2) (ret := none) (by decide) rfl ?_
  intro p e s m args below meth c s₁ B hml hv
  obtain ⟨hav, hI⟩ := hv
  have hx := B.exec
  have hb := B.bytes
  have hr := B.returns
  have hts := atoms_spec (ws := wsX4_become) B.pre
  have hown : s.vm.findClass RX4 = some m.cls := findClass_of_methodNamed B.named
  have hlocks := B.notSynchronized
  have X := XW.of hI
  refine xe_in hav (Nat.le_of_ble_eq_true rfl) rfl (fun ls hl => ?_)
  rw [fX4_become] at hf
  refine lv_aload_n hx hb dX4_become_0 rfl (lv_at hl 0 rfl) ?_
  refine xb hf (fun v1 hv hf => ?_)
  refine xc_V0 (rest := []) ⟨hx, hb, hml, hown, hts⟩ (mX4_clear hi hv) (cwV 0 hts gX4_become_X4_clear rfl rfl rfl hqX4_clear ⟨Nat.le_of_ble_eq_true rfl, Nat.le_of_ble_eq_true rfl⟩) X (va_recv X.1 X.2.1 (ci := 0) (q0 := i) rfl (wlC_t hi)) rfl hl.1 rfl (Nat.le_of_ble_eq_true rfl) dX4_become_1 ⟨Nat.zero_le _, Nat.zero_le _⟩ (fun H locs X => ?_)
  refine lv_aload_n hx hb dX4_become_4 rfl (lv_at hl 0 rfl) ?_
  refine lv_aload_n hx hb dX4_become_5 rfl (lv_at hl 1 rfl) ?_
  refine xb hf (fun v2 hv hf => ?_)
  refine xc_V0 (rest := []) ⟨hx, hb, hml, hown, hts⟩ (mX4_addAll hi hj1 hv) (cwV 1 hts gX4_become_X4_addAll rfl rfl rfl hqX4_addAll ⟨Nat.le_of_ble_eq_true rfl, Nat.le_of_ble_eq_true rfl⟩) X (va_recv X.1 X.2.1 (ci := 0) (q0 := i) rfl (wlC_t hi)) rfl hl.1 rfl (Nat.le_of_ble_eq_true rfl) dX4_become_6 ⟨Nat.zero_le _, Nat.zero_le _⟩ (fun H locs X => ?_)
  cases hf
  exact xe_v hx hb hr hlocks X dX4_become_9
set_option maxRecDepth 100000 in
set_option maxHeartbeats 4000000 in
theorem mX4_isEmpty {l : Launch} {dd : va_G} {cy : Nat → ClassId} {ad : Nat → Nat} {A : Nat → Prop} {ts : Nat → Int32} {tc : Nat → Nat → Int32} {rk : Nat → Int32} {pl : Nat → Int32} {ru : Nat → Int64} {sl : Nat → Int32} {bg : Nat → Int32} {kn : Nat → Int64} {rm : Int32} {ol : Nat → Int64} {od : Nat → UInt64} {i : Nat} {rv : Int32} (hi : i < 7) (hf : fX4_isEmpty ts i = some rv) : Met l yX4_isEmpty wsX4_isEmpty { frames := 0, cells := 0, slots := 0, locals := 0 } (va_Pc [.ref (ad i)] (IW dd cy A (wlC ad cy ts tc rk pl ru sl bg kn rm ol od))) (QX dd cy A (some (.int rv)) (wlC ad cy ts tc rk pl ru sl bg kn rm ol od)) 0 0 A := by
  refine Met.ofW (cc := cX4_isEmpty) (maxL := 1) (ret := some .boolean) (by decide) rfl ?_
  intro p e s m args below meth c s₁ B hml hv
  obtain ⟨hav, hI⟩ := hv
  have hx := B.exec
  have hb := B.bytes
  have hr := B.returns
  have hts := atoms_spec (ws := wsX4_isEmpty) B.pre
  have hown : s.vm.findClass RX4 = some m.cls := findClass_of_methodNamed B.named
  have hlocks := B.notSynchronized
  have X := XW.of hI
  have h4 : ∀ w ∈ wsX40, w ∈ wsX4_isEmpty := by decide +kernel
  refine xe_in hav (Nat.le_of_ble_eq_true rfl) rfl (fun ls hl => ?_)
  rw [fX4_isEmpty] at hf
  refine lv_aload_n hx hb dX4_isEmpty_0 rfl (lv_at hl 0 rfl) ?_
  refine xg_f hx hb hts hown X h4 i (wlC_t hi) rfl 1 (by decide) (by decide +kernel) (v := .int (ts i)) rfl dX4_isEmpty_1 ?_
  refine xr_if_ne (tgt := 11) hx hb dX4_isEmpty_4 rfl hf (fun hf => ?_) (fun hf => ?_)
  · refine lv_iconst (v := (0 : Int32)) hx hb dX4_isEmpty_11 rfl ?_
    cases hf
    exact xe_z hx hb hr hlocks X rfl dX4_isEmpty_12
  · refine lv_iconst (v := (1 : Int32)) hx hb dX4_isEmpty_7 rfl ?_
    refine lv_goto (tgt := 12) hx hb dX4_isEmpty_8 rfl ?_
    cases hf
    exact xe_z hx hb hr hlocks X rfl dX4_isEmpty_12
set_option maxRecDepth 100000 in
set_option maxHeartbeats 4000000 in
theorem mX4_alike {l : Launch} {dd : va_G} {cy : Nat → ClassId} {ad : Nat → Nat} {A : Nat → Prop} {fu : Nat} {ts : Nat → Int32} {tc : Nat → Nat → Int32} {rk : Nat → Int32} {pl : Nat → Int32} {ru : Nat → Int64} {sl : Nat → Int32} {bg : Nat → Int32} {kn : Nat → Int64} {rm : Int32} {ol : Nat → Int64} {od : Nat → UInt64} {i : Nat} {x1 : Int32} {j2 : Nat} {x3 : Int32} {rv : Int32} (hi : i < 7) (hj2 : j2 < 7) (hf : fX4_alike fu ts tc i x1 j2 x3 = some rv) : Met l yX4_alike wsX4_alike { frames := 1, cells := 0, slots := 0, locals := 32 } (va_Pc [.ref (ad i), .int x1, .ref (ad j2), .int x3] (IW dd cy A (wlC ad cy ts tc rk pl ru sl bg kn rm ol od))) (QX dd cy A (some (.int rv)) (wlC ad cy ts tc rk pl ru sl bg kn rm ol od)) 0 0 A := by
  refine Met.ofW (cc := cX4_alike) (maxL := 6) (ret := some .int) (by decide) rfl ?_
  intro p e s m args below meth c s₁ B hml hv
  obtain ⟨hav, hI⟩ := hv
  have hx := B.exec
  have hb := B.bytes
  have hr := B.returns
  have hts := atoms_spec (ws := wsX4_alike) B.pre
  have hown : s.vm.findClass RX4 = some m.cls := findClass_of_methodNamed B.named
  have hlocks := B.notSynchronized
  have X := XW.of hI
  have h4 : ∀ w ∈ wsX40, w ∈ wsX4_alike := by decide +kernel
  refine xe_in hav (Nat.le_of_ble_eq_true rfl) rfl (fun ls hl => ?_)
  have w20 : ∀ (t0 : Nat) (y1 : Int32) (t2 : Nat) (y3 : Int32) (y4 : Int32) (ht0 : t0 < 7) (ht2 : t2 < 7) (n : Nat) (y5 : Int32), fX4_alike_20 fu ts tc t0 y1 t2 y3 y4 n y5 = some rv → ∀ (H : Heap) (locs : List Loc) (ls : Array Slot), XW dd cy A s (wlC ad cy ts tc rk pl ru sl bg kn rm ol od) H locs → lv_has ls 6 [(0, .ref (ad t0)), (1, .int y1), (2, .ref (ad t2)), (3, .int y3), (4, .int y4), (5, .int y5)] → W p l e (headSpec wsX4_alike { frames := 1, cells := 0, slots := 0, locals := 32 }).room s m args below meth c H locs 0 0 (MQ below (QX dd cy A (some (.int rv)) (wlC ad cy ts tc rk pl ru sl bg kn rm ol od)) args s 0 0 A) (F0 m 20 ls []) := by
    intro t0 y1 t2 y3 y4 ht0 ht2 n
    induction n with
    | zero => intro y5 hf; exact absurd hf (by simp [fX4_alike_20])
    | succ n ih =>
      intro y5 hf H locs ls X hl
      rw [fX4_alike_20] at hf
      refine lv_iload hx hb dX4_alike_20 (lv_at hl 5 rfl) ?_
      refine lv_iload hx hb dX4_alike_22 (lv_at hl 4 rfl) ?_
      refine xr_icmp_ge (tgt := 52) hx hb dX4_alike_24 rfl hf (fun hf => ?_) (fun hf => ?_)
      · refine lv_iload hx hb dX4_alike_52 (lv_at hl 5 rfl) ?_
        cases hf
        exact xe_i hx hb hr hlocks X dX4_alike_54
      · refine lv_aload_n hx hb dX4_alike_27 rfl (lv_at hl 0 rfl) ?_
        refine lv_iload_n hx hb dX4_alike_28 rfl (lv_at hl 1 rfl) ?_
        refine lv_iload hx hb dX4_alike_29 (lv_at hl 5 rfl) ?_
        refine lv_iadd hx hb dX4_alike_31 ?_
        refine xb hf (fun v1 hv hf => ?_)
        refine xc_V1 (rest := []) ⟨hx, hb, hml, hown, hts⟩ (mX4_signOn ht0 hv) (cwV 1 hts gX4_alike_X4_signOn rfl rfl rfl hqX4_signOn ⟨Nat.le_of_ble_eq_true rfl, Nat.le_of_ble_eq_true rfl⟩) X (va_recv X.1 X.2.1 (ci := 0) (q0 := t0) rfl (wlC_t ht0)) rfl hl.1 rfl (Nat.le_of_ble_eq_true rfl) dX4_alike_32 ⟨Nat.zero_le _, Nat.zero_le _⟩ (fun H locs X => ?_)
        refine lv_aload_n hx hb dX4_alike_35 rfl (lv_at hl 2 rfl) ?_
        refine lv_iload_n hx hb dX4_alike_36 rfl (lv_at hl 3 rfl) ?_
        refine lv_iload hx hb dX4_alike_37 (lv_at hl 5 rfl) ?_
        refine lv_iadd hx hb dX4_alike_39 ?_
        refine xb hf (fun v2 hv hf => ?_)
        refine xc_V1 (rest := [.int v1]) ⟨hx, hb, hml, hown, hts⟩ (mX4_signOn ht2 hv) (cwV 1 hts gX4_alike_X4_signOn rfl rfl rfl hqX4_signOn ⟨Nat.le_of_ble_eq_true rfl, Nat.le_of_ble_eq_true rfl⟩) X (va_recv X.1 X.2.1 (ci := 0) (q0 := t2) rfl (wlC_t ht2)) rfl hl.1 rfl (Nat.le_of_ble_eq_true rfl) dX4_alike_40 ⟨Nat.zero_le _, Nat.zero_le _⟩ (fun H locs X => ?_)
        refine xr_icmp_ne (tgt := 52) hx hb dX4_alike_43 rfl hf (fun hf => ?_) (fun hf => ?_)
        · refine lv_iload hx hb dX4_alike_52 (lv_at hl 5 rfl) ?_
          cases hf
          exact xe_i hx hb hr hlocks X dX4_alike_54
        · refine lv_iinc (v := (y5 + 1)) (lv' := [(5, .int (y5 + 1)), (0, .ref (ad t0)), (1, .int y1), (2, .ref (ad t2)), (3, .int y3), (4, .int y4)]) hx hb dX4_alike_46 hl (k := 5) rfl ii_1 (by decide) rfl (fun ls hl => ?_)
          refine lv_goto (tgt := 20) hx hb dX4_alike_49 rfl ?_
          exact ih (y5 + 1) hf _ _ _ X (lv_sub hl [1, 2, 3, 4, 5, 0] rfl)
  rw [fX4_alike] at hf
  refine lv_aload_n hx hb dX4_alike_0 rfl (lv_at hl 0 rfl) ?_
  refine xg_f hx hb hts hown X h4 i (wlC_t hi) rfl 1 (by decide) (by decide +kernel) (v := .int (ts i)) rfl dX4_alike_1 ?_
  refine lv_iload_n hx hb dX4_alike_4 rfl (lv_at hl 1 rfl) ?_
  refine lv_isub hx hb dX4_alike_5 ?_
  refine lv_aload_n hx hb dX4_alike_6 rfl (lv_at hl 2 rfl) ?_
  refine xg_f hx hb hts hown X h4 j2 (wlC_t hj2) rfl 1 (by decide) (by decide +kernel) (v := .int (ts j2)) rfl dX4_alike_7 ?_
  refine lv_iload_n hx hb dX4_alike_10 rfl (lv_at hl 3 rfl) ?_
  refine lv_isub hx hb dX4_alike_11 ?_
  refine xr_min hx hb hts hown (hml.trans hl.1.symm) (by decide +kernel) (by decide +kernel) (by decide +kernel) (by decide +kernel) (Nat.le_of_ble_eq_true rfl) (Nat.le_of_ble_eq_true rfl) ⟨Nat.zero_le _, Nat.zero_le _⟩ dX4_alike_12 ?_
  refine lv_istore (lv' := [(4, .int (miI ((ts i) - x1) ((ts j2) - x3))), (0, .ref (ad i)), (1, .int x1), (2, .ref (ad j2)), (3, .int x3)]) hx hb dX4_alike_15 hl (by decide) rfl (fun ls hl => ?_)
  refine lv_iconst (v := (0 : Int32)) hx hb dX4_alike_17 rfl ?_
  refine lv_istore (lv' := [(5, .int (0 : Int32)), (4, .int (miI ((ts i) - x1) ((ts j2) - x3))), (0, .ref (ad i)), (1, .int x1), (2, .ref (ad j2)), (3, .int x3)]) hx hb dX4_alike_18 hl (by decide) rfl (fun ls hl => ?_)
  exact w20 i x1 j2 x3 (miI ((ts i) - x1) ((ts j2) - x3)) hi hj2 fu (0 : Int32) hf _ _ _ X (lv_sub hl [2, 3, 4, 5, 1, 0] rfl)
set_option maxRecDepth 100000 in
set_option maxHeartbeats 4000000 in
theorem mX4_hasAt {l : Launch} {dd : va_G} {cy : Nat → ClassId} {ad : Nat → Nat} {A : Nat → Prop} {fu : Nat} {ts : Nat → Int32} {tc : Nat → Nat → Int32} {rk : Nat → Int32} {pl : Nat → Int32} {ru : Nat → Int64} {sl : Nat → Int32} {bg : Nat → Int32} {kn : Nat → Int64} {rm : Int32} {ol : Nat → Int64} {od : Nat → UInt64} {i : Nat} {x1 : Int32} {j2 : Nat} {rv : Int32} (hi : i < 7) (hj2 : j2 < 7) (hf : fX4_hasAt fu ts tc i x1 j2 = some rv) : Met l yX4_hasAt wsX4_hasAt { frames := 2, cells := 0, slots := 0, locals := 57 } (va_Pc [.ref (ad i), .int x1, .ref (ad j2)] (IW dd cy A (wlC ad cy ts tc rk pl ru sl bg kn rm ol od))) (QX dd cy A (some (.int rv)) (wlC ad cy ts tc rk pl ru sl bg kn rm ol od)) 0 0 A := by
  refine Met.ofW (cc := cX4_hasAt) (maxL := 3) (ret := some .boolean) (by decide) rfl ?_
  intro p e s m args below meth c s₁ B hml hv
  obtain ⟨hav, hI⟩ := hv
  have hx := B.exec
  have hb := B.bytes
  have hr := B.returns
  have hts := atoms_spec (ws := wsX4_hasAt) B.pre
  have hown : s.vm.findClass RX4 = some m.cls := findClass_of_methodNamed B.named
  have hlocks := B.notSynchronized
  have X := XW.of hI
  have h4 : ∀ w ∈ wsX40, w ∈ wsX4_hasAt := by decide +kernel
  refine xe_in hav (Nat.le_of_ble_eq_true rfl) rfl (fun ls hl => ?_)
  rw [fX4_hasAt] at hf
  refine lv_aload_n hx hb dX4_hasAt_0 rfl (lv_at hl 0 rfl) ?_
  refine lv_iload_n hx hb dX4_hasAt_1 rfl (lv_at hl 1 rfl) ?_
  refine lv_aload_n hx hb dX4_hasAt_2 rfl (lv_at hl 2 rfl) ?_
  refine lv_iconst (v := (0 : Int32)) hx hb dX4_hasAt_3 rfl ?_
  refine xb hf (fun v1 hv hf => ?_)
  refine xc_V1 (rest := []) ⟨hx, hb, hml, hown, hts⟩ (mX4_alike hi hj2 hv) (cwV 3 hts gX4_hasAt_X4_alike rfl rfl rfl hqX4_alike ⟨Nat.le_of_ble_eq_true rfl, Nat.le_of_ble_eq_true rfl⟩) X (va_recv X.1 X.2.1 (ci := 0) (q0 := i) rfl (wlC_t hi)) rfl hl.1 rfl (Nat.le_of_ble_eq_true rfl) dX4_hasAt_4 ⟨Nat.zero_le _, Nat.zero_le _⟩ (fun H locs X => ?_)
  refine lv_aload_n hx hb dX4_hasAt_7 rfl (lv_at hl 2 rfl) ?_
  refine xg_f hx hb hts hown X h4 j2 (wlC_t hj2) rfl 1 (by decide) (by decide +kernel) (v := .int (ts j2)) rfl dX4_hasAt_8 ?_
  refine xr_icmp_ne (tgt := 18) hx hb dX4_hasAt_11 rfl hf (fun hf => ?_) (fun hf => ?_)
  · refine lv_iconst (v := (0 : Int32)) hx hb dX4_hasAt_18 rfl ?_
    cases hf
    exact xe_z hx hb hr hlocks X rfl dX4_hasAt_19
  · refine lv_iconst (v := (1 : Int32)) hx hb dX4_hasAt_14 rfl ?_
    refine lv_goto (tgt := 19) hx hb dX4_hasAt_15 rfl ?_
    cases hf
    exact xe_z hx hb hr hlocks X rfl dX4_hasAt_19
set_option maxRecDepth 100000 in
set_option maxHeartbeats 4000000 in
theorem mX4_countOf {l : Launch} {dd : va_G} {cy : Nat → ClassId} {ad : Nat → Nat} {A : Nat → Prop} {fu : Nat} {ts : Nat → Int32} {tc : Nat → Nat → Int32} {rk : Nat → Int32} {pl : Nat → Int32} {ru : Nat → Int64} {sl : Nat → Int32} {bg : Nat → Int32} {kn : Nat → Int64} {rm : Int32} {ol : Nat → Int64} {od : Nat → UInt64} {i : Nat} {j1 : Nat} {x2 : Int32} {rv : Int32} (hi : i < 7) (hj1 : j1 < 7) (hf : fX4_countOf fu ts tc i j1 x2 = some rv) : Met l yX4_countOf wsX4_countOf { frames := 3, cells := 0, slots := 0, locals := 79 } (va_Pc [.ref (ad i), .ref (ad j1), .int x2] (IW dd cy A (wlC ad cy ts tc rk pl ru sl bg kn rm ol od))) (QX dd cy A (some (.int rv)) (wlC ad cy ts tc rk pl ru sl bg kn rm ol od)) 0 0 A := by
  refine Met.ofW (cc := cX4_countOf) (maxL := 6) (ret := some .int) (by decide) rfl ?_
  intro p e s m args below meth c s₁ B hml hv
  obtain ⟨hav, hI⟩ := hv
  have hx := B.exec
  have hb := B.bytes
  have hr := B.returns
  have hts := atoms_spec (ws := wsX4_countOf) B.pre
  have hown : s.vm.findClass RX4 = some m.cls := findClass_of_methodNamed B.named
  have hlocks := B.notSynchronized
  have X := XW.of hI
  have h4 : ∀ w ∈ wsX40, w ∈ wsX4_countOf := by decide +kernel
  refine xe_in hav (Nat.le_of_ble_eq_true rfl) rfl (fun ls hl => ?_)
  have w8 : ∀ (t0 : Nat) (t1 : Nat) (y2 : Int32) (ht0 : t0 < 7) (ht1 : t1 < 7) (n : Nat) (y3 : Int32) (y4 : Int32) (y5 : Int32), fX4_countOf_8 fu ts tc t0 t1 y2 n y3 y4 y5 = some rv → ∀ (H : Heap) (locs : List Loc) (ls : Array Slot), XW dd cy A s (wlC ad cy ts tc rk pl ru sl bg kn rm ol od) H locs → lv_has ls 6 [(0, .ref (ad t0)), (1, .ref (ad t1)), (2, .int y2), (3, .int y3), (4, .int y4), (5, .int y5)] → W p l e (headSpec wsX4_countOf { frames := 3, cells := 0, slots := 0, locals := 79 }).room s m args below meth c H locs 0 0 (MQ below (QX dd cy A (some (.int rv)) (wlC ad cy ts tc rk pl ru sl bg kn rm ol od)) args s 0 0 A) (F0 m 8 ls []) := by
    intro t0 t1 y2 ht0 ht1 n
    induction n with
    | zero => intro y3 y4 y5 hf; exact absurd hf (by simp [fX4_countOf_8])
    | succ n ih =>
      intro y3 y4 y5 hf H locs ls X hl
      rw [fX4_countOf_8] at hf
      refine lv_iload hx hb dX4_countOf_8 (lv_at hl 5 rfl) ?_
      refine lv_aload_n hx hb dX4_countOf_10 rfl (lv_at hl 0 rfl) ?_
      refine xg_f hx hb hts hown X h4 t0 (wlC_t ht0) rfl 1 (by decide) (by decide +kernel) (v := .int (ts t0)) rfl dX4_countOf_11 ?_
      refine lv_aload_n hx hb dX4_countOf_14 rfl (lv_at hl 1 rfl) ?_
      refine xg_f hx hb hts hown X h4 t1 (wlC_t ht1) rfl 1 (by decide) (by decide +kernel) (v := .int (ts t1)) rfl dX4_countOf_15 ?_
      refine lv_isub hx hb dX4_countOf_18 ?_
      refine xr_icmp_gt (tgt := 66) hx hb dX4_countOf_19 rfl hf (fun hf => ?_) (fun hf => ?_)
      · refine lv_iload_n hx hb dX4_countOf_66 rfl (lv_at hl 3 rfl) ?_
        cases hf
        exact xe_i hx hb hr hlocks X dX4_countOf_67
      · refine lv_iload hx hb dX4_countOf_22 (lv_at hl 5 rfl) ?_
        refine lv_iload hx hb dX4_countOf_24 (lv_at hl 4 rfl) ?_
        refine xr_icmp_lt (tgt := 60) hx hb dX4_countOf_26 rfl hf (fun hf => ?_) (fun hf => ?_)
        · refine lv_iinc (v := (y5 + 1)) (lv' := [(5, .int (y5 + 1)), (0, .ref (ad t0)), (1, .ref (ad t1)), (2, .int y2), (3, .int y3), (4, .int y4)]) hx hb dX4_countOf_60 hl (k := 5) rfl ii_1 (by decide) rfl (fun ls hl => ?_)
          refine lv_goto (tgt := 8) hx hb dX4_countOf_63 rfl ?_
          exact ih y3 y4 (y5 + 1) hf _ _ _ X (lv_sub hl [1, 2, 3, 4, 5, 0] rfl)
        · refine lv_aload_n hx hb dX4_countOf_29 rfl (lv_at hl 0 rfl) ?_
          refine lv_iload hx hb dX4_countOf_30 (lv_at hl 5 rfl) ?_
          refine lv_aload_n hx hb dX4_countOf_32 rfl (lv_at hl 1 rfl) ?_
          refine xb hf (fun v1 hv hf => ?_)
          refine xc_V1 (rest := []) ⟨hx, hb, hml, hown, hts⟩ (mX4_hasAt ht0 ht1 hv) (cwV 2 hts gX4_countOf_X4_hasAt rfl rfl rfl hqX4_hasAt ⟨Nat.le_of_ble_eq_true rfl, Nat.le_of_ble_eq_true rfl⟩) X (va_recv X.1 X.2.1 (ci := 0) (q0 := t0) rfl (wlC_t ht0)) rfl hl.1 rfl (Nat.le_of_ble_eq_true rfl) dX4_countOf_33 ⟨Nat.zero_le _, Nat.zero_le _⟩ (fun H locs X => ?_)
          refine xr_if_eq (tgt := 60) hx hb dX4_countOf_36 rfl hf (fun hf => ?_) (fun hf => ?_)
          · refine lv_iinc (v := (y5 + 1)) (lv' := [(5, .int (y5 + 1)), (0, .ref (ad t0)), (1, .ref (ad t1)), (2, .int y2), (3, .int y3), (4, .int y4)]) hx hb dX4_countOf_60 hl (k := 5) rfl ii_1 (by decide) rfl (fun ls hl => ?_)
            refine lv_goto (tgt := 8) hx hb dX4_countOf_63 rfl ?_
            exact ih y3 y4 (y5 + 1) hf _ _ _ X (lv_sub hl [1, 2, 3, 4, 5, 0] rfl)
          · refine lv_iinc (v := (y3 + 1)) (lv' := [(3, .int (y3 + 1)), (0, .ref (ad t0)), (1, .ref (ad t1)), (2, .int y2), (4, .int y4), (5, .int y5)]) hx hb dX4_countOf_39 hl (k := 3) rfl ii_1 (by decide) rfl (fun ls hl => ?_)
            refine lv_iload_n hx hb dX4_countOf_42 rfl (lv_at hl 3 rfl) ?_
            refine xr_if_eq (tgt := 56) hx hb dX4_countOf_43 rfl hf (fun hf => ?_) (fun hf => ?_)
            · refine lv_iload hx hb dX4_countOf_56 (lv_at hl 5 rfl) ?_
              refine lv_istore (lv' := [(4, .int y5), (3, .int (y3 + 1)), (0, .ref (ad t0)), (1, .ref (ad t1)), (2, .int y2), (5, .int y5)]) hx hb dX4_countOf_58 hl (by decide) rfl (fun ls hl => ?_)
              refine lv_iinc (v := (y5 + 1)) (lv' := [(5, .int (y5 + 1)), (4, .int y5), (3, .int (y3 + 1)), (0, .ref (ad t0)), (1, .ref (ad t1)), (2, .int y2)]) hx hb dX4_countOf_60 hl (k := 5) rfl ii_1 (by decide) rfl (fun ls hl => ?_)
              refine lv_goto (tgt := 8) hx hb dX4_countOf_63 rfl ?_
              exact ih (y3 + 1) y5 (y5 + 1) hf _ _ _ X (lv_sub hl [3, 4, 5, 2, 1, 0] rfl)
            · refine lv_iload hx hb dX4_countOf_46 (lv_at hl 5 rfl) ?_
              refine lv_aload_n hx hb dX4_countOf_48 rfl (lv_at hl 2 rfl) ?_
              refine xg_f hx hb hts hown X h4 t1 (wlC_t ht1) rfl 1 (by decide) (by decide +kernel) (v := .int (ts t1)) rfl dX4_countOf_49 ?_
              refine lv_iadd hx hb dX4_countOf_52 ?_
              refine lv_goto (tgt := 58) hx hb dX4_countOf_53 rfl ?_
              refine lv_istore (lv' := [(4, .int (y5 + (ts t1))), (3, .int (y3 + 1)), (0, .ref (ad t0)), (1, .ref (ad t1)), (2, .int y2), (5, .int y5)]) hx hb dX4_countOf_58 hl (by decide) rfl (fun ls hl => ?_)
              refine lv_iinc (v := (y5 + 1)) (lv' := [(5, .int (y5 + 1)), (4, .int (y5 + (ts t1))), (3, .int (y3 + 1)), (0, .ref (ad t0)), (1, .ref (ad t1)), (2, .int y2)]) hx hb dX4_countOf_60 hl (k := 5) rfl ii_1 (by decide) rfl (fun ls hl => ?_)
              refine lv_goto (tgt := 8) hx hb dX4_countOf_63 rfl ?_
              exact ih (y3 + 1) (y5 + (ts t1)) (y5 + 1) hf _ _ _ X (lv_sub hl [3, 4, 5, 2, 1, 0] rfl)
  rw [fX4_countOf] at hf
  refine lv_iconst (v := (0 : Int32)) hx hb dX4_countOf_0 rfl ?_
  refine lv_istore_n (lv' := [(3, .int (0 : Int32)), (0, .ref (ad i)), (1, .ref (ad j1)), (2, .int x2)]) hx hb dX4_countOf_1 rfl hl (by decide) rfl (fun ls hl => ?_)
  refine lv_iconst (v := (0 : Int32)) hx hb dX4_countOf_2 rfl ?_
  refine lv_istore (lv' := [(4, .int (0 : Int32)), (3, .int (0 : Int32)), (0, .ref (ad i)), (1, .ref (ad j1)), (2, .int x2)]) hx hb dX4_countOf_3 hl (by decide) rfl (fun ls hl => ?_)
  refine lv_iconst (v := (0 : Int32)) hx hb dX4_countOf_5 rfl ?_
  refine lv_istore (lv' := [(5, .int (0 : Int32)), (4, .int (0 : Int32)), (3, .int (0 : Int32)), (0, .ref (ad i)), (1, .ref (ad j1)), (2, .int x2)]) hx hb dX4_countOf_6 hl (by decide) rfl (fun ls hl => ?_)
  exact w8 i j1 x2 hi hj1 fu (0 : Int32) (0 : Int32) (0 : Int32) hf _ _ _ X (lv_sub hl [3, 4, 5, 2, 1, 0] rfl)
set_option maxRecDepth 100000 in
set_option maxHeartbeats 4000000 in
theorem mX4_compareWith {l : Launch} {dd : va_G} {cy : Nat → ClassId} {ad : Nat → Nat} {A : Nat → Prop} {fu : Nat} {ts : Nat → Int32} {tc : Nat → Nat → Int32} {rk : Nat → Int32} {pl : Nat → Int32} {ru : Nat → Int64} {sl : Nat → Int32} {bg : Nat → Int32} {kn : Nat → Int64} {rm : Int32} {ol : Nat → Int64} {od : Nat → UInt64} {i : Nat} {j1 : Nat} {rv : Int32} (hi : i < 7) (hj1 : j1 < 7) (hf : fX4_compareWith fu ts tc i j1 = some rv) : Met l yX4_compareWith wsX4_compareWith { frames := 2, cells := 0, slots := 0, locals := 57 } (va_Pc [.ref (ad i), .ref (ad j1)] (IW dd cy A (wlC ad cy ts tc rk pl ru sl bg kn rm ol od))) (QX dd cy A (some (.int rv)) (wlC ad cy ts tc rk pl ru sl bg kn rm ol od)) 0 0 A := by
  refine Met.ofW (cc := cX4_compareWith) (maxL := 3) (ret := some .int) (by decide) rfl ?_
  intro p e s m args below meth c s₁ B hml hv
  obtain ⟨hav, hI⟩ := hv
  have hx := B.exec
  have hb := B.bytes
  have hr := B.returns
  have hts := atoms_spec (ws := wsX4_compareWith) B.pre
  have hown : s.vm.findClass RX4 = some m.cls := findClass_of_methodNamed B.named
  have hlocks := B.notSynchronized
  have X := XW.of hI
  have h4 : ∀ w ∈ wsX40, w ∈ wsX4_compareWith := by decide +kernel
  refine xe_in hav (Nat.le_of_ble_eq_true rfl) rfl (fun ls hl => ?_)
  rw [fX4_compareWith] at hf
  refine lv_aload_n hx hb dX4_compareWith_0 rfl (lv_at hl 0 rfl) ?_
  refine lv_iconst (v := (0 : Int32)) hx hb dX4_compareWith_1 rfl ?_
  refine lv_aload_n hx hb dX4_compareWith_2 rfl (lv_at hl 1 rfl) ?_
  refine lv_iconst (v := (0 : Int32)) hx hb dX4_compareWith_3 rfl ?_
  refine xb hf (fun v1 hv hf => ?_)
  refine xc_V1 (rest := []) ⟨hx, hb, hml, hown, hts⟩ (mX4_alike hi hj1 hv) (cwV 3 hts gX4_compareWith_X4_alike rfl rfl rfl hqX4_alike ⟨Nat.le_of_ble_eq_true rfl, Nat.le_of_ble_eq_true rfl⟩) X (va_recv X.1 X.2.1 (ci := 0) (q0 := i) rfl (wlC_t hi)) rfl hl.1 rfl (Nat.le_of_ble_eq_true rfl) dX4_compareWith_4 ⟨Nat.zero_le _, Nat.zero_le _⟩ (fun H locs X => ?_)
  refine lv_istore_n (lv' := [(2, .int v1), (0, .ref (ad i)), (1, .ref (ad j1))]) hx hb dX4_compareWith_7 rfl hl (by decide) rfl (fun ls hl => ?_)
  refine lv_iload_n hx hb dX4_compareWith_8 rfl (lv_at hl 0 rfl) ?_
  refine lv_aload_n hx hb dX4_compareWith_9 rfl (lv_at hl 1 rfl) ?_
  refine xg_f hx hb hts hown X h4 i (wlC_t hi) rfl 1 (by decide) (by decide +kernel) (v := .int (ts i)) rfl dX4_compareWith_10 ?_
  refine xr_icmp_ge (tgt := 36) hx hb dX4_compareWith_13 rfl hf (fun hf => ?_) (fun hf => ?_)
  · refine lv_aload_n hx hb dX4_compareWith_36 rfl (lv_at hl 1 rfl) ?_
    refine xg_f hx hb hts hown X h4 i (wlC_t hi) rfl 1 (by decide) (by decide +kernel) (v := .int (ts i)) rfl dX4_compareWith_37 ?_
    refine lv_aload_n hx hb dX4_compareWith_40 rfl (lv_at hl 2 rfl) ?_
    refine xg_f hx hb hts hown X h4 j1 (wlC_t hj1) rfl 1 (by decide) (by decide +kernel) (v := .int (ts j1)) rfl dX4_compareWith_41 ?_
    refine lv_isub hx hb dX4_compareWith_44 ?_
    cases hf
    exact xe_i hx hb hr hlocks X dX4_compareWith_45
  · refine lv_iload_n hx hb dX4_compareWith_16 rfl (lv_at hl 0 rfl) ?_
    refine lv_aload_n hx hb dX4_compareWith_17 rfl (lv_at hl 2 rfl) ?_
    refine xg_f hx hb hts hown X h4 j1 (wlC_t hj1) rfl 1 (by decide) (by decide +kernel) (v := .int (ts j1)) rfl dX4_compareWith_18 ?_
    refine xr_icmp_ge (tgt := 36) hx hb dX4_compareWith_21 rfl hf (fun hf => ?_) (fun hf => ?_)
    · refine lv_aload_n hx hb dX4_compareWith_36 rfl (lv_at hl 1 rfl) ?_
      refine xg_f hx hb hts hown X h4 i (wlC_t hi) rfl 1 (by decide) (by decide +kernel) (v := .int (ts i)) rfl dX4_compareWith_37 ?_
      refine lv_aload_n hx hb dX4_compareWith_40 rfl (lv_at hl 2 rfl) ?_
      refine xg_f hx hb hts hown X h4 j1 (wlC_t hj1) rfl 1 (by decide) (by decide +kernel) (v := .int (ts j1)) rfl dX4_compareWith_41 ?_
      refine lv_isub hx hb dX4_compareWith_44 ?_
      cases hf
      exact xe_i hx hb hr hlocks X dX4_compareWith_45
    · refine lv_aload_n hx hb dX4_compareWith_24 rfl (lv_at hl 1 rfl) ?_
      refine lv_iload_n hx hb dX4_compareWith_25 rfl (lv_at hl 0 rfl) ?_
      refine xb hf (fun v2 hv hf => ?_)
      refine xc_V1 (rest := []) ⟨hx, hb, hml, hown, hts⟩ (mX4_signOn hi hv) (cwV 1 hts gX4_compareWith_X4_signOn rfl rfl rfl hqX4_signOn ⟨Nat.le_of_ble_eq_true rfl, Nat.le_of_ble_eq_true rfl⟩) X (va_recv X.1 X.2.1 (ci := 0) (q0 := i) rfl (wlC_t hi)) rfl hl.1 rfl (Nat.le_of_ble_eq_true rfl) dX4_compareWith_26 ⟨Nat.zero_le _, Nat.zero_le _⟩ (fun H locs X => ?_)
      refine lv_aload_n hx hb dX4_compareWith_29 rfl (lv_at hl 2 rfl) ?_
      refine lv_iload_n hx hb dX4_compareWith_30 rfl (lv_at hl 0 rfl) ?_
      refine xb hf (fun v3 hv hf => ?_)
      refine xc_V1 (rest := [.int v2]) ⟨hx, hb, hml, hown, hts⟩ (mX4_signOn hj1 hv) (cwV 1 hts gX4_compareWith_X4_signOn rfl rfl rfl hqX4_signOn ⟨Nat.le_of_ble_eq_true rfl, Nat.le_of_ble_eq_true rfl⟩) X (va_recv X.1 X.2.1 (ci := 0) (q0 := j1) rfl (wlC_t hj1)) rfl hl.1 rfl (Nat.le_of_ble_eq_true rfl) dX4_compareWith_31 ⟨Nat.zero_le _, Nat.zero_le _⟩ (fun H locs X => ?_)
      refine lv_isub hx hb dX4_compareWith_34 ?_
      cases hf
      exact xe_i hx hb hr hlocks X dX4_compareWith_35
set_option maxRecDepth 100000 in
set_option maxHeartbeats 4000000 in
theorem mX4_alikeAtEnd {l : Launch} {dd : va_G} {cy : Nat → ClassId} {ad : Nat → Nat} {A : Nat → Prop} {fu : Nat} {ts : Nat → Int32} {tc : Nat → Nat → Int32} {rk : Nat → Int32} {pl : Nat → Int32} {ru : Nat → Int64} {sl : Nat → Int32} {bg : Nat → Int32} {kn : Nat → Int64} {rm : Int32} {ol : Nat → Int64} {od : Nat → UInt64} {i : Nat} {j1 : Nat} {rv : Int32} (hi : i < 7) (hj1 : j1 < 7) (hf : fX4_alikeAtEnd fu ts tc i j1 = some rv) : Met l yX4_alikeAtEnd wsX4_alikeAtEnd { frames := 1, cells := 0, slots := 0, locals := 32 } (va_Pc [.ref (ad i), .ref (ad j1)] (IW dd cy A (wlC ad cy ts tc rk pl ru sl bg kn rm ol od))) (QX dd cy A (some (.int rv)) (wlC ad cy ts tc rk pl ru sl bg kn rm ol od)) 0 0 A := by
  refine Met.ofW (cc := cX4_alikeAtEnd) (maxL := 4) (ret := some .int) (by decide) rfl ?_
  intro p e s m args below meth c s₁ B hml hv
  obtain ⟨hav, hI⟩ := hv
  have hx := B.exec
  have hb := B.bytes
  have hr := B.returns
  have hts := atoms_spec (ws := wsX4_alikeAtEnd) B.pre
  have hown : s.vm.findClass RX4 = some m.cls := findClass_of_methodNamed B.named
  have hlocks := B.notSynchronized
  have X := XW.of hI
  have h4 : ∀ w ∈ wsX40, w ∈ wsX4_alikeAtEnd := by decide +kernel
  refine xe_in hav (Nat.le_of_ble_eq_true rfl) rfl (fun ls hl => ?_)
  have w14 : ∀ (t0 : Nat) (t1 : Nat) (y2 : Int32) (ht0 : t0 < 7) (ht1 : t1 < 7) (n : Nat) (y3 : Int32), fX4_alikeAtEnd_14 fu ts tc t0 t1 y2 n y3 = some rv → ∀ (H : Heap) (locs : List Loc) (ls : Array Slot), XW dd cy A s (wlC ad cy ts tc rk pl ru sl bg kn rm ol od) H locs → lv_has ls 4 [(0, .ref (ad t0)), (1, .ref (ad t1)), (2, .int y2), (3, .int y3)] → W p l e (headSpec wsX4_alikeAtEnd { frames := 1, cells := 0, slots := 0, locals := 32 }).room s m args below meth c H locs 0 0 (MQ below (QX dd cy A (some (.int rv)) (wlC ad cy ts tc rk pl ru sl bg kn rm ol od)) args s 0 0 A) (F0 m 14 ls []) := by
    intro t0 t1 y2 ht0 ht1 n
    induction n with
    | zero => intro y3 hf; exact absurd hf (by simp [fX4_alikeAtEnd_14])
    | succ n ih =>
      intro y3 hf H locs ls X hl
      rw [fX4_alikeAtEnd_14] at hf
      refine lv_iload_n hx hb dX4_alikeAtEnd_14 rfl (lv_at hl 3 rfl) ?_
      refine lv_iload_n hx hb dX4_alikeAtEnd_15 rfl (lv_at hl 2 rfl) ?_
      refine xr_icmp_ge (tgt := 52) hx hb dX4_alikeAtEnd_16 rfl hf (fun hf => ?_) (fun hf => ?_)
      · refine lv_iload_n hx hb dX4_alikeAtEnd_52 rfl (lv_at hl 3 rfl) ?_
        cases hf
        exact xe_i hx hb hr hlocks X dX4_alikeAtEnd_53
      · refine lv_aload_n hx hb dX4_alikeAtEnd_19 rfl (lv_at hl 0 rfl) ?_
        refine lv_aload_n hx hb dX4_alikeAtEnd_20 rfl (lv_at hl 0 rfl) ?_
        refine xg_f hx hb hts hown X h4 t0 (wlC_t ht0) rfl 1 (by decide) (by decide +kernel) (v := .int (ts t0)) rfl dX4_alikeAtEnd_21 ?_
        refine lv_iconst (v := (1 : Int32)) hx hb dX4_alikeAtEnd_24 rfl ?_
        refine lv_isub hx hb dX4_alikeAtEnd_25 ?_
        refine lv_iload_n hx hb dX4_alikeAtEnd_26 rfl (lv_at hl 3 rfl) ?_
        refine lv_isub hx hb dX4_alikeAtEnd_27 ?_
        refine xb hf (fun v1 hv hf => ?_)
        refine xc_V1 (rest := []) ⟨hx, hb, hml, hown, hts⟩ (mX4_signOn ht0 hv) (cwV 1 hts gX4_alikeAtEnd_X4_signOn rfl rfl rfl hqX4_signOn ⟨Nat.le_of_ble_eq_true rfl, Nat.le_of_ble_eq_true rfl⟩) X (va_recv X.1 X.2.1 (ci := 0) (q0 := t0) rfl (wlC_t ht0)) rfl hl.1 rfl (Nat.le_of_ble_eq_true rfl) dX4_alikeAtEnd_28 ⟨Nat.zero_le _, Nat.zero_le _⟩ (fun H locs X => ?_)
        refine lv_aload_n hx hb dX4_alikeAtEnd_31 rfl (lv_at hl 1 rfl) ?_
        refine lv_aload_n hx hb dX4_alikeAtEnd_32 rfl (lv_at hl 1 rfl) ?_
        refine xg_f hx hb hts hown X h4 t1 (wlC_t ht1) rfl 1 (by decide) (by decide +kernel) (v := .int (ts t1)) rfl dX4_alikeAtEnd_33 ?_
        refine lv_iconst (v := (1 : Int32)) hx hb dX4_alikeAtEnd_36 rfl ?_
        refine lv_isub hx hb dX4_alikeAtEnd_37 ?_
        refine lv_iload_n hx hb dX4_alikeAtEnd_38 rfl (lv_at hl 3 rfl) ?_
        refine lv_isub hx hb dX4_alikeAtEnd_39 ?_
        refine xb hf (fun v2 hv hf => ?_)
        refine xc_V1 (rest := [.int v1]) ⟨hx, hb, hml, hown, hts⟩ (mX4_signOn ht1 hv) (cwV 1 hts gX4_alikeAtEnd_X4_signOn rfl rfl rfl hqX4_signOn ⟨Nat.le_of_ble_eq_true rfl, Nat.le_of_ble_eq_true rfl⟩) X (va_recv X.1 X.2.1 (ci := 0) (q0 := t1) rfl (wlC_t ht1)) rfl hl.1 rfl (Nat.le_of_ble_eq_true rfl) dX4_alikeAtEnd_40 ⟨Nat.zero_le _, Nat.zero_le _⟩ (fun H locs X => ?_)
        refine xr_icmp_ne (tgt := 52) hx hb dX4_alikeAtEnd_43 rfl hf (fun hf => ?_) (fun hf => ?_)
        · refine lv_iload_n hx hb dX4_alikeAtEnd_52 rfl (lv_at hl 3 rfl) ?_
          cases hf
          exact xe_i hx hb hr hlocks X dX4_alikeAtEnd_53
        · refine lv_iinc (v := (y3 + 1)) (lv' := [(3, .int (y3 + 1)), (0, .ref (ad t0)), (1, .ref (ad t1)), (2, .int y2)]) hx hb dX4_alikeAtEnd_46 hl (k := 3) rfl ii_1 (by decide) rfl (fun ls hl => ?_)
          refine lv_goto (tgt := 14) hx hb dX4_alikeAtEnd_49 rfl ?_
          exact ih (y3 + 1) hf _ _ _ X (lv_sub hl [1, 2, 3, 0] rfl)
  rw [fX4_alikeAtEnd] at hf
  refine lv_aload_n hx hb dX4_alikeAtEnd_0 rfl (lv_at hl 0 rfl) ?_
  refine xg_f hx hb hts hown X h4 i (wlC_t hi) rfl 1 (by decide) (by decide +kernel) (v := .int (ts i)) rfl dX4_alikeAtEnd_1 ?_
  refine lv_aload_n hx hb dX4_alikeAtEnd_4 rfl (lv_at hl 1 rfl) ?_
  refine xg_f hx hb hts hown X h4 j1 (wlC_t hj1) rfl 1 (by decide) (by decide +kernel) (v := .int (ts j1)) rfl dX4_alikeAtEnd_5 ?_
  refine xr_min hx hb hts hown (hml.trans hl.1.symm) (by decide +kernel) (by decide +kernel) (by decide +kernel) (by decide +kernel) (Nat.le_of_ble_eq_true rfl) (Nat.le_of_ble_eq_true rfl) ⟨Nat.zero_le _, Nat.zero_le _⟩ dX4_alikeAtEnd_8 ?_
  refine lv_istore_n (lv' := [(2, .int (miI (ts i) (ts j1))), (0, .ref (ad i)), (1, .ref (ad j1))]) hx hb dX4_alikeAtEnd_11 rfl hl (by decide) rfl (fun ls hl => ?_)
  refine lv_iconst (v := (0 : Int32)) hx hb dX4_alikeAtEnd_12 rfl ?_
  refine lv_istore_n (lv' := [(3, .int (0 : Int32)), (2, .int (miI (ts i) (ts j1))), (0, .ref (ad i)), (1, .ref (ad j1))]) hx hb dX4_alikeAtEnd_13 rfl hl (by decide) rfl (fun ls hl => ?_)
  exact w14 i j1 (miI (ts i) (ts j1)) hi hj1 fu (0 : Int32) hf _ _ _ X (lv_sub hl [2, 3, 1, 0] rfl)
set_option maxRecDepth 100000 in
set_option maxHeartbeats 4000000 in
theorem mX4_hashFrom {l : Launch} {dd : va_G} {cy : Nat → ClassId} {ad : Nat → Nat} {A : Nat → Prop} {fu : Nat} {ts : Nat → Int32} {tc : Nat → Nat → Int32} {rk : Nat → Int32} {pl : Nat → Int32} {ru : Nat → Int64} {sl : Nat → Int32} {bg : Nat → Int32} {kn : Nat → Int64} {rm : Int32} {ol : Nat → Int64} {od : Nat → UInt64} {i : Nat} {x1 : Int32} {rv : Int32} (hi : i < 7) (hf : fX4_hashFrom fu ts tc i x1 = some rv) : Met l yX4_hashFrom wsX4_hashFrom { frames := 1, cells := 0, slots := 0, locals := 21 } (va_Pc [.ref (ad i), .int x1] (IW dd cy A (wlC ad cy ts tc rk pl ru sl bg kn rm ol od))) (QX dd cy A (some (.int rv)) (wlC ad cy ts tc rk pl ru sl bg kn rm ol od)) 0 0 A := by
  refine Met.ofW (cc := cX4_hashFrom) (maxL := 4) (ret := some .int) (by decide) rfl ?_
  intro p e s m args below meth c s₁ B hml hv
  obtain ⟨hav, hI⟩ := hv
  have hx := B.exec
  have hb := B.bytes
  have hr := B.returns
  have hts := atoms_spec (ws := wsX4_hashFrom) B.pre
  have hown : s.vm.findClass RX4 = some m.cls := findClass_of_methodNamed B.named
  have hlocks := B.notSynchronized
  have X := XW.of hI
  have h4 : ∀ w ∈ wsX40, w ∈ wsX4_hashFrom := by decide +kernel
  refine xe_in hav (Nat.le_of_ble_eq_true rfl) rfl (fun ls hl => ?_)
  have w4 : ∀ (t0 : Nat) (ht0 : t0 < 7) (n : Nat) (y2 : Int32) (y3 : Int32), fX4_hashFrom_4 fu ts tc t0 n y2 y3 = some rv → ∀ (H : Heap) (locs : List Loc) (ls : Array Slot), XW dd cy A s (wlC ad cy ts tc rk pl ru sl bg kn rm ol od) H locs → lv_has ls 4 [(0, .ref (ad t0)), (2, .int y2), (3, .int y3)] → W p l e (headSpec wsX4_hashFrom { frames := 1, cells := 0, slots := 0, locals := 21 }).room s m args below meth c H locs 0 0 (MQ below (QX dd cy A (some (.int rv)) (wlC ad cy ts tc rk pl ru sl bg kn rm ol od)) args s 0 0 A) (F0 m 4 ls []) := by
    intro t0 ht0 n
    induction n with
    | zero => intro y2 y3 hf; exact absurd hf (by simp [fX4_hashFrom_4])
    | succ n ih =>
      intro y2 y3 hf H locs ls X hl
      rw [fX4_hashFrom_4] at hf
      refine lv_iload_n hx hb dX4_hashFrom_4 rfl (lv_at hl 2 rfl) ?_
      refine lv_aload_n hx hb dX4_hashFrom_5 rfl (lv_at hl 0 rfl) ?_
      refine xg_f hx hb hts hown X h4 t0 (wlC_t ht0) rfl 1 (by decide) (by decide +kernel) (v := .int (ts t0)) rfl dX4_hashFrom_6 ?_
      refine xr_icmp_ge (tgt := 29) hx hb dX4_hashFrom_9 rfl hf (fun hf => ?_) (fun hf => ?_)
      · refine lv_iload_n hx hb dX4_hashFrom_29 rfl (lv_at hl 1 rfl) ?_
        cases hf
        exact xe_i hx hb hr hlocks X dX4_hashFrom_30
      · refine lv_iload_n hx hb dX4_hashFrom_12 rfl (lv_at hl 1 rfl) ?_
        refine lv_bipush (v := (31 : Int32)) hx hb dX4_hashFrom_13 rfl ?_
        refine lv_imul hx hb dX4_hashFrom_15 ?_
        refine lv_aload_n hx hb dX4_hashFrom_16 rfl (lv_at hl 0 rfl) ?_
        refine lv_iload_n hx hb dX4_hashFrom_17 rfl (lv_at hl 2 rfl) ?_
        refine xb hf (fun v1 hv hf => ?_)
        refine xc_V1 (rest := [.int (y2 * (31 : Int32))]) ⟨hx, hb, hml, hown, hts⟩ (mX4_signOn ht0 hv) (cwV 1 hts gX4_hashFrom_X4_signOn rfl rfl rfl hqX4_signOn ⟨Nat.le_of_ble_eq_true rfl, Nat.le_of_ble_eq_true rfl⟩) X (va_recv X.1 X.2.1 (ci := 0) (q0 := t0) rfl (wlC_t ht0)) rfl hl.1 rfl (Nat.le_of_ble_eq_true rfl) dX4_hashFrom_18 ⟨Nat.zero_le _, Nat.zero_le _⟩ (fun H locs X => ?_)
        refine lv_iadd hx hb dX4_hashFrom_21 ?_
        refine lv_istore_n (lv' := [(2, .int ((y2 * (31 : Int32)) + v1)), (0, .ref (ad t0)), (3, .int y3)]) hx hb dX4_hashFrom_22 rfl hl (by decide) rfl (fun ls hl => ?_)
        refine lv_iinc (v := (y3 + 1)) (lv' := [(3, .int (y3 + 1)), (2, .int ((y2 * (31 : Int32)) + v1)), (0, .ref (ad t0))]) hx hb dX4_hashFrom_23 hl (k := 2) rfl ii_1 (by decide) rfl (fun ls hl => ?_)
        refine lv_goto (tgt := 4) hx hb dX4_hashFrom_26 rfl ?_
        exact ih ((y2 * (31 : Int32)) + v1) (y3 + 1) hf _ _ _ X (lv_sub hl [2, 1, 0] rfl)
  rw [fX4_hashFrom] at hf
  refine lv_iload_n hx hb dX4_hashFrom_0 rfl (lv_at hl 1 rfl) ?_
  refine lv_istore_n (lv' := [(2, .int x1), (0, .ref (ad i)), (1, .int x1)]) hx hb dX4_hashFrom_1 rfl hl (by decide) rfl (fun ls hl => ?_)
  refine lv_iconst (v := (0 : Int32)) hx hb dX4_hashFrom_2 rfl ?_
  refine lv_istore_n (lv' := [(3, .int (0 : Int32)), (2, .int x1), (0, .ref (ad i)), (1, .int x1)]) hx hb dX4_hashFrom_3 rfl hl (by decide) rfl (fun ls hl => ?_)
  exact w4 i hi fu x1 (0 : Int32) hf _ _ _ X (lv_sub hl [2, 1, 0] rfl)
set_option maxRecDepth 100000 in
set_option maxHeartbeats 4000000 in
theorem mX4_hashFactor {l : Launch} {dd : va_G} {cy : Nat → ClassId} {ad : Nat → Nat} {A : Nat → Prop} {fu : Nat} {ts : Nat → Int32} {tc : Nat → Nat → Int32} {rk : Nat → Int32} {pl : Nat → Int32} {ru : Nat → Int64} {sl : Nat → Int32} {bg : Nat → Int32} {kn : Nat → Int64} {rm : Int32} {ol : Nat → Int64} {od : Nat → UInt64} {i : Nat} {rv : Int32} (hi : i < 7) (hf : fX4_hashFactor fu ts i = some rv) : Met l yX4_hashFactor wsX4_hashFactor { frames := 0, cells := 0, slots := 0, locals := 0 } (va_Pc [.ref (ad i)] (IW dd cy A (wlC ad cy ts tc rk pl ru sl bg kn rm ol od))) (QX dd cy A (some (.int rv)) (wlC ad cy ts tc rk pl ru sl bg kn rm ol od)) 0 0 A := by
  refine Met.ofW (cc := cX4_hashFactor) (maxL := 3) (ret := some .int) (by decide) rfl ?_
  intro p e s m args below meth c s₁ B hml hv
  obtain ⟨hav, hI⟩ := hv
  have hx := B.exec
  have hb := B.bytes
  have hr := B.returns
  have hts := atoms_spec (ws := wsX4_hashFactor) B.pre
  have hown : s.vm.findClass RX4 = some m.cls := findClass_of_methodNamed B.named
  have hlocks := B.notSynchronized
  have X := XW.of hI
  have h4 : ∀ w ∈ wsX40, w ∈ wsX4_hashFactor := by decide +kernel
  refine xe_in hav (Nat.le_of_ble_eq_true rfl) rfl (fun ls hl => ?_)
  have w4 : ∀ (t0 : Nat) (ht0 : t0 < 7) (n : Nat) (y1 : Int32) (y2 : Int32), fX4_hashFactor_4 fu ts t0 n y1 y2 = some rv → ∀ (H : Heap) (locs : List Loc) (ls : Array Slot), XW dd cy A s (wlC ad cy ts tc rk pl ru sl bg kn rm ol od) H locs → lv_has ls 3 [(0, .ref (ad t0)), (1, .int y1), (2, .int y2)] → W p l e (headSpec wsX4_hashFactor { frames := 0, cells := 0, slots := 0, locals := 0 }).room s m args below meth c H locs 0 0 (MQ below (QX dd cy A (some (.int rv)) (wlC ad cy ts tc rk pl ru sl bg kn rm ol od)) args s 0 0 A) (F0 m 4 ls []) := by
    intro t0 ht0 n
    induction n with
    | zero => intro y1 y2 hf; exact absurd hf (by simp [fX4_hashFactor_4])
    | succ n ih =>
      intro y1 y2 hf H locs ls X hl
      rw [fX4_hashFactor_4] at hf
      refine lv_iload_n hx hb dX4_hashFactor_4 rfl (lv_at hl 2 rfl) ?_
      refine lv_aload_n hx hb dX4_hashFactor_5 rfl (lv_at hl 0 rfl) ?_
      refine xg_f hx hb hts hown X h4 t0 (wlC_t ht0) rfl 1 (by decide) (by decide +kernel) (v := .int (ts t0)) rfl dX4_hashFactor_6 ?_
      refine xr_icmp_ge (tgt := 23) hx hb dX4_hashFactor_9 rfl hf (fun hf => ?_) (fun hf => ?_)
      · refine lv_iload_n hx hb dX4_hashFactor_23 rfl (lv_at hl 1 rfl) ?_
        cases hf
        exact xe_i hx hb hr hlocks X dX4_hashFactor_24
      · refine lv_iload_n hx hb dX4_hashFactor_12 rfl (lv_at hl 1 rfl) ?_
        refine lv_bipush (v := (31 : Int32)) hx hb dX4_hashFactor_13 rfl ?_
        refine lv_imul hx hb dX4_hashFactor_15 ?_
        refine lv_istore_n (lv' := [(1, .int (y1 * (31 : Int32))), (0, .ref (ad t0)), (2, .int y2)]) hx hb dX4_hashFactor_16 rfl hl (by decide) rfl (fun ls hl => ?_)
        refine lv_iinc (v := (y2 + 1)) (lv' := [(2, .int (y2 + 1)), (1, .int (y1 * (31 : Int32))), (0, .ref (ad t0))]) hx hb dX4_hashFactor_17 hl (k := 2) rfl ii_1 (by decide) rfl (fun ls hl => ?_)
        refine lv_goto (tgt := 4) hx hb dX4_hashFactor_20 rfl ?_
        exact ih (y1 * (31 : Int32)) (y2 + 1) hf _ _ _ X (lv_sub hl [2, 1, 0] rfl)
  rw [fX4_hashFactor] at hf
  refine lv_iconst (v := (1 : Int32)) hx hb dX4_hashFactor_0 rfl ?_
  refine lv_istore_n (lv' := [(1, .int (1 : Int32)), (0, .ref (ad i))]) hx hb dX4_hashFactor_1 rfl hl (by decide) rfl (fun ls hl => ?_)
  refine lv_iconst (v := (0 : Int32)) hx hb dX4_hashFactor_2 rfl ?_
  refine lv_istore_n (lv' := [(2, .int (0 : Int32)), (1, .int (1 : Int32)), (0, .ref (ad i))]) hx hb dX4_hashFactor_3 rfl hl (by decide) rfl (fun ls hl => ?_)
  exact w4 i hi fu (1 : Int32) (0 : Int32) hf _ _ _ X (lv_sub hl [2, 1, 0] rfl)
set_option maxRecDepth 100000 in
set_option maxHeartbeats 4000000 in
theorem mX4_hasPeriod {l : Launch} {dd : va_G} {cy : Nat → ClassId} {ad : Nat → Nat} {A : Nat → Prop} {fu : Nat} {ts : Nat → Int32} {tc : Nat → Nat → Int32} {rk : Nat → Int32} {pl : Nat → Int32} {ru : Nat → Int64} {sl : Nat → Int32} {bg : Nat → Int32} {kn : Nat → Int64} {rm : Int32} {ol : Nat → Int64} {od : Nat → UInt64} {i : Nat} {x1 : Int32} {rv : Int32} (hi : i < 7) (hf : fX4_hasPeriod fu ts tc i x1 = some rv) : Met l yX4_hasPeriod wsX4_hasPeriod { frames := 2, cells := 0, slots := 0, locals := 57 } (va_Pc [.ref (ad i), .int x1] (IW dd cy A (wlC ad cy ts tc rk pl ru sl bg kn rm ol od))) (QX dd cy A (some (.int rv)) (wlC ad cy ts tc rk pl ru sl bg kn rm ol od)) 0 0 A := by
  refine Met.ofW (cc := cX4_hasPeriod) (maxL := 2) (ret := some .boolean) (by decide) rfl ?_
  intro p e s m args below meth c s₁ B hml hv
  obtain ⟨hav, hI⟩ := hv
  have hx := B.exec
  have hb := B.bytes
  have hr := B.returns
  have hts := atoms_spec (ws := wsX4_hasPeriod) B.pre
  have hown : s.vm.findClass RX4 = some m.cls := findClass_of_methodNamed B.named
  have hlocks := B.notSynchronized
  have X := XW.of hI
  have h4 : ∀ w ∈ wsX40, w ∈ wsX4_hasPeriod := by decide +kernel
  refine xe_in hav (Nat.le_of_ble_eq_true rfl) rfl (fun ls hl => ?_)
  rw [fX4_hasPeriod] at hf
  refine lv_aload_n hx hb dX4_hasPeriod_0 rfl (lv_at hl 0 rfl) ?_
  refine lv_iload_n hx hb dX4_hasPeriod_1 rfl (lv_at hl 1 rfl) ?_
  refine lv_aload_n hx hb dX4_hasPeriod_2 rfl (lv_at hl 0 rfl) ?_
  refine lv_iconst (v := (0 : Int32)) hx hb dX4_hasPeriod_3 rfl ?_
  refine xb hf (fun v1 hv hf => ?_)
  refine xc_V1 (rest := []) ⟨hx, hb, hml, hown, hts⟩ (mX4_alike hi hi hv) (cwV 3 hts gX4_hasPeriod_X4_alike rfl rfl rfl hqX4_alike ⟨Nat.le_of_ble_eq_true rfl, Nat.le_of_ble_eq_true rfl⟩) X (va_recv X.1 X.2.1 (ci := 0) (q0 := i) rfl (wlC_t hi)) rfl hl.1 rfl (Nat.le_of_ble_eq_true rfl) dX4_hasPeriod_4 ⟨Nat.zero_le _, Nat.zero_le _⟩ (fun H locs X => ?_)
  refine lv_aload_n hx hb dX4_hasPeriod_7 rfl (lv_at hl 0 rfl) ?_
  refine xg_f hx hb hts hown X h4 i (wlC_t hi) rfl 1 (by decide) (by decide +kernel) (v := .int (ts i)) rfl dX4_hasPeriod_8 ?_
  refine lv_iload_n hx hb dX4_hasPeriod_11 rfl (lv_at hl 1 rfl) ?_
  refine lv_isub hx hb dX4_hasPeriod_12 ?_
  refine xr_icmp_ne (tgt := 20) hx hb dX4_hasPeriod_13 rfl hf (fun hf => ?_) (fun hf => ?_)
  · refine lv_iconst (v := (0 : Int32)) hx hb dX4_hasPeriod_20 rfl ?_
    cases hf
    exact xe_z hx hb hr hlocks X rfl dX4_hasPeriod_21
  · refine lv_iconst (v := (1 : Int32)) hx hb dX4_hasPeriod_16 rfl ?_
    refine lv_goto (tgt := 21) hx hb dX4_hasPeriod_17 rfl ?_
    cases hf
    exact xe_z hx hb hr hlocks X rfl dX4_hasPeriod_21
set_option maxRecDepth 100000 in
set_option maxHeartbeats 4000000 in
theorem mX4_countPeriods {l : Launch} {dd : va_G} {cy : Nat → ClassId} {ad : Nat → Nat} {A : Nat → Prop} {fu : Nat} {ts : Nat → Int32} {tc : Nat → Nat → Int32} {rk : Nat → Int32} {pl : Nat → Int32} {ru : Nat → Int64} {sl : Nat → Int32} {bg : Nat → Int32} {kn : Nat → Int64} {rm : Int32} {ol : Nat → Int64} {od : Nat → UInt64} {i : Nat} {rv : Int32} (hi : i < 7) (hf : fX4_countPeriods fu ts tc i = some rv) : Met l yX4_countPeriods wsX4_countPeriods { frames := 3, cells := 0, slots := 0, locals := 78 } (va_Pc [.ref (ad i)] (IW dd cy A (wlC ad cy ts tc rk pl ru sl bg kn rm ol od))) (QX dd cy A (some (.int rv)) (wlC ad cy ts tc rk pl ru sl bg kn rm ol od)) 0 0 A := by
  refine Met.ofW (cc := cX4_countPeriods) (maxL := 3) (ret := some .int) (by decide) rfl ?_
  intro p e s m args below meth c s₁ B hml hv
  obtain ⟨hav, hI⟩ := hv
  have hx := B.exec
  have hb := B.bytes
  have hr := B.returns
  have hts := atoms_spec (ws := wsX4_countPeriods) B.pre
  have hown : s.vm.findClass RX4 = some m.cls := findClass_of_methodNamed B.named
  have hlocks := B.notSynchronized
  have X := XW.of hI
  have h4 : ∀ w ∈ wsX40, w ∈ wsX4_countPeriods := by decide +kernel
  refine xe_in hav (Nat.le_of_ble_eq_true rfl) rfl (fun ls hl => ?_)
  have w4 : ∀ (t0 : Nat) (ht0 : t0 < 7) (n : Nat) (y1 : Int32) (y2 : Int32), fX4_countPeriods_4 fu ts tc t0 n y1 y2 = some rv → ∀ (H : Heap) (locs : List Loc) (ls : Array Slot), XW dd cy A s (wlC ad cy ts tc rk pl ru sl bg kn rm ol od) H locs → lv_has ls 3 [(0, .ref (ad t0)), (1, .int y1), (2, .int y2)] → W p l e (headSpec wsX4_countPeriods { frames := 3, cells := 0, slots := 0, locals := 78 }).room s m args below meth c H locs 0 0 (MQ below (QX dd cy A (some (.int rv)) (wlC ad cy ts tc rk pl ru sl bg kn rm ol od)) args s 0 0 A) (F0 m 4 ls []) := by
    intro t0 ht0 n
    induction n with
    | zero => intro y1 y2 hf; exact absurd hf (by simp [fX4_countPeriods_4])
    | succ n ih =>
      intro y1 y2 hf H locs ls X hl
      rw [fX4_countPeriods_4] at hf
      refine lv_iload_n hx hb dX4_countPeriods_4 rfl (lv_at hl 2 rfl) ?_
      refine lv_aload_n hx hb dX4_countPeriods_5 rfl (lv_at hl 0 rfl) ?_
      refine xg_f hx hb hts hown X h4 t0 (wlC_t ht0) rfl 1 (by decide) (by decide +kernel) (v := .int (ts t0)) rfl dX4_countPeriods_6 ?_
      refine xr_icmp_gt (tgt := 29) hx hb dX4_countPeriods_9 rfl hf (fun hf => ?_) (fun hf => ?_)
      · refine lv_iload_n hx hb dX4_countPeriods_29 rfl (lv_at hl 1 rfl) ?_
        cases hf
        exact xe_i hx hb hr hlocks X dX4_countPeriods_30
      · refine lv_aload_n hx hb dX4_countPeriods_12 rfl (lv_at hl 0 rfl) ?_
        refine lv_iload_n hx hb dX4_countPeriods_13 rfl (lv_at hl 2 rfl) ?_
        refine xb hf (fun v1 hv hf => ?_)
        refine xc_V1 (rest := []) ⟨hx, hb, hml, hown, hts⟩ (mX4_hasPeriod ht0 hv) (cwV 1 hts gX4_countPeriods_X4_hasPeriod rfl rfl rfl hqX4_hasPeriod ⟨Nat.le_of_ble_eq_true rfl, Nat.le_of_ble_eq_true rfl⟩) X (va_recv X.1 X.2.1 (ci := 0) (q0 := t0) rfl (wlC_t ht0)) rfl hl.1 rfl (Nat.le_of_ble_eq_true rfl) dX4_countPeriods_14 ⟨Nat.zero_le _, Nat.zero_le _⟩ (fun H locs X => ?_)
        refine xr_if_eq (tgt := 23) hx hb dX4_countPeriods_17 rfl hf (fun hf => ?_) (fun hf => ?_)
        · refine lv_iinc (v := (y2 + 1)) (lv' := [(2, .int (y2 + 1)), (0, .ref (ad t0)), (1, .int y1)]) hx hb dX4_countPeriods_23 hl (k := 2) rfl ii_1 (by decide) rfl (fun ls hl => ?_)
          refine lv_goto (tgt := 4) hx hb dX4_countPeriods_26 rfl ?_
          exact ih y1 (y2 + 1) hf _ _ _ X (lv_sub hl [1, 2, 0] rfl)
        · refine lv_iinc (v := (y1 + 1)) (lv' := [(1, .int (y1 + 1)), (0, .ref (ad t0)), (2, .int y2)]) hx hb dX4_countPeriods_20 hl (k := 1) rfl ii_1 (by decide) rfl (fun ls hl => ?_)
          refine lv_iinc (v := (y2 + 1)) (lv' := [(2, .int (y2 + 1)), (1, .int (y1 + 1)), (0, .ref (ad t0))]) hx hb dX4_countPeriods_23 hl (k := 2) rfl ii_1 (by decide) rfl (fun ls hl => ?_)
          refine lv_goto (tgt := 4) hx hb dX4_countPeriods_26 rfl ?_
          exact ih (y1 + 1) (y2 + 1) hf _ _ _ X (lv_sub hl [2, 1, 0] rfl)
  rw [fX4_countPeriods] at hf
  refine lv_iconst (v := (0 : Int32)) hx hb dX4_countPeriods_0 rfl ?_
  refine lv_istore_n (lv' := [(1, .int (0 : Int32)), (0, .ref (ad i))]) hx hb dX4_countPeriods_1 rfl hl (by decide) rfl (fun ls hl => ?_)
  refine lv_iconst (v := (1 : Int32)) hx hb dX4_countPeriods_2 rfl ?_
  refine lv_istore_n (lv' := [(2, .int (1 : Int32)), (1, .int (0 : Int32)), (0, .ref (ad i))]) hx hb dX4_countPeriods_3 rfl hl (by decide) rfl (fun ls hl => ?_)
  exact w4 i hi fu (0 : Int32) (1 : Int32) hf _ _ _ X (lv_sub hl [2, 1, 0] rfl)
set_option maxRecDepth 100000 in
set_option maxHeartbeats 4000000 in
theorem mX4_leastPeriod {l : Launch} {dd : va_G} {cy : Nat → ClassId} {ad : Nat → Nat} {A : Nat → Prop} {fu : Nat} {ts : Nat → Int32} {tc : Nat → Nat → Int32} {rk : Nat → Int32} {pl : Nat → Int32} {ru : Nat → Int64} {sl : Nat → Int32} {bg : Nat → Int32} {kn : Nat → Int64} {rm : Int32} {ol : Nat → Int64} {od : Nat → UInt64} {i : Nat} {rv : Int32} (hi : i < 7) (hf : fX4_leastPeriod fu ts tc i = some rv) : Met l yX4_leastPeriod wsX4_leastPeriod { frames := 3, cells := 0, slots := 0, locals := 78 } (va_Pc [.ref (ad i)] (IW dd cy A (wlC ad cy ts tc rk pl ru sl bg kn rm ol od))) (QX dd cy A (some (.int rv)) (wlC ad cy ts tc rk pl ru sl bg kn rm ol od)) 0 0 A := by
  refine Met.ofW (cc := cX4_leastPeriod) (maxL := 2) (ret := some .int) (by decide) rfl ?_
  intro p e s m args below meth c s₁ B hml hv
  obtain ⟨hav, hI⟩ := hv
  have hx := B.exec
  have hb := B.bytes
  have hr := B.returns
  have hts := atoms_spec (ws := wsX4_leastPeriod) B.pre
  have hown : s.vm.findClass RX4 = some m.cls := findClass_of_methodNamed B.named
  have hlocks := B.notSynchronized
  have X := XW.of hI
  have h4 : ∀ w ∈ wsX40, w ∈ wsX4_leastPeriod := by decide +kernel
  refine xe_in hav (Nat.le_of_ble_eq_true rfl) rfl (fun ls hl => ?_)
  have w2 : ∀ (t0 : Nat) (ht0 : t0 < 7) (n : Nat) (y1 : Int32), fX4_leastPeriod_2 fu ts tc t0 n y1 = some rv → ∀ (H : Heap) (locs : List Loc) (ls : Array Slot), XW dd cy A s (wlC ad cy ts tc rk pl ru sl bg kn rm ol od) H locs → lv_has ls 2 [(0, .ref (ad t0)), (1, .int y1)] → W p l e (headSpec wsX4_leastPeriod { frames := 3, cells := 0, slots := 0, locals := 78 }).room s m args below meth c H locs 0 0 (MQ below (QX dd cy A (some (.int rv)) (wlC ad cy ts tc rk pl ru sl bg kn rm ol od)) args s 0 0 A) (F0 m 2 ls []) := by
    intro t0 ht0 n
    induction n with
    | zero => intro y1 hf; exact absurd hf (by simp [fX4_leastPeriod_2])
    | succ n ih =>
      intro y1 hf H locs ls X hl
      rw [fX4_leastPeriod_2] at hf
      refine lv_iload_n hx hb dX4_leastPeriod_2 rfl (lv_at hl 1 rfl) ?_
      refine lv_aload_n hx hb dX4_leastPeriod_3 rfl (lv_at hl 0 rfl) ?_
      refine xg_f hx hb hts hown X h4 t0 (wlC_t ht0) rfl 1 (by decide) (by decide +kernel) (v := .int (ts t0)) rfl dX4_leastPeriod_4 ?_
      refine xr_icmp_ge (tgt := 26) hx hb dX4_leastPeriod_7 rfl hf (fun hf => ?_) (fun hf => ?_)
      · refine lv_aload_n hx hb dX4_leastPeriod_26 rfl (lv_at hl 0 rfl) ?_
        refine xg_f hx hb hts hown X h4 t0 (wlC_t ht0) rfl 1 (by decide) (by decide +kernel) (v := .int (ts t0)) rfl dX4_leastPeriod_27 ?_
        cases hf
        exact xe_i hx hb hr hlocks X dX4_leastPeriod_30
      · refine lv_aload_n hx hb dX4_leastPeriod_10 rfl (lv_at hl 0 rfl) ?_
        refine lv_iload_n hx hb dX4_leastPeriod_11 rfl (lv_at hl 1 rfl) ?_
        refine xb hf (fun v1 hv hf => ?_)
        refine xc_V1 (rest := []) ⟨hx, hb, hml, hown, hts⟩ (mX4_hasPeriod ht0 hv) (cwV 1 hts gX4_leastPeriod_X4_hasPeriod rfl rfl rfl hqX4_hasPeriod ⟨Nat.le_of_ble_eq_true rfl, Nat.le_of_ble_eq_true rfl⟩) X (va_recv X.1 X.2.1 (ci := 0) (q0 := t0) rfl (wlC_t ht0)) rfl hl.1 rfl (Nat.le_of_ble_eq_true rfl) dX4_leastPeriod_12 ⟨Nat.zero_le _, Nat.zero_le _⟩ (fun H locs X => ?_)
        refine xr_if_eq (tgt := 20) hx hb dX4_leastPeriod_15 rfl hf (fun hf => ?_) (fun hf => ?_)
        · refine lv_iinc (v := (y1 + 1)) (lv' := [(1, .int (y1 + 1)), (0, .ref (ad t0))]) hx hb dX4_leastPeriod_20 hl (k := 1) rfl ii_1 (by decide) rfl (fun ls hl => ?_)
          refine lv_goto (tgt := 2) hx hb dX4_leastPeriod_23 rfl ?_
          exact ih (y1 + 1) hf _ _ _ X (lv_sub hl [1, 0] rfl)
        · refine lv_iload_n hx hb dX4_leastPeriod_18 rfl (lv_at hl 1 rfl) ?_
          cases hf
          exact xe_i hx hb hr hlocks X dX4_leastPeriod_19
  rw [fX4_leastPeriod] at hf
  refine lv_iconst (v := (1 : Int32)) hx hb dX4_leastPeriod_0 rfl ?_
  refine lv_istore_n (lv' := [(1, .int (1 : Int32)), (0, .ref (ad i))]) hx hb dX4_leastPeriod_1 rfl hl (by decide) rfl (fun ls hl => ?_)
  exact w2 i hi fu (1 : Int32) hf _ _ _ X (lv_sub hl [1, 0] rfl)
set_option maxRecDepth 100000 in
set_option maxHeartbeats 4000000 in
theorem mX4_rootSize {l : Launch} {dd : va_G} {cy : Nat → ClassId} {ad : Nat → Nat} {A : Nat → Prop} {fu : Nat} {ts : Nat → Int32} {tc : Nat → Nat → Int32} {rk : Nat → Int32} {pl : Nat → Int32} {ru : Nat → Int64} {sl : Nat → Int32} {bg : Nat → Int32} {kn : Nat → Int64} {rm : Int32} {ol : Nat → Int64} {od : Nat → UInt64} {i : Nat} {rv : Int32} (hi : i < 7) (hf : fX4_rootSize fu ts tc i = some rv) : Met l yX4_rootSize wsX4_rootSize { frames := 3, cells := 0, slots := 0, locals := 78 } (va_Pc [.ref (ad i)] (IW dd cy A (wlC ad cy ts tc rk pl ru sl bg kn rm ol od))) (QX dd cy A (some (.int rv)) (wlC ad cy ts tc rk pl ru sl bg kn rm ol od)) 0 0 A := by
  refine Met.ofW (cc := cX4_rootSize) (maxL := 2) (ret := some .int) (by decide) rfl ?_
  intro p e s m args below meth c s₁ B hml hv
  obtain ⟨hav, hI⟩ := hv
  have hx := B.exec
  have hb := B.bytes
  have hr := B.returns
  have hts := atoms_spec (ws := wsX4_rootSize) B.pre
  have hown : s.vm.findClass RX4 = some m.cls := findClass_of_methodNamed B.named
  have hlocks := B.notSynchronized
  have X := XW.of hI
  have h4 : ∀ w ∈ wsX40, w ∈ wsX4_rootSize := by decide +kernel
  refine xe_in hav (Nat.le_of_ble_eq_true rfl) rfl (fun ls hl => ?_)
  have w2 : ∀ (t0 : Nat) (ht0 : t0 < 7) (n : Nat) (y1 : Int32), fX4_rootSize_2 fu ts tc t0 n y1 = some rv → ∀ (H : Heap) (locs : List Loc) (ls : Array Slot), XW dd cy A s (wlC ad cy ts tc rk pl ru sl bg kn rm ol od) H locs → lv_has ls 2 [(0, .ref (ad t0)), (1, .int y1)] → W p l e (headSpec wsX4_rootSize { frames := 3, cells := 0, slots := 0, locals := 78 }).room s m args below meth c H locs 0 0 (MQ below (QX dd cy A (some (.int rv)) (wlC ad cy ts tc rk pl ru sl bg kn rm ol od)) args s 0 0 A) (F0 m 2 ls []) := by
    intro t0 ht0 n
    induction n with
    | zero => intro y1 hf; exact absurd hf (by simp [fX4_rootSize_2])
    | succ n ih =>
      intro y1 hf H locs ls X hl
      rw [fX4_rootSize_2] at hf
      refine lv_iload_n hx hb dX4_rootSize_2 rfl (lv_at hl 1 rfl) ?_
      refine lv_aload_n hx hb dX4_rootSize_3 rfl (lv_at hl 0 rfl) ?_
      refine xg_f hx hb hts hown X h4 t0 (wlC_t ht0) rfl 1 (by decide) (by decide +kernel) (v := .int (ts t0)) rfl dX4_rootSize_4 ?_
      refine xr_icmp_ge (tgt := 35) hx hb dX4_rootSize_7 rfl hf (fun hf => ?_) (fun hf => ?_)
      · refine lv_aload_n hx hb dX4_rootSize_35 rfl (lv_at hl 0 rfl) ?_
        refine xg_f hx hb hts hown X h4 t0 (wlC_t ht0) rfl 1 (by decide) (by decide +kernel) (v := .int (ts t0)) rfl dX4_rootSize_36 ?_
        cases hf
        exact xe_i hx hb hr hlocks X dX4_rootSize_39
      · refine lv_aload_n hx hb dX4_rootSize_10 rfl (lv_at hl 0 rfl) ?_
        refine xg_f hx hb hts hown X h4 t0 (wlC_t ht0) rfl 1 (by decide) (by decide +kernel) (v := .int (ts t0)) rfl dX4_rootSize_11 ?_
        refine lv_iload_n hx hb dX4_rootSize_14 rfl (lv_at hl 1 rfl) ?_
        refine xr_irem hx hb dX4_rootSize_15 hf (fun v1 hf => ?_)
        refine xr_if_ne (tgt := 29) hx hb dX4_rootSize_16 rfl hf (fun hf => ?_) (fun hf => ?_)
        · refine lv_iinc (v := (y1 + 1)) (lv' := [(1, .int (y1 + 1)), (0, .ref (ad t0))]) hx hb dX4_rootSize_29 hl (k := 1) rfl ii_1 (by decide) rfl (fun ls hl => ?_)
          refine lv_goto (tgt := 2) hx hb dX4_rootSize_32 rfl ?_
          exact ih (y1 + 1) hf _ _ _ X (lv_sub hl [1, 0] rfl)
        · refine lv_aload_n hx hb dX4_rootSize_19 rfl (lv_at hl 0 rfl) ?_
          refine lv_iload_n hx hb dX4_rootSize_20 rfl (lv_at hl 1 rfl) ?_
          refine xb hf (fun v2 hv hf => ?_)
          refine xc_V1 (rest := []) ⟨hx, hb, hml, hown, hts⟩ (mX4_hasPeriod ht0 hv) (cwV 1 hts gX4_rootSize_X4_hasPeriod rfl rfl rfl hqX4_hasPeriod ⟨Nat.le_of_ble_eq_true rfl, Nat.le_of_ble_eq_true rfl⟩) X (va_recv X.1 X.2.1 (ci := 0) (q0 := t0) rfl (wlC_t ht0)) rfl hl.1 rfl (Nat.le_of_ble_eq_true rfl) dX4_rootSize_21 ⟨Nat.zero_le _, Nat.zero_le _⟩ (fun H locs X => ?_)
          refine xr_if_eq (tgt := 29) hx hb dX4_rootSize_24 rfl hf (fun hf => ?_) (fun hf => ?_)
          · refine lv_iinc (v := (y1 + 1)) (lv' := [(1, .int (y1 + 1)), (0, .ref (ad t0))]) hx hb dX4_rootSize_29 hl (k := 1) rfl ii_1 (by decide) rfl (fun ls hl => ?_)
            refine lv_goto (tgt := 2) hx hb dX4_rootSize_32 rfl ?_
            exact ih (y1 + 1) hf _ _ _ X (lv_sub hl [1, 0] rfl)
          · refine lv_iload_n hx hb dX4_rootSize_27 rfl (lv_at hl 1 rfl) ?_
            cases hf
            exact xe_i hx hb hr hlocks X dX4_rootSize_28
  rw [fX4_rootSize] at hf
  refine lv_iconst (v := (1 : Int32)) hx hb dX4_rootSize_0 rfl ?_
  refine lv_istore_n (lv' := [(1, .int (1 : Int32)), (0, .ref (ad i))]) hx hb dX4_rootSize_1 rfl hl (by decide) rfl (fun ls hl => ?_)
  exact w2 i hi fu (1 : Int32) hf _ _ _ X (lv_sub hl [1, 0] rfl)
set_option maxRecDepth 100000 in
set_option maxHeartbeats 4000000 in
theorem mX4_isTurnedTo {l : Launch} {dd : va_G} {cy : Nat → ClassId} {ad : Nat → Nat} {A : Nat → Prop} {fu : Nat} {ts : Nat → Int32} {tc : Nat → Nat → Int32} {rk : Nat → Int32} {pl : Nat → Int32} {ru : Nat → Int64} {sl : Nat → Int32} {bg : Nat → Int32} {kn : Nat → Int64} {rm : Int32} {ol : Nat → Int64} {od : Nat → UInt64} {i : Nat} {x1 : Int32} {j2 : Nat} {rv : Int32} (hi : i < 7) (hj2 : j2 < 7) (hf : fX4_isTurnedTo fu ts tc i x1 j2 = some rv) : Met l yX4_isTurnedTo wsX4_isTurnedTo { frames := 2, cells := 0, slots := 0, locals := 57 } (va_Pc [.ref (ad i), .int x1, .ref (ad j2)] (IW dd cy A (wlC ad cy ts tc rk pl ru sl bg kn rm ol od))) (QX dd cy A (some (.int rv)) (wlC ad cy ts tc rk pl ru sl bg kn rm ol od)) 0 0 A := by
  refine Met.ofW (cc := cX4_isTurnedTo) (maxL := 3) (ret := some .boolean) (by decide) rfl ?_
  intro p e s m args below meth c s₁ B hml hv
  obtain ⟨hav, hI⟩ := hv
  have hx := B.exec
  have hb := B.bytes
  have hr := B.returns
  have hts := atoms_spec (ws := wsX4_isTurnedTo) B.pre
  have hown : s.vm.findClass RX4 = some m.cls := findClass_of_methodNamed B.named
  have hlocks := B.notSynchronized
  have X := XW.of hI
  have h4 : ∀ w ∈ wsX40, w ∈ wsX4_isTurnedTo := by decide +kernel
  refine xe_in hav (Nat.le_of_ble_eq_true rfl) rfl (fun ls hl => ?_)
  rw [fX4_isTurnedTo] at hf
  refine lv_aload_n hx hb dX4_isTurnedTo_0 rfl (lv_at hl 0 rfl) ?_
  refine xg_f hx hb hts hown X h4 i (wlC_t hi) rfl 1 (by decide) (by decide +kernel) (v := .int (ts i)) rfl dX4_isTurnedTo_1 ?_
  refine lv_aload_n hx hb dX4_isTurnedTo_4 rfl (lv_at hl 2 rfl) ?_
  refine xg_f hx hb hts hown X h4 j2 (wlC_t hj2) rfl 1 (by decide) (by decide +kernel) (v := .int (ts j2)) rfl dX4_isTurnedTo_5 ?_
  refine xr_icmp_ne (tgt := 47) hx hb dX4_isTurnedTo_8 rfl hf (fun hf => ?_) (fun hf => ?_)
  · refine lv_iconst (v := (0 : Int32)) hx hb dX4_isTurnedTo_47 rfl ?_
    cases hf
    exact xe_z hx hb hr hlocks X rfl dX4_isTurnedTo_48
  · refine lv_aload_n hx hb dX4_isTurnedTo_11 rfl (lv_at hl 0 rfl) ?_
    refine lv_iload_n hx hb dX4_isTurnedTo_12 rfl (lv_at hl 1 rfl) ?_
    refine lv_aload_n hx hb dX4_isTurnedTo_13 rfl (lv_at hl 2 rfl) ?_
    refine lv_iconst (v := (0 : Int32)) hx hb dX4_isTurnedTo_14 rfl ?_
    refine xb hf (fun v1 hv hf => ?_)
    refine xc_V1 (rest := []) ⟨hx, hb, hml, hown, hts⟩ (mX4_alike hi hj2 hv) (cwV 3 hts gX4_isTurnedTo_X4_alike rfl rfl rfl hqX4_alike ⟨Nat.le_of_ble_eq_true rfl, Nat.le_of_ble_eq_true rfl⟩) X (va_recv X.1 X.2.1 (ci := 0) (q0 := i) rfl (wlC_t hi)) rfl hl.1 rfl (Nat.le_of_ble_eq_true rfl) dX4_isTurnedTo_15 ⟨Nat.zero_le _, Nat.zero_le _⟩ (fun H locs X => ?_)
    refine lv_aload_n hx hb dX4_isTurnedTo_18 rfl (lv_at hl 0 rfl) ?_
    refine xg_f hx hb hts hown X h4 i (wlC_t hi) rfl 1 (by decide) (by decide +kernel) (v := .int (ts i)) rfl dX4_isTurnedTo_19 ?_
    refine lv_iload_n hx hb dX4_isTurnedTo_22 rfl (lv_at hl 1 rfl) ?_
    refine lv_isub hx hb dX4_isTurnedTo_23 ?_
    refine xr_icmp_ne (tgt := 47) hx hb dX4_isTurnedTo_24 rfl hf (fun hf => ?_) (fun hf => ?_)
    · refine lv_iconst (v := (0 : Int32)) hx hb dX4_isTurnedTo_47 rfl ?_
      cases hf
      exact xe_z hx hb hr hlocks X rfl dX4_isTurnedTo_48
    · refine lv_aload_n hx hb dX4_isTurnedTo_27 rfl (lv_at hl 2 rfl) ?_
      refine lv_aload_n hx hb dX4_isTurnedTo_28 rfl (lv_at hl 0 rfl) ?_
      refine xg_f hx hb hts hown X h4 i (wlC_t hi) rfl 1 (by decide) (by decide +kernel) (v := .int (ts i)) rfl dX4_isTurnedTo_29 ?_
      refine lv_iload_n hx hb dX4_isTurnedTo_32 rfl (lv_at hl 1 rfl) ?_
      refine lv_isub hx hb dX4_isTurnedTo_33 ?_
      refine lv_aload_n hx hb dX4_isTurnedTo_34 rfl (lv_at hl 0 rfl) ?_
      refine lv_iconst (v := (0 : Int32)) hx hb dX4_isTurnedTo_35 rfl ?_
      refine xb hf (fun v2 hv hf => ?_)
      refine xc_V1 (rest := []) ⟨hx, hb, hml, hown, hts⟩ (mX4_alike hj2 hi hv) (cwV 3 hts gX4_isTurnedTo_X4_alike rfl rfl rfl hqX4_alike ⟨Nat.le_of_ble_eq_true rfl, Nat.le_of_ble_eq_true rfl⟩) X (va_recv X.1 X.2.1 (ci := 0) (q0 := j2) rfl (wlC_t hj2)) rfl hl.1 rfl (Nat.le_of_ble_eq_true rfl) dX4_isTurnedTo_36 ⟨Nat.zero_le _, Nat.zero_le _⟩ (fun H locs X => ?_)
      refine lv_iload_n hx hb dX4_isTurnedTo_39 rfl (lv_at hl 1 rfl) ?_
      refine xr_icmp_ne (tgt := 47) hx hb dX4_isTurnedTo_40 rfl hf (fun hf => ?_) (fun hf => ?_)
      · refine lv_iconst (v := (0 : Int32)) hx hb dX4_isTurnedTo_47 rfl ?_
        cases hf
        exact xe_z hx hb hr hlocks X rfl dX4_isTurnedTo_48
      · refine lv_iconst (v := (1 : Int32)) hx hb dX4_isTurnedTo_43 rfl ?_
        refine lv_goto (tgt := 48) hx hb dX4_isTurnedTo_44 rfl ?_
        cases hf
        exact xe_z hx hb hr hlocks X rfl dX4_isTurnedTo_48
set_option maxRecDepth 100000 in
set_option maxHeartbeats 4000000 in
theorem mX4_signTurned {l : Launch} {dd : va_G} {cy : Nat → ClassId} {ad : Nat → Nat} {A : Nat → Prop} {ts : Nat → Int32} {tc : Nat → Nat → Int32} {rk : Nat → Int32} {pl : Nat → Int32} {ru : Nat → Int64} {sl : Nat → Int32} {bg : Nat → Int32} {kn : Nat → Int64} {rm : Int32} {ol : Nat → Int64} {od : Nat → UInt64} {i : Nat} {x1 : Int32} {x2 : Int32} {rv : Int32} (hi : i < 7) (hf : fX4_signTurned ts tc i x1 x2 = some rv) : Met l yX4_signTurned wsX4_signTurned { frames := 1, cells := 0, slots := 0, locals := 21 } (va_Pc [.ref (ad i), .int x1, .int x2] (IW dd cy A (wlC ad cy ts tc rk pl ru sl bg kn rm ol od))) (QX dd cy A (some (.int rv)) (wlC ad cy ts tc rk pl ru sl bg kn rm ol od)) 0 0 A := by
  refine Met.ofW (cc := cX4_signTurned) (maxL := 4) (ret := some .char) (by decide) rfl ?_
  intro p e s m args below meth c s₁ B hml hv
  obtain ⟨hav, hI⟩ := hv
  have hx := B.exec
  have hb := B.bytes
  have hr := B.returns
  have hts := atoms_spec (ws := wsX4_signTurned) B.pre
  have hown : s.vm.findClass RX4 = some m.cls := findClass_of_methodNamed B.named
  have hlocks := B.notSynchronized
  have X := XW.of hI
  have h4 : ∀ w ∈ wsX40, w ∈ wsX4_signTurned := by decide +kernel
  refine xe_in hav (Nat.le_of_ble_eq_true rfl) rfl (fun ls hl => ?_)
  rw [fX4_signTurned] at hf
  refine lv_iload_n hx hb dX4_signTurned_0 rfl (lv_at hl 1 rfl) ?_
  refine lv_iload_n hx hb dX4_signTurned_1 rfl (lv_at hl 2 rfl) ?_
  refine lv_iadd hx hb dX4_signTurned_2 ?_
  refine lv_istore_n (lv' := [(3, .int (x1 + x2)), (0, .ref (ad i)), (1, .int x1), (2, .int x2)]) hx hb dX4_signTurned_3 rfl hl (by decide) rfl (fun ls hl => ?_)
  refine lv_aload_n hx hb dX4_signTurned_4 rfl (lv_at hl 1 rfl) ?_
  refine lv_iload_n hx hb dX4_signTurned_5 rfl (lv_at hl 0 rfl) ?_
  refine lv_aload_n hx hb dX4_signTurned_6 rfl (lv_at hl 1 rfl) ?_
  refine xg_f hx hb hts hown X h4 i (wlC_t hi) rfl 1 (by decide) (by decide +kernel) (v := .int (ts i)) rfl dX4_signTurned_7 ?_
  refine xr_icmp_ge (tgt := 17) hx hb dX4_signTurned_10 rfl hf (fun hf => ?_) (fun hf => ?_)
  · refine lv_iload_n hx hb dX4_signTurned_17 rfl (lv_at hl 0 rfl) ?_
    refine lv_aload_n hx hb dX4_signTurned_18 rfl (lv_at hl 1 rfl) ?_
    refine xg_f hx hb hts hown X h4 i (wlC_t hi) rfl 1 (by decide) (by decide +kernel) (v := .int (ts i)) rfl dX4_signTurned_19 ?_
    refine lv_isub hx hb dX4_signTurned_22 ?_
    refine xb hf (fun v1 hv hf => ?_)
    refine xc_V1 (rest := []) ⟨hx, hb, hml, hown, hts⟩ (mX4_signOn hi hv) (cwV 1 hts gX4_signTurned_X4_signOn rfl rfl rfl hqX4_signOn ⟨Nat.le_of_ble_eq_true rfl, Nat.le_of_ble_eq_true rfl⟩) X (va_recv X.1 X.2.1 (ci := 0) (q0 := i) rfl (wlC_t hi)) rfl hl.1 rfl (Nat.le_of_ble_eq_true rfl) dX4_signTurned_23 ⟨Nat.zero_le _, Nat.zero_le _⟩ (fun H locs X => ?_)
    refine xb hf (fun z9 hz hf => ?_)
    obtain ⟨hn, rfl⟩ := ckC_some hz
    cases hf
    exact xe_z hx hb hr hlocks X hn dX4_signTurned_26
  · refine lv_iload_n hx hb dX4_signTurned_13 rfl (lv_at hl 0 rfl) ?_
    refine lv_goto (tgt := 23) hx hb dX4_signTurned_14 rfl ?_
    refine xb hf (fun v2 hv hf => ?_)
    refine xc_V1 (rest := []) ⟨hx, hb, hml, hown, hts⟩ (mX4_signOn hi hv) (cwV 1 hts gX4_signTurned_X4_signOn rfl rfl rfl hqX4_signOn ⟨Nat.le_of_ble_eq_true rfl, Nat.le_of_ble_eq_true rfl⟩) X (va_recv X.1 X.2.1 (ci := 0) (q0 := i) rfl (wlC_t hi)) rfl hl.1 rfl (Nat.le_of_ble_eq_true rfl) dX4_signTurned_23 ⟨Nat.zero_le _, Nat.zero_le _⟩ (fun H locs X => ?_)
    refine xb hf (fun z9 hz hf => ?_)
    obtain ⟨hn, rfl⟩ := ckC_some hz
    cases hf
    exact xe_z hx hb hr hlocks X hn dX4_signTurned_26
set_option maxRecDepth 100000 in
set_option maxHeartbeats 4000000 in
theorem mX4_compareTurns {l : Launch} {dd : va_G} {cy : Nat → ClassId} {ad : Nat → Nat} {A : Nat → Prop} {fu : Nat} {ts : Nat → Int32} {tc : Nat → Nat → Int32} {rk : Nat → Int32} {pl : Nat → Int32} {ru : Nat → Int64} {sl : Nat → Int32} {bg : Nat → Int32} {kn : Nat → Int64} {rm : Int32} {ol : Nat → Int64} {od : Nat → UInt64} {i : Nat} {x1 : Int32} {x2 : Int32} {rv : Int32} (hi : i < 7) (hf : fX4_compareTurns fu ts tc i x1 x2 = some rv) : Met l yX4_compareTurns wsX4_compareTurns { frames := 2, cells := 0, slots := 0, locals := 44 } (va_Pc [.ref (ad i), .int x1, .int x2] (IW dd cy A (wlC ad cy ts tc rk pl ru sl bg kn rm ol od))) (QX dd cy A (some (.int rv)) (wlC ad cy ts tc rk pl ru sl bg kn rm ol od)) 0 0 A := by
  refine Met.ofW (cc := cX4_compareTurns) (maxL := 5) (ret := some .int) (by decide) rfl ?_
  intro p e s m args below meth c s₁ B hml hv
  obtain ⟨hav, hI⟩ := hv
  have hx := B.exec
  have hb := B.bytes
  have hr := B.returns
  have hts := atoms_spec (ws := wsX4_compareTurns) B.pre
  have hown : s.vm.findClass RX4 = some m.cls := findClass_of_methodNamed B.named
  have hlocks := B.notSynchronized
  have X := XW.of hI
  have h4 : ∀ w ∈ wsX40, w ∈ wsX4_compareTurns := by decide +kernel
  refine xe_in hav (Nat.le_of_ble_eq_true rfl) rfl (fun ls hl => ?_)
  have w2 : ∀ (t0 : Nat) (y1 : Int32) (y2 : Int32) (ht0 : t0 < 7) (n : Nat) (y3 : Int32), fX4_compareTurns_2 fu ts tc t0 y1 y2 n y3 = some rv → ∀ (H : Heap) (locs : List Loc) (ls : Array Slot), XW dd cy A s (wlC ad cy ts tc rk pl ru sl bg kn rm ol od) H locs → lv_has ls 5 [(0, .ref (ad t0)), (1, .int y1), (2, .int y2), (3, .int y3)] → W p l e (headSpec wsX4_compareTurns { frames := 2, cells := 0, slots := 0, locals := 44 }).room s m args below meth c H locs 0 0 (MQ below (QX dd cy A (some (.int rv)) (wlC ad cy ts tc rk pl ru sl bg kn rm ol od)) args s 0 0 A) (F0 m 2 ls []) := by
    intro t0 y1 y2 ht0 n
    induction n with
    | zero => intro y3 hf; exact absurd hf (by simp [fX4_compareTurns_2])
    | succ n ih =>
      intro y3 hf H locs ls X hl
      rw [fX4_compareTurns_2] at hf
      refine lv_iload_n hx hb dX4_compareTurns_2 rfl (lv_at hl 3 rfl) ?_
      refine lv_aload_n hx hb dX4_compareTurns_3 rfl (lv_at hl 0 rfl) ?_
      refine xg_f hx hb hts hown X h4 t0 (wlC_t ht0) rfl 1 (by decide) (by decide +kernel) (v := .int (ts t0)) rfl dX4_compareTurns_4 ?_
      refine xr_icmp_ge (tgt := 39) hx hb dX4_compareTurns_7 rfl hf (fun hf => ?_) (fun hf => ?_)
      · refine lv_iconst (v := (0 : Int32)) hx hb dX4_compareTurns_39 rfl ?_
        cases hf
        exact xe_i hx hb hr hlocks X dX4_compareTurns_40
      · refine lv_aload_n hx hb dX4_compareTurns_10 rfl (lv_at hl 0 rfl) ?_
        refine lv_iload_n hx hb dX4_compareTurns_11 rfl (lv_at hl 1 rfl) ?_
        refine lv_iload_n hx hb dX4_compareTurns_12 rfl (lv_at hl 3 rfl) ?_
        refine xb hf (fun v1 hv hf => ?_)
        refine xc_V1 (rest := []) ⟨hx, hb, hml, hown, hts⟩ (mX4_signTurned ht0 hv) (cwV 2 hts gX4_compareTurns_X4_signTurned rfl rfl rfl hqX4_signTurned ⟨Nat.le_of_ble_eq_true rfl, Nat.le_of_ble_eq_true rfl⟩) X (va_recv X.1 X.2.1 (ci := 0) (q0 := t0) rfl (wlC_t ht0)) rfl hl.1 rfl (Nat.le_of_ble_eq_true rfl) dX4_compareTurns_13 ⟨Nat.zero_le _, Nat.zero_le _⟩ (fun H locs X => ?_)
        refine lv_aload_n hx hb dX4_compareTurns_16 rfl (lv_at hl 0 rfl) ?_
        refine lv_iload_n hx hb dX4_compareTurns_17 rfl (lv_at hl 2 rfl) ?_
        refine lv_iload_n hx hb dX4_compareTurns_18 rfl (lv_at hl 3 rfl) ?_
        refine xb hf (fun v2 hv hf => ?_)
        refine xc_V1 (rest := [.int v1]) ⟨hx, hb, hml, hown, hts⟩ (mX4_signTurned ht0 hv) (cwV 2 hts gX4_compareTurns_X4_signTurned rfl rfl rfl hqX4_signTurned ⟨Nat.le_of_ble_eq_true rfl, Nat.le_of_ble_eq_true rfl⟩) X (va_recv X.1 X.2.1 (ci := 0) (q0 := t0) rfl (wlC_t ht0)) rfl hl.1 rfl (Nat.le_of_ble_eq_true rfl) dX4_compareTurns_19 ⟨Nat.zero_le _, Nat.zero_le _⟩ (fun H locs X => ?_)
        refine lv_isub hx hb dX4_compareTurns_22 ?_
        refine lv_istore (lv' := [(4, .int (v1 - v2)), (0, .ref (ad t0)), (1, .int y1), (2, .int y2), (3, .int y3)]) hx hb dX4_compareTurns_23 hl (by decide) rfl (fun ls hl => ?_)
        refine lv_iload hx hb dX4_compareTurns_25 (lv_at hl 0 rfl) ?_
        refine xr_if_eq (tgt := 33) hx hb dX4_compareTurns_27 rfl hf (fun hf => ?_) (fun hf => ?_)
        · refine lv_iinc (v := (y3 + 1)) (lv' := [(3, .int (y3 + 1)), (4, .int (v1 - v2)), (0, .ref (ad t0)), (1, .int y1), (2, .int y2)]) hx hb dX4_compareTurns_33 hl (k := 4) rfl ii_1 (by decide) rfl (fun ls hl => ?_)
          refine lv_goto (tgt := 2) hx hb dX4_compareTurns_36 rfl ?_
          exact ih (y3 + 1) hf _ _ _ X (lv_sub hl [2, 3, 4, 0] rfl)
        · refine lv_iload hx hb dX4_compareTurns_30 (lv_at hl 0 rfl) ?_
          cases hf
          exact xe_i hx hb hr hlocks X dX4_compareTurns_32
  rw [fX4_compareTurns] at hf
  refine lv_iconst (v := (0 : Int32)) hx hb dX4_compareTurns_0 rfl ?_
  refine lv_istore_n (lv' := [(3, .int (0 : Int32)), (0, .ref (ad i)), (1, .int x1), (2, .int x2)]) hx hb dX4_compareTurns_1 rfl hl (by decide) rfl (fun ls hl => ?_)
  exact w2 i x1 x2 hi fu (0 : Int32) hf _ _ _ X (lv_sub hl [1, 2, 3, 0] rfl)
set_option maxRecDepth 100000 in
set_option maxHeartbeats 4000000 in
theorem mX4_isMirror {l : Launch} {dd : va_G} {cy : Nat → ClassId} {ad : Nat → Nat} {A : Nat → Prop} {fu : Nat} {ts : Nat → Int32} {tc : Nat → Nat → Int32} {rk : Nat → Int32} {pl : Nat → Int32} {ru : Nat → Int64} {sl : Nat → Int32} {bg : Nat → Int32} {kn : Nat → Int64} {rm : Int32} {ol : Nat → Int64} {od : Nat → UInt64} {i : Nat} {x1 : Int32} {x2 : Int32} {rv : Int32} (hi : i < 7) (hf : fX4_isMirror fu ts tc i x1 x2 = some rv) : Met l yX4_isMirror wsX4_isMirror { frames := 1, cells := 0, slots := 0, locals := 21 } (va_Pc [.ref (ad i), .int x1, .int x2] (IW dd cy A (wlC ad cy ts tc rk pl ru sl bg kn rm ol od))) (QX dd cy A (some (.int rv)) (wlC ad cy ts tc rk pl ru sl bg kn rm ol od)) 0 0 A := by
  refine Met.ofW (cc := cX4_isMirror) (maxL := 5) (ret := some .boolean) (by decide) rfl ?_
  intro p e s m args below meth c s₁ B hml hv
  obtain ⟨hav, hI⟩ := hv
  have hx := B.exec
  have hb := B.bytes
  have hr := B.returns
  have hts := atoms_spec (ws := wsX4_isMirror) B.pre
  have hown : s.vm.findClass RX4 = some m.cls := findClass_of_methodNamed B.named
  have hlocks := B.notSynchronized
  have X := XW.of hI
  refine xe_in hav (Nat.le_of_ble_eq_true rfl) rfl (fun ls hl => ?_)
  have w7 : ∀ (t0 : Nat) (ht0 : t0 < 7) (n : Nat) (y3 : Int32) (y4 : Int32), fX4_isMirror_7 fu ts tc t0 n y3 y4 = some rv → ∀ (H : Heap) (locs : List Loc) (ls : Array Slot), XW dd cy A s (wlC ad cy ts tc rk pl ru sl bg kn rm ol od) H locs → lv_has ls 5 [(0, .ref (ad t0)), (3, .int y3), (4, .int y4)] → W p l e (headSpec wsX4_isMirror { frames := 1, cells := 0, slots := 0, locals := 21 }).room s m args below meth c H locs 0 0 (MQ below (QX dd cy A (some (.int rv)) (wlC ad cy ts tc rk pl ru sl bg kn rm ol od)) args s 0 0 A) (F0 m 7 ls []) := by
    intro t0 ht0 n
    induction n with
    | zero => intro y3 y4 hf; exact absurd hf (by simp [fX4_isMirror_7])
    | succ n ih =>
      intro y3 y4 hf H locs ls X hl
      rw [fX4_isMirror_7] at hf
      refine lv_iload_n hx hb dX4_isMirror_7 rfl (lv_at hl 1 rfl) ?_
      refine lv_iload hx hb dX4_isMirror_8 (lv_at hl 2 rfl) ?_
      refine xr_icmp_ge (tgt := 38) hx hb dX4_isMirror_10 rfl hf (fun hf => ?_) (fun hf => ?_)
      · refine lv_iconst (v := (1 : Int32)) hx hb dX4_isMirror_38 rfl ?_
        cases hf
        exact xe_z hx hb hr hlocks X rfl dX4_isMirror_39
      · refine lv_aload_n hx hb dX4_isMirror_13 rfl (lv_at hl 0 rfl) ?_
        refine lv_iload_n hx hb dX4_isMirror_14 rfl (lv_at hl 1 rfl) ?_
        refine xb hf (fun v1 hv hf => ?_)
        refine xc_V1 (rest := []) ⟨hx, hb, hml, hown, hts⟩ (mX4_signOn ht0 hv) (cwV 1 hts gX4_isMirror_X4_signOn rfl rfl rfl hqX4_signOn ⟨Nat.le_of_ble_eq_true rfl, Nat.le_of_ble_eq_true rfl⟩) X (va_recv X.1 X.2.1 (ci := 0) (q0 := t0) rfl (wlC_t ht0)) rfl hl.1 rfl (Nat.le_of_ble_eq_true rfl) dX4_isMirror_15 ⟨Nat.zero_le _, Nat.zero_le _⟩ (fun H locs X => ?_)
        refine lv_aload_n hx hb dX4_isMirror_18 rfl (lv_at hl 0 rfl) ?_
        refine lv_iload hx hb dX4_isMirror_19 (lv_at hl 2 rfl) ?_
        refine xb hf (fun v2 hv hf => ?_)
        refine xc_V1 (rest := [.int v1]) ⟨hx, hb, hml, hown, hts⟩ (mX4_signOn ht0 hv) (cwV 1 hts gX4_isMirror_X4_signOn rfl rfl rfl hqX4_signOn ⟨Nat.le_of_ble_eq_true rfl, Nat.le_of_ble_eq_true rfl⟩) X (va_recv X.1 X.2.1 (ci := 0) (q0 := t0) rfl (wlC_t ht0)) rfl hl.1 rfl (Nat.le_of_ble_eq_true rfl) dX4_isMirror_21 ⟨Nat.zero_le _, Nat.zero_le _⟩ (fun H locs X => ?_)
        refine xr_icmp_eq (tgt := 29) hx hb dX4_isMirror_24 rfl hf (fun hf => ?_) (fun hf => ?_)
        · refine lv_iinc (v := (y3 + 1)) (lv' := [(3, .int (y3 + 1)), (0, .ref (ad t0)), (4, .int y4)]) hx hb dX4_isMirror_29 hl (k := 1) rfl ii_1 (by decide) rfl (fun ls hl => ?_)
          refine lv_iinc (v := (y4 + (-1))) (lv' := [(4, .int (y4 + (-1))), (3, .int (y3 + 1)), (0, .ref (ad t0))]) hx hb dX4_isMirror_32 hl (k := 2) rfl ii_m1 (by decide) rfl (fun ls hl => ?_)
          refine lv_goto (tgt := 7) hx hb dX4_isMirror_35 rfl ?_
          exact ih (y3 + 1) (y4 + (-1)) hf _ _ _ X (lv_sub hl [2, 1, 0] rfl)
        · refine lv_iconst (v := (0 : Int32)) hx hb dX4_isMirror_27 rfl ?_
          cases hf
          exact xe_z hx hb hr hlocks X rfl dX4_isMirror_28
  rw [fX4_isMirror] at hf
  refine lv_iload_n hx hb dX4_isMirror_0 rfl (lv_at hl 1 rfl) ?_
  refine lv_istore_n (lv' := [(3, .int x1), (0, .ref (ad i)), (1, .int x1), (2, .int x2)]) hx hb dX4_isMirror_1 rfl hl (by decide) rfl (fun ls hl => ?_)
  refine lv_iload_n hx hb dX4_isMirror_2 rfl (lv_at hl 3 rfl) ?_
  refine lv_iconst (v := (1 : Int32)) hx hb dX4_isMirror_3 rfl ?_
  refine lv_isub hx hb dX4_isMirror_4 ?_
  refine lv_istore (lv' := [(4, .int (x2 - (1 : Int32))), (3, .int x1), (0, .ref (ad i)), (1, .int x1), (2, .int x2)]) hx hb dX4_isMirror_5 hl (by decide) rfl (fun ls hl => ?_)
  exact w7 i hi fu x1 (x2 - (1 : Int32)) hf _ _ _ X (lv_sub hl [2, 1, 0] rfl)
set_option maxRecDepth 100000 in
set_option maxHeartbeats 4000000 in
theorem mX4_sumPeriods {l : Launch} {dd : va_G} {cy : Nat → ClassId} {ad : Nat → Nat} {A : Nat → Prop} {fu : Nat} {ts : Nat → Int32} {tc : Nat → Nat → Int32} {rk : Nat → Int32} {pl : Nat → Int32} {ru : Nat → Int64} {sl : Nat → Int32} {bg : Nat → Int32} {kn : Nat → Int64} {rm : Int32} {ol : Nat → Int64} {od : Nat → UInt64} {i : Nat} {rv : Int32} (hi : i < 7) (hf : fX4_sumPeriods fu ts tc i = some rv) : Met l yX4_sumPeriods wsX4_sumPeriods { frames := 3, cells := 0, slots := 0, locals := 78 } (va_Pc [.ref (ad i)] (IW dd cy A (wlC ad cy ts tc rk pl ru sl bg kn rm ol od))) (QX dd cy A (some (.int rv)) (wlC ad cy ts tc rk pl ru sl bg kn rm ol od)) 0 0 A := by
  refine Met.ofW (cc := cX4_sumPeriods) (maxL := 3) (ret := some .int) (by decide) rfl ?_
  intro p e s m args below meth c s₁ B hml hv
  obtain ⟨hav, hI⟩ := hv
  have hx := B.exec
  have hb := B.bytes
  have hr := B.returns
  have hts := atoms_spec (ws := wsX4_sumPeriods) B.pre
  have hown : s.vm.findClass RX4 = some m.cls := findClass_of_methodNamed B.named
  have hlocks := B.notSynchronized
  have X := XW.of hI
  have h4 : ∀ w ∈ wsX40, w ∈ wsX4_sumPeriods := by decide +kernel
  refine xe_in hav (Nat.le_of_ble_eq_true rfl) rfl (fun ls hl => ?_)
  have w4 : ∀ (t0 : Nat) (ht0 : t0 < 7) (n : Nat) (y1 : Int32) (y2 : Int32), fX4_sumPeriods_4 fu ts tc t0 n y1 y2 = some rv → ∀ (H : Heap) (locs : List Loc) (ls : Array Slot), XW dd cy A s (wlC ad cy ts tc rk pl ru sl bg kn rm ol od) H locs → lv_has ls 3 [(0, .ref (ad t0)), (1, .int y1), (2, .int y2)] → W p l e (headSpec wsX4_sumPeriods { frames := 3, cells := 0, slots := 0, locals := 78 }).room s m args below meth c H locs 0 0 (MQ below (QX dd cy A (some (.int rv)) (wlC ad cy ts tc rk pl ru sl bg kn rm ol od)) args s 0 0 A) (F0 m 4 ls []) := by
    intro t0 ht0 n
    induction n with
    | zero => intro y1 y2 hf; exact absurd hf (by simp [fX4_sumPeriods_4])
    | succ n ih =>
      intro y1 y2 hf H locs ls X hl
      rw [fX4_sumPeriods_4] at hf
      refine lv_iload_n hx hb dX4_sumPeriods_4 rfl (lv_at hl 2 rfl) ?_
      refine lv_aload_n hx hb dX4_sumPeriods_5 rfl (lv_at hl 0 rfl) ?_
      refine xg_f hx hb hts hown X h4 t0 (wlC_t ht0) rfl 1 (by decide) (by decide +kernel) (v := .int (ts t0)) rfl dX4_sumPeriods_6 ?_
      refine xr_icmp_gt (tgt := 30) hx hb dX4_sumPeriods_9 rfl hf (fun hf => ?_) (fun hf => ?_)
      · refine lv_iload_n hx hb dX4_sumPeriods_30 rfl (lv_at hl 1 rfl) ?_
        cases hf
        exact xe_i hx hb hr hlocks X dX4_sumPeriods_31
      · refine lv_aload_n hx hb dX4_sumPeriods_12 rfl (lv_at hl 0 rfl) ?_
        refine lv_iload_n hx hb dX4_sumPeriods_13 rfl (lv_at hl 2 rfl) ?_
        refine xb hf (fun v1 hv hf => ?_)
        refine xc_V1 (rest := []) ⟨hx, hb, hml, hown, hts⟩ (mX4_hasPeriod ht0 hv) (cwV 1 hts gX4_sumPeriods_X4_hasPeriod rfl rfl rfl hqX4_hasPeriod ⟨Nat.le_of_ble_eq_true rfl, Nat.le_of_ble_eq_true rfl⟩) X (va_recv X.1 X.2.1 (ci := 0) (q0 := t0) rfl (wlC_t ht0)) rfl hl.1 rfl (Nat.le_of_ble_eq_true rfl) dX4_sumPeriods_14 ⟨Nat.zero_le _, Nat.zero_le _⟩ (fun H locs X => ?_)
        refine xr_if_eq (tgt := 24) hx hb dX4_sumPeriods_17 rfl hf (fun hf => ?_) (fun hf => ?_)
        · refine lv_iinc (v := (y2 + 1)) (lv' := [(2, .int (y2 + 1)), (0, .ref (ad t0)), (1, .int y1)]) hx hb dX4_sumPeriods_24 hl (k := 2) rfl ii_1 (by decide) rfl (fun ls hl => ?_)
          refine lv_goto (tgt := 4) hx hb dX4_sumPeriods_27 rfl ?_
          exact ih y1 (y2 + 1) hf _ _ _ X (lv_sub hl [1, 2, 0] rfl)
        · refine lv_iload_n hx hb dX4_sumPeriods_20 rfl (lv_at hl 1 rfl) ?_
          refine lv_iload_n hx hb dX4_sumPeriods_21 rfl (lv_at hl 2 rfl) ?_
          refine lv_iadd hx hb dX4_sumPeriods_22 ?_
          refine lv_istore_n (lv' := [(1, .int (y1 + y2)), (0, .ref (ad t0)), (2, .int y2)]) hx hb dX4_sumPeriods_23 rfl hl (by decide) rfl (fun ls hl => ?_)
          refine lv_iinc (v := (y2 + 1)) (lv' := [(2, .int (y2 + 1)), (1, .int (y1 + y2)), (0, .ref (ad t0))]) hx hb dX4_sumPeriods_24 hl (k := 2) rfl ii_1 (by decide) rfl (fun ls hl => ?_)
          refine lv_goto (tgt := 4) hx hb dX4_sumPeriods_27 rfl ?_
          exact ih (y1 + y2) (y2 + 1) hf _ _ _ X (lv_sub hl [2, 1, 0] rfl)
  rw [fX4_sumPeriods] at hf
  refine lv_iconst (v := (0 : Int32)) hx hb dX4_sumPeriods_0 rfl ?_
  refine lv_istore_n (lv' := [(1, .int (0 : Int32)), (0, .ref (ad i))]) hx hb dX4_sumPeriods_1 rfl hl (by decide) rfl (fun ls hl => ?_)
  refine lv_iconst (v := (1 : Int32)) hx hb dX4_sumPeriods_2 rfl ?_
  refine lv_istore_n (lv' := [(2, .int (1 : Int32)), (1, .int (0 : Int32)), (0, .ref (ad i))]) hx hb dX4_sumPeriods_3 rfl hl (by decide) rfl (fun ls hl => ?_)
  exact w4 i hi fu (0 : Int32) (1 : Int32) hf _ _ _ X (lv_sub hl [2, 1, 0] rfl)
set_option maxRecDepth 100000 in
set_option maxHeartbeats 4000000 in
theorem mX4_compareNeighbours {l : Launch} {dd : va_G} {cy : Nat → ClassId} {ad : Nat → Nat} {A : Nat → Prop} {fu : Nat} {ts : Nat → Int32} {tc : Nat → Nat → Int32} {rk : Nat → Int32} {pl : Nat → Int32} {ru : Nat → Int64} {sl : Nat → Int32} {bg : Nat → Int32} {kn : Nat → Int64} {rm : Int32} {ol : Nat → Int64} {od : Nat → UInt64} {i : Nat} {x1 : Int32} {x2 : Int32} {x3 : Int32} {rv : Int32} (hi : i < 7) (hf : fX4_compareNeighbours fu ts tc i x1 x2 x3 = some rv) : Met l yX4_compareNeighbours wsX4_compareNeighbours { frames := 2, cells := 0, slots := 0, locals := 57 } (va_Pc [.ref (ad i), .int x1, .int x2, .int x3] (IW dd cy A (wlC ad cy ts tc rk pl ru sl bg kn rm ol od))) (QX dd cy A (some (.int rv)) (wlC ad cy ts tc rk pl ru sl bg kn rm ol od)) 0 0 A := by
  refine Met.ofW (cc := cX4_compareNeighbours) (maxL := 6) (ret := some .int) (by decide) rfl ?_
  intro p e s m args below meth c s₁ B hml hv
  obtain ⟨hav, hI⟩ := hv
  have hx := B.exec
  have hb := B.bytes
  have hr := B.returns
  have hts := atoms_spec (ws := wsX4_compareNeighbours) B.pre
  have hown : s.vm.findClass RX4 = some m.cls := findClass_of_methodNamed B.named
  have hlocks := B.notSynchronized
  have X := XW.of hI
  refine xe_in hav (Nat.le_of_ble_eq_true rfl) rfl (fun ls hl => ?_)
  rw [fX4_compareNeighbours] at hf
  refine lv_iload_n hx hb dX4_compareNeighbours_0 rfl (lv_at hl 2 rfl) ?_
  refine lv_iload_n hx hb dX4_compareNeighbours_1 rfl (lv_at hl 1 rfl) ?_
  refine lv_isub hx hb dX4_compareNeighbours_2 ?_
  refine lv_iload_n hx hb dX4_compareNeighbours_3 rfl (lv_at hl 3 rfl) ?_
  refine lv_iload_n hx hb dX4_compareNeighbours_4 rfl (lv_at hl 2 rfl) ?_
  refine lv_isub hx hb dX4_compareNeighbours_5 ?_
  refine xr_min hx hb hts hown (hml.trans hl.1.symm) (by decide +kernel) (by decide +kernel) (by decide +kernel) (by decide +kernel) (Nat.le_of_ble_eq_true rfl) (Nat.le_of_ble_eq_true rfl) ⟨Nat.zero_le _, Nat.zero_le _⟩ dX4_compareNeighbours_6 ?_
  refine lv_istore (lv' := [(4, .int (miI (x2 - x1) (x3 - x2))), (0, .ref (ad i)), (1, .int x1), (2, .int x2), (3, .int x3)]) hx hb dX4_compareNeighbours_9 hl (by decide) rfl (fun ls hl => ?_)
  refine lv_aload_n hx hb dX4_compareNeighbours_11 rfl (lv_at hl 1 rfl) ?_
  refine lv_iload_n hx hb dX4_compareNeighbours_12 rfl (lv_at hl 2 rfl) ?_
  refine lv_aload_n hx hb dX4_compareNeighbours_13 rfl (lv_at hl 1 rfl) ?_
  refine lv_iload_n hx hb dX4_compareNeighbours_14 rfl (lv_at hl 3 rfl) ?_
  refine xb hf (fun v1 hv hf => ?_)
  refine xc_V1 (rest := []) ⟨hx, hb, hml, hown, hts⟩ (mX4_alike hi hi hv) (cwV 3 hts gX4_compareNeighbours_X4_alike rfl rfl rfl hqX4_alike ⟨Nat.le_of_ble_eq_true rfl, Nat.le_of_ble_eq_true rfl⟩) X (va_recv X.1 X.2.1 (ci := 0) (q0 := i) rfl (wlC_t hi)) rfl hl.1 rfl (Nat.le_of_ble_eq_true rfl) dX4_compareNeighbours_15 ⟨Nat.zero_le _, Nat.zero_le _⟩ (fun H locs X => ?_)
  refine lv_iload hx hb dX4_compareNeighbours_18 (lv_at hl 0 rfl) ?_
  refine xr_min hx hb hts hown (hml.trans hl.1.symm) (by decide +kernel) (by decide +kernel) (by decide +kernel) (by decide +kernel) (Nat.le_of_ble_eq_true rfl) (Nat.le_of_ble_eq_true rfl) ⟨Nat.zero_le _, Nat.zero_le _⟩ dX4_compareNeighbours_20 ?_
  refine lv_istore (lv' := [(5, .int (miI v1 (miI (x2 - x1) (x3 - x2)))), (4, .int (miI (x2 - x1) (x3 - x2))), (0, .ref (ad i)), (1, .int x1), (2, .int x2), (3, .int x3)]) hx hb dX4_compareNeighbours_23 hl (by decide) rfl (fun ls hl => ?_)
  refine lv_iload hx hb dX4_compareNeighbours_25 (lv_at hl 0 rfl) ?_
  refine lv_iload hx hb dX4_compareNeighbours_27 (lv_at hl 1 rfl) ?_
  refine xr_icmp_ge (tgt := 50) hx hb dX4_compareNeighbours_29 rfl hf (fun hf => ?_) (fun hf => ?_)
  · refine lv_iload_n hx hb dX4_compareNeighbours_50 rfl (lv_at hl 4 rfl) ?_
    refine lv_iload_n hx hb dX4_compareNeighbours_51 rfl (lv_at hl 3 rfl) ?_
    refine lv_isub hx hb dX4_compareNeighbours_52 ?_
    refine lv_iload_n hx hb dX4_compareNeighbours_53 rfl (lv_at hl 5 rfl) ?_
    refine lv_iload_n hx hb dX4_compareNeighbours_54 rfl (lv_at hl 4 rfl) ?_
    refine lv_isub hx hb dX4_compareNeighbours_55 ?_
    refine lv_isub hx hb dX4_compareNeighbours_56 ?_
    cases hf
    exact xe_i hx hb hr hlocks X dX4_compareNeighbours_57
  · refine lv_aload_n hx hb dX4_compareNeighbours_32 rfl (lv_at hl 2 rfl) ?_
    refine lv_iload_n hx hb dX4_compareNeighbours_33 rfl (lv_at hl 3 rfl) ?_
    refine lv_iload hx hb dX4_compareNeighbours_34 (lv_at hl 0 rfl) ?_
    refine lv_iadd hx hb dX4_compareNeighbours_36 ?_
    refine xb hf (fun v2 hv hf => ?_)
    refine xc_V1 (rest := []) ⟨hx, hb, hml, hown, hts⟩ (mX4_signOn hi hv) (cwV 1 hts gX4_compareNeighbours_X4_signOn rfl rfl rfl hqX4_signOn ⟨Nat.le_of_ble_eq_true rfl, Nat.le_of_ble_eq_true rfl⟩) X (va_recv X.1 X.2.1 (ci := 0) (q0 := i) rfl (wlC_t hi)) rfl hl.1 rfl (Nat.le_of_ble_eq_true rfl) dX4_compareNeighbours_37 ⟨Nat.zero_le _, Nat.zero_le _⟩ (fun H locs X => ?_)
    refine lv_aload_n hx hb dX4_compareNeighbours_40 rfl (lv_at hl 2 rfl) ?_
    refine lv_iload_n hx hb dX4_compareNeighbours_41 rfl (lv_at hl 4 rfl) ?_
    refine lv_iload hx hb dX4_compareNeighbours_42 (lv_at hl 0 rfl) ?_
    refine lv_iadd hx hb dX4_compareNeighbours_44 ?_
    refine xb hf (fun v3 hv hf => ?_)
    refine xc_V1 (rest := [.int v2]) ⟨hx, hb, hml, hown, hts⟩ (mX4_signOn hi hv) (cwV 1 hts gX4_compareNeighbours_X4_signOn rfl rfl rfl hqX4_signOn ⟨Nat.le_of_ble_eq_true rfl, Nat.le_of_ble_eq_true rfl⟩) X (va_recv X.1 X.2.1 (ci := 0) (q0 := i) rfl (wlC_t hi)) rfl hl.1 rfl (Nat.le_of_ble_eq_true rfl) dX4_compareNeighbours_45 ⟨Nat.zero_le _, Nat.zero_le _⟩ (fun H locs X => ?_)
    refine lv_isub hx hb dX4_compareNeighbours_48 ?_
    cases hf
    exact xe_i hx hb hr hlocks X dX4_compareNeighbours_49
