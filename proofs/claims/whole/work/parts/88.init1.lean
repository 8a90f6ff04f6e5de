/-! The constructors that make arrays alone. -/
set_option maxRecDepth 100000 in
set_option maxHeartbeats 4000000 in
theorem c_X4 {l : Launch} {dd : va_G} {cy : Nat → ClassId} {A : Nat → Prop} {h0 : Nat} : Met l yX4_init wsX4_init { frames := 1, cells := 1, slots := 60, locals := 30 } (va_Pc [.ref h0] (IW dd cy A [(h0, .inr (0, [.null, .int 0]))])) (QE dd cy A (fun _ => True) (fun q0 : Nat => [(h0, .inr (0, [.ref q0, .int 0])), (q0, .inl (cy 0, 60, .inl fun _ => 0))])) 1 60 A := by
  refine Met.ofW (cc := cX4_init) (maxL := 1) (ret := none) (by decide) rfl ?_
  intro p e s m args below meth c s₁ B hml hv
  obtain ⟨hav, hI⟩ := hv
  have hx := B.exec
  have hb := B.bytes
  have hr := B.returns
  have hts := atoms_spec (ws := wsX4_init) B.pre
  have hown : s.vm.findClass RX4 = some m.cls := findClass_of_methodNamed B.named
  have hlocks := B.notSynchronized
  have hin : meth.name = "<init>" := (name_of_methodNamed B.named B.method).1
  have X := XW.of hI
  have hX4 : ∀ w ∈ wsX40, w ∈ wsX4_init := by decide +kernel
  refine xe_in hav (Nat.le_of_ble_eq_true rfl) rfl (fun ls hl => ?_)
  refine lv_aload_n hx hb dX4_init_0 rfl (lv_at hl 0 rfl) ?_
  refine W.objInit hx hb hown (hts (.methodLink RX4 3 objectInit) (by decide +kernel)) (hts (.instanceMethod objectInit) (by decide +kernel)) (hts (.code objectInit ⟨#[0xb1]⟩ 1 none) (by decide +kernel)) rfl (by rw [hml]; exact hl.1) rfl dX4_init_1 (Nat.le_of_ble_eq_true rfl) (Nat.le_of_ble_eq_true rfl) ?_
  refine W.eq (g2 := F0 m 4 ls []) rfl ?_
  refine lv_aload_n hx hb dX4_init_4 rfl (lv_at hl 0 rfl) ?_
  refine lv_bipush (v := 60) hx hb dX4_init_5 (by decide) ?_
  refine xn_newa (atype := .char) hx hb (hts (.arrayClass .char) (by decide +kernel)) rfl X 0 rfl (N' := 60) (a0 := (60, .inl fun _ => 0)) (fun _ => rfl) (by decide) (by decide) (Nat.le_of_ble_eq_true rfl) (Nat.le_of_ble_eq_true rfl) (Nat.le_of_ble_eq_true rfl) dX4_init_7 (fun q0 H X => ?_)
  have X : XW dd cy A s [(h0, .inr (0, [.null, .int 0])), (q0, .inl (cy 0, 60, .inl fun _ => 0))] H _ := X
  refine xn_putF (w9 := [(h0, .inr (0, [.ref q0, .int 0])), (q0, .inl (cy 0, 60, .inl fun _ => 0))]) hx hb hts hown hin X hX4 tyX4_ok nmX4 0 rfl rfl 0 (by decide) rfl rfl (ty := .array .char) (by decide +kernel) rfl rfl (by decide +kernel) (Nat.le_of_ble_eq_true rfl) rfl dX4_init_9 (fun H locs X => ?_)
  refine lv_aload_n hx hb dX4_init_12 rfl (lv_at hl 0 rfl) ?_
  refine lv_iconst (v := 0) hx hb dX4_init_13 (by decide) ?_
  refine xp_f (v := 0) (w2 := [(h0, .inr (0, [.ref q0, .int 0])), (q0, .inl (cy 0, 60, .inl fun _ => 0))]) hx hb hts hown X hX4 tyX4_ok nmX4 0 rfl rfl 1 (by decide) rfl (by decide +kernel) (by decide +kernel) (Nat.le_of_ble_eq_true rfl) rfl dX4_init_14 (fun H locs X => ?_)
  exact W.vret hx hb hr (fun t ht hW => ⟨⟨rfl, q0, trivial, X.post t ht hW.alike⟩, X.2.2.2.2.F ht⟩) X.2.2.2.2.2.2 dX4_init_17 hlocks
set_option maxRecDepth 100000 in
set_option maxHeartbeats 4000000 in
theorem c_X0 {l : Launch} {dd : va_G} {cy : Nat → ClassId} {A : Nat → Prop} {h0 : Nat} : Met l yX0_init wsX0_init { frames := 1, cells := 2, slots := 121, locals := 30 } (va_Pc [.ref h0] (IW dd cy A [(h0, .inr (2, [.null, .null]))])) (QE dd cy A (fun _ => True) (fun u : Nat × Nat => [(h0, .inr (2, [.ref u.1, .ref u.2])), (u.1, .inl (cy 1, 61, .inl fun _ => 0)), (u.2, .inl (cy 1, 60, .inl fun _ => 0))])) 2 121 A := by
  refine Met.ofW (cc := cX0_init) (maxL := 1) (ret := none) (by decide) rfl ?_
  intro p e s m args below meth c s₁ B hml hv
  obtain ⟨hav, hI⟩ := hv
  have hx := B.exec
  have hb := B.bytes
  have hr := B.returns
  have hts := atoms_spec (ws := wsX0_init) B.pre
  have hown : s.vm.findClass RX0 = some m.cls := findClass_of_methodNamed B.named
  have hlocks := B.notSynchronized
  have hin : meth.name = "<init>" := (name_of_methodNamed B.named B.method).1
  have X := XW.of hI
  have hX0 : ∀ w ∈ wsX00, w ∈ wsX0_init := by decide +kernel
  refine xe_in hav (Nat.le_of_ble_eq_true rfl) rfl (fun ls hl => ?_)
  refine lv_aload_n hx hb dX0_init_0 rfl (lv_at hl 0 rfl) ?_
  refine W.objInit hx hb hown (hts (.methodLink RX0 3 objectInit) (by decide +kernel)) (hts (.instanceMethod objectInit) (by decide +kernel)) (hts (.code objectInit ⟨#[0xb1]⟩ 1 none) (by decide +kernel)) rfl (by rw [hml]; exact hl.1) rfl dX0_init_1 (Nat.le_of_ble_eq_true rfl) (Nat.le_of_ble_eq_true rfl) ?_
  refine W.eq (g2 := F0 m 4 ls []) rfl ?_
  refine lv_aload_n hx hb dX0_init_4 rfl (lv_at hl 0 rfl) ?_
  refine lv_bipush (v := 61) hx hb dX0_init_5 (by decide) ?_
  refine xn_newa (atype := .int) hx hb (hts (.arrayClass .int) (by decide +kernel)) rfl X 1 rfl (N' := 61) (a0 := (61, .inl fun _ => 0)) (fun _ => rfl) (by decide) (by decide) (Nat.le_of_ble_eq_true rfl) (Nat.le_of_ble_eq_true rfl) (Nat.le_of_ble_eq_true rfl) dX0_init_7 (fun q0 H X => ?_)
  have X : XW dd cy A s [(h0, .inr (2, [.null, .null])), (q0, .inl (cy 1, 61, .inl fun _ => 0))] H _ := X
  refine xn_putF (w9 := [(h0, .inr (2, [.ref q0, .null])), (q0, .inl (cy 1, 61, .inl fun _ => 0))]) hx hb hts hown hin X hX0 tyX0_ok nmX0 0 rfl rfl 0 (by decide) rfl rfl (ty := .array .int) (by decide +kernel) rfl rfl (by decide +kernel) (Nat.le_of_ble_eq_true rfl) rfl dX0_init_9 (fun H locs X => ?_)
  refine lv_aload_n hx hb dX0_init_12 rfl (lv_at hl 0 rfl) ?_
  refine lv_bipush (v := 60) hx hb dX0_init_13 (by decide) ?_
  refine xn_newa (atype := .int) hx hb (hts (.arrayClass .int) (by decide +kernel)) rfl X 1 rfl (N' := 60) (a0 := (60, .inl fun _ => 0)) (fun _ => rfl) (by decide) (by decide) (Nat.le_of_ble_eq_true rfl) (Nat.le_of_ble_eq_true rfl) (Nat.le_of_ble_eq_true rfl) dX0_init_15 (fun q1 H X => ?_)
  have X : XW dd cy A s [(h0, .inr (2, [.ref q0, .null])), (q0, .inl (cy 1, 61, .inl fun _ => 0)), (q1, .inl (cy 1, 60, .inl fun _ => 0))] H _ := X
  refine xn_putF (w9 := [(h0, .inr (2, [.ref q0, .ref q1])), (q0, .inl (cy 1, 61, .inl fun _ => 0)), (q1, .inl (cy 1, 60, .inl fun _ => 0))]) hx hb hts hown hin X hX0 tyX0_ok nmX0 0 rfl rfl 1 (by decide) rfl rfl (ty := .array .int) (by decide +kernel) rfl rfl (by decide +kernel) (Nat.le_of_ble_eq_true rfl) rfl dX0_init_17 (fun H locs X => ?_)
  exact W.vret hx hb hr (fun t ht hW => ⟨⟨rfl, ⟨q0, q1⟩, trivial, X.post t ht hW.alike⟩, X.2.2.2.2.F ht⟩) X.2.2.2.2.2.2 dX0_init_20 hlocks
set_option maxRecDepth 100000 in
set_option maxHeartbeats 4000000 in
theorem c_X2 {l : Launch} {dd : va_G} {cy : Nat → ClassId} {A : Nat → Prop} {h0 : Nat} : Met l yX2_init wsX2_init { frames := 1, cells := 4, slots := 787, locals := 30 } (va_Pc [.ref h0] (IW dd cy A [(h0, .inr (3, [.null, .null, .null, .null, .int 0]))])) (QE dd cy A (fun _ => True) (fun u : Nat × Nat × Nat × Nat => [(h0, .inr (3, [.ref u.1, .ref u.2.1, .ref u.2.2.1, .ref u.2.2.2, .int 0])), (u.1, .inl (cy 2, 61, .inr (.inl fun _ => 0))), (u.2.1, .inl (cy 1, 360, .inl fun _ => 0)), (u.2.2.1, .inl (cy 1, 360, .inl fun _ => 0)), (u.2.2.2, .inl (cy 2, 6, .inr (.inl fun _ => 0)))])) 4 787 A := by
  refine Met.ofW (cc := cX2_init) (maxL := 1) (ret := none) (by decide) rfl ?_
  intro p e s m args below meth c s₁ B hml hv
  obtain ⟨hav, hI⟩ := hv
  have hx := B.exec
  have hb := B.bytes
  have hr := B.returns
  have hts := atoms_spec (ws := wsX2_init) B.pre
  have hown : s.vm.findClass RX2 = some m.cls := findClass_of_methodNamed B.named
  have hlocks := B.notSynchronized
  have hin : meth.name = "<init>" := (name_of_methodNamed B.named B.method).1
  have X := XW.of hI
  have hX2 : ∀ w ∈ wsX20, w ∈ wsX2_init := by decide +kernel
  refine xe_in hav (Nat.le_of_ble_eq_true rfl) rfl (fun ls hl => ?_)
  refine lv_aload_n hx hb dX2_init_0 rfl (lv_at hl 0 rfl) ?_
  refine W.objInit hx hb hown (hts (.methodLink RX2 3 objectInit) (by decide +kernel)) (hts (.instanceMethod objectInit) (by decide +kernel)) (hts (.code objectInit ⟨#[0xb1]⟩ 1 none) (by decide +kernel)) rfl (by rw [hml]; exact hl.1) rfl dX2_init_1 (Nat.le_of_ble_eq_true rfl) (Nat.le_of_ble_eq_true rfl) ?_
  refine W.eq (g2 := F0 m 4 ls []) rfl ?_
  refine lv_aload_n hx hb dX2_init_4 rfl (lv_at hl 0 rfl) ?_
  refine lv_bipush (v := 61) hx hb dX2_init_5 (by decide) ?_
  refine xn_newa (atype := .long) hx hb (hts (.arrayClass .long) (by decide +kernel)) rfl X 2 rfl (N' := 61) (a0 := (61, .inr (.inl fun _ => 0))) (fun _ => rfl) (by decide) (by decide) (Nat.le_of_ble_eq_true rfl) (Nat.le_of_ble_eq_true rfl) (Nat.le_of_ble_eq_true rfl) dX2_init_7 (fun q0 H X => ?_)
  have X : XW dd cy A s [(h0, .inr (3, [.null, .null, .null, .null, .int 0])), (q0, .inl (cy 2, 61, .inr (.inl fun _ => 0)))] H _ := X
  refine xn_putF (w9 := [(h0, .inr (3, [.ref q0, .null, .null, .null, .int 0])), (q0, .inl (cy 2, 61, .inr (.inl fun _ => 0)))]) hx hb hts hown hin X hX2 tyX2_ok nmX2 0 rfl rfl 0 (by decide) rfl rfl (ty := .array .long) (by decide +kernel) rfl rfl (by decide +kernel) (Nat.le_of_ble_eq_true rfl) rfl dX2_init_9 (fun H locs X => ?_)
  refine lv_aload_n hx hb dX2_init_12 rfl (lv_at hl 0 rfl) ?_
  refine lv_sipush (v := 360) hx hb dX2_init_13 (by decide) ?_
  refine xn_newa (atype := .int) hx hb (hts (.arrayClass .int) (by decide +kernel)) rfl X 1 rfl (N' := 360) (a0 := (360, .inl fun _ => 0)) (fun _ => rfl) (by decide) (by decide) (Nat.le_of_ble_eq_true rfl) (Nat.le_of_ble_eq_true rfl) (Nat.le_of_ble_eq_true rfl) dX2_init_16 (fun q1 H X => ?_)
  have X : XW dd cy A s [(h0, .inr (3, [.ref q0, .null, .null, .null, .int 0])), (q0, .inl (cy 2, 61, .inr (.inl fun _ => 0))), (q1, .inl (cy 1, 360, .inl fun _ => 0))] H _ := X
  refine xn_putF (w9 := [(h0, .inr (3, [.ref q0, .ref q1, .null, .null, .int 0])), (q0, .inl (cy 2, 61, .inr (.inl fun _ => 0))), (q1, .inl (cy 1, 360, .inl fun _ => 0))]) hx hb hts hown hin X hX2 tyX2_ok nmX2 0 rfl rfl 1 (by decide) rfl rfl (ty := .array .int) (by decide +kernel) rfl rfl (by decide +kernel) (Nat.le_of_ble_eq_true rfl) rfl dX2_init_18 (fun H locs X => ?_)
  refine lv_aload_n hx hb dX2_init_21 rfl (lv_at hl 0 rfl) ?_
  refine lv_sipush (v := 360) hx hb dX2_init_22 (by decide) ?_
  refine xn_newa (atype := .int) hx hb (hts (.arrayClass .int) (by decide +kernel)) rfl X 1 rfl (N' := 360) (a0 := (360, .inl fun _ => 0)) (fun _ => rfl) (by decide) (by decide) (Nat.le_of_ble_eq_true rfl) (Nat.le_of_ble_eq_true rfl) (Nat.le_of_ble_eq_true rfl) dX2_init_25 (fun q2 H X => ?_)
  have X : XW dd cy A s [(h0, .inr (3, [.ref q0, .ref q1, .null, .null, .int 0])), (q0, .inl (cy 2, 61, .inr (.inl fun _ => 0))), (q1, .inl (cy 1, 360, .inl fun _ => 0)), (q2, .inl (cy 1, 360, .inl fun _ => 0))] H _ := X
  refine xn_putF (w9 := [(h0, .inr (3, [.ref q0, .ref q1, .ref q2, .null, .int 0])), (q0, .inl (cy 2, 61, .inr (.inl fun _ => 0))), (q1, .inl (cy 1, 360, .inl fun _ => 0)), (q2, .inl (cy 1, 360, .inl fun _ => 0))]) hx hb hts hown hin X hX2 tyX2_ok nmX2 0 rfl rfl 2 (by decide) rfl rfl (ty := .array .int) (by decide +kernel) rfl rfl (by decide +kernel) (Nat.le_of_ble_eq_true rfl) rfl dX2_init_27 (fun H locs X => ?_)
  refine lv_aload_n hx hb dX2_init_30 rfl (lv_at hl 0 rfl) ?_
  refine lv_bipush (v := 6) hx hb dX2_init_31 (by decide) ?_
  refine xn_newa (atype := .long) hx hb (hts (.arrayClass .long) (by decide +kernel)) rfl X 2 rfl (N' := 6) (a0 := (6, .inr (.inl fun _ => 0))) (fun _ => rfl) (by decide) (by decide) (Nat.le_of_ble_eq_true rfl) (Nat.le_of_ble_eq_true rfl) (Nat.le_of_ble_eq_true rfl) dX2_init_33 (fun q3 H X => ?_)
  have X : XW dd cy A s [(h0, .inr (3, [.ref q0, .ref q1, .ref q2, .null, .int 0])), (q0, .inl (cy 2, 61, .inr (.inl fun _ => 0))), (q1, .inl (cy 1, 360, .inl fun _ => 0)), (q2, .inl (cy 1, 360, .inl fun _ => 0)), (q3, .inl (cy 2, 6, .inr (.inl fun _ => 0)))] H _ := X
  refine xn_putF (w9 := [(h0, .inr (3, [.ref q0, .ref q1, .ref q2, .ref q3, .int 0])), (q0, .inl (cy 2, 61, .inr (.inl fun _ => 0))), (q1, .inl (cy 1, 360, .inl fun _ => 0)), (q2, .inl (cy 1, 360, .inl fun _ => 0)), (q3, .inl (cy 2, 6, .inr (.inl fun _ => 0)))]) hx hb hts hown hin X hX2 tyX2_ok nmX2 0 rfl rfl 3 (by decide) rfl rfl (ty := .array .long) (by decide +kernel) rfl rfl (by decide +kernel) (Nat.le_of_ble_eq_true rfl) rfl dX2_init_35 (fun H locs X => ?_)
  refine lv_aload_n hx hb dX2_init_38 rfl (lv_at hl 0 rfl) ?_
  refine lv_iconst (v := 0) hx hb dX2_init_39 (by decide) ?_
  refine xp_f (v := 0) (w2 := [(h0, .inr (3, [.ref q0, .ref q1, .ref q2, .ref q3, .int 0])), (q0, .inl (cy 2, 61, .inr (.inl fun _ => 0))), (q1, .inl (cy 1, 360, .inl fun _ => 0)), (q2, .inl (cy 1, 360, .inl fun _ => 0)), (q3, .inl (cy 2, 6, .inr (.inl fun _ => 0)))]) hx hb hts hown X hX2 tyX2_ok nmX2 0 rfl rfl 4 (by decide) rfl (by decide +kernel) (by decide +kernel) (Nat.le_of_ble_eq_true rfl) rfl dX2_init_40 (fun H locs X => ?_)
  exact W.vret hx hb hr (fun t ht hW => ⟨⟨rfl, ⟨q0, q1, q2, q3⟩, trivial, X.post t ht hW.alike⟩, X.2.2.2.2.F ht⟩) X.2.2.2.2.2.2 dX2_init_43 hlocks
set_option maxRecDepth 100000 in
set_option maxHeartbeats 4000000 in
theorem c_X6 {l : Launch} {dd : va_G} {cy : Nat → ClassId} {A : Nat → Prop} {h0 : Nat} : Met l yX6_init wsX6_init { frames := 1, cells := 4, slots := 1387, locals := 30 } (va_Pc [.ref h0] (IW dd cy A [(h0, .inr (4, [.int 0, .null, .null, .null, .null]))])) (QE dd cy A (fun _ => True) (fun u : Nat × Nat × Nat × Nat => [(h0, .inr (4, [.int 0, .ref u.1, .ref u.2.1, .ref u.2.2.1, .ref u.2.2.2])), (u.1, .inl (cy 1, 900, .inl fun _ => 0)), (u.2.1, .inl (cy 1, 6, .inl fun _ => 0)), (u.2.2.1, .inl (cy 2, 121, .inr (.inl fun _ => 0))), (u.2.2.2, .inl (cy 3, 360, .inl fun _ => 0))])) 4 1387 A := by
  refine Met.ofW (cc := cX6_init) (maxL := 1) (ret := none) (by decide) rfl ?_
  intro p e s m args below meth c s₁ B hml hv
  obtain ⟨hav, hI⟩ := hv
  have hx := B.exec
  have hb := B.bytes
  have hr := B.returns
  have hts := atoms_spec (ws := wsX6_init) B.pre
  have hown : s.vm.findClass RX6 = some m.cls := findClass_of_methodNamed B.named
  have hlocks := B.notSynchronized
  have hin : meth.name = "<init>" := (name_of_methodNamed B.named B.method).1
  have X := XW.of hI
  have hX6 : ∀ w ∈ wsX60, w ∈ wsX6_init := by decide +kernel
  refine xe_in hav (Nat.le_of_ble_eq_true rfl) rfl (fun ls hl => ?_)
  refine lv_aload_n hx hb dX6_init_0 rfl (lv_at hl 0 rfl) ?_
  refine W.objInit hx hb hown (hts (.methodLink RX6 1 objectInit) (by decide +kernel)) (hts (.instanceMethod objectInit) (by decide +kernel)) (hts (.code objectInit ⟨#[0xb1]⟩ 1 none) (by decide +kernel)) rfl (by rw [hml]; exact hl.1) rfl dX6_init_1 (Nat.le_of_ble_eq_true rfl) (Nat.le_of_ble_eq_true rfl) ?_
  refine W.eq (g2 := F0 m 4 ls []) rfl ?_
  refine lv_aload_n hx hb dX6_init_4 rfl (lv_at hl 0 rfl) ?_
  refine lv_sipush (v := 900) hx hb dX6_init_5 (by decide) ?_
  refine xn_newa (atype := .int) hx hb (hts (.arrayClass .int) (by decide +kernel)) rfl X 1 rfl (N' := 900) (a0 := (900, .inl fun _ => 0)) (fun _ => rfl) (by decide) (by decide) (Nat.le_of_ble_eq_true rfl) (Nat.le_of_ble_eq_true rfl) (Nat.le_of_ble_eq_true rfl) dX6_init_8 (fun q0 H X => ?_)
  have X : XW dd cy A s [(h0, .inr (4, [.int 0, .null, .null, .null, .null])), (q0, .inl (cy 1, 900, .inl fun _ => 0))] H _ := X
  refine xn_putF (w9 := [(h0, .inr (4, [.int 0, .ref q0, .null, .null, .null])), (q0, .inl (cy 1, 900, .inl fun _ => 0))]) hx hb hts hown hin X hX6 tyX6_ok nmX6 0 rfl rfl 1 (by decide) rfl rfl (ty := .array .int) (by decide +kernel) rfl rfl (by decide +kernel) (Nat.le_of_ble_eq_true rfl) rfl dX6_init_10 (fun H locs X => ?_)
  refine lv_aload_n hx hb dX6_init_13 rfl (lv_at hl 0 rfl) ?_
  refine lv_bipush (v := 6) hx hb dX6_init_14 (by decide) ?_
  refine xn_newa (atype := .int) hx hb (hts (.arrayClass .int) (by decide +kernel)) rfl X 1 rfl (N' := 6) (a0 := (6, .inl fun _ => 0)) (fun _ => rfl) (by decide) (by decide) (Nat.le_of_ble_eq_true rfl) (Nat.le_of_ble_eq_true rfl) (Nat.le_of_ble_eq_true rfl) dX6_init_16 (fun q1 H X => ?_)
  have X : XW dd cy A s [(h0, .inr (4, [.int 0, .ref q0, .null, .null, .null])), (q0, .inl (cy 1, 900, .inl fun _ => 0)), (q1, .inl (cy 1, 6, .inl fun _ => 0))] H _ := X
  refine xn_putF (w9 := [(h0, .inr (4, [.int 0, .ref q0, .ref q1, .null, .null])), (q0, .inl (cy 1, 900, .inl fun _ => 0)), (q1, .inl (cy 1, 6, .inl fun _ => 0))]) hx hb hts hown hin X hX6 tyX6_ok nmX6 0 rfl rfl 2 (by decide) rfl rfl (ty := .array .int) (by decide +kernel) rfl rfl (by decide +kernel) (Nat.le_of_ble_eq_true rfl) rfl dX6_init_18 (fun H locs X => ?_)
  refine lv_aload_n hx hb dX6_init_21 rfl (lv_at hl 0 rfl) ?_
  refine lv_bipush (v := 121) hx hb dX6_init_22 (by decide) ?_
  refine xn_newa (atype := .long) hx hb (hts (.arrayClass .long) (by decide +kernel)) rfl X 2 rfl (N' := 121) (a0 := (121, .inr (.inl fun _ => 0))) (fun _ => rfl) (by decide) (by decide) (Nat.le_of_ble_eq_true rfl) (Nat.le_of_ble_eq_true rfl) (Nat.le_of_ble_eq_true rfl) dX6_init_24 (fun q2 H X => ?_)
  have X : XW dd cy A s [(h0, .inr (4, [.int 0, .ref q0, .ref q1, .null, .null])), (q0, .inl (cy 1, 900, .inl fun _ => 0)), (q1, .inl (cy 1, 6, .inl fun _ => 0)), (q2, .inl (cy 2, 121, .inr (.inl fun _ => 0)))] H _ := X
  refine xn_putF (w9 := [(h0, .inr (4, [.int 0, .ref q0, .ref q1, .ref q2, .null])), (q0, .inl (cy 1, 900, .inl fun _ => 0)), (q1, .inl (cy 1, 6, .inl fun _ => 0)), (q2, .inl (cy 2, 121, .inr (.inl fun _ => 0)))]) hx hb hts hown hin X hX6 tyX6_ok nmX6 0 rfl rfl 3 (by decide) rfl rfl (ty := .array .long) (by decide +kernel) rfl rfl (by decide +kernel) (Nat.le_of_ble_eq_true rfl) rfl dX6_init_26 (fun H locs X => ?_)
  refine lv_aload_n hx hb dX6_init_29 rfl (lv_at hl 0 rfl) ?_
  refine lv_sipush (v := 360) hx hb dX6_init_30 (by decide) ?_
  refine xn_newa (atype := .boolean) hx hb (hts (.arrayClass .boolean) (by decide +kernel)) rfl X 3 rfl (N' := 360) (a0 := (360, .inl fun _ => 0)) (fun _ => rfl) (by decide) (by decide) (Nat.le_of_ble_eq_true rfl) (Nat.le_of_ble_eq_true rfl) (Nat.le_of_ble_eq_true rfl) dX6_init_33 (fun q3 H X => ?_)
  have X : XW dd cy A s [(h0, .inr (4, [.int 0, .ref q0, .ref q1, .ref q2, .null])), (q0, .inl (cy 1, 900, .inl fun _ => 0)), (q1, .inl (cy 1, 6, .inl fun _ => 0)), (q2, .inl (cy 2, 121, .inr (.inl fun _ => 0))), (q3, .inl (cy 3, 360, .inl fun _ => 0))] H _ := X
  refine xn_putF (w9 := [(h0, .inr (4, [.int 0, .ref q0, .ref q1, .ref q2, .ref q3])), (q0, .inl (cy 1, 900, .inl fun _ => 0)), (q1, .inl (cy 1, 6, .inl fun _ => 0)), (q2, .inl (cy 2, 121, .inr (.inl fun _ => 0))), (q3, .inl (cy 3, 360, .inl fun _ => 0))]) hx hb hts hown hin X hX6 tyX6_ok nmX6 0 rfl rfl 4 (by decide) rfl rfl (ty := .array .boolean) (by decide +kernel) rfl rfl (by decide +kernel) (Nat.le_of_ble_eq_true rfl) rfl dX6_init_35 (fun H locs X => ?_)
  refine lv_aload_n hx hb dX6_init_38 rfl (lv_at hl 0 rfl) ?_
  refine lv_iconst (v := 0) hx hb dX6_init_39 (by decide) ?_
  refine xp_f (v := 0) (w2 := [(h0, .inr (4, [.int 0, .ref q0, .ref q1, .ref q2, .ref q3])), (q0, .inl (cy 1, 900, .inl fun _ => 0)), (q1, .inl (cy 1, 6, .inl fun _ => 0)), (q2, .inl (cy 2, 121, .inr (.inl fun _ => 0))), (q3, .inl (cy 3, 360, .inl fun _ => 0))]) hx hb hts hown X hX6 tyX6_ok nmX6 0 rfl rfl 0 (by decide) rfl (by decide +kernel) (by decide +kernel) (Nat.le_of_ble_eq_true rfl) rfl dX6_init_40 (fun H locs X => ?_)
  exact W.vret hx hb hr (fun t ht hW => ⟨⟨rfl, ⟨q0, q1, q2, q3⟩, trivial, X.post t ht hW.alike⟩, X.2.2.2.2.F ht⟩) X.2.2.2.2.2.2 dX6_init_43 hlocks
