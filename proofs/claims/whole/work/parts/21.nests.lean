set_option maxRecDepth 100000 in
set_option maxHeartbeats 4000000 in
theorem mX1_sizeAt {l : Launch} {dd : va_G} {cy : Nat → ClassId} {ad : Nat → Nat} {A : Nat → Prop} {fu : Nat} {ts : Nat → Int32} {tc : Nat → Nat → Int32} {rk : Nat → Int32} {pl : Nat → Int32} {ru : Nat → Int64} {sl : Nat → Int32} {bg : Nat → Int32} {kn : Nat → Int64} {rm : Int32} {ol : Nat → Int64} {od : Nat → UInt64} {j0 : Nat} {x1 : Int32} {rv : Int32} (hj0 : j0 < 7) (hf : fX1_sizeAt fu ts tc j0 x1 = some rv) : Met l yX1_sizeAt wsX1_sizeAt { frames := 1, cells := 0, slots := 0, locals := 21 } (va_Pc [.ref (ad j0), .int x1] (IW dd cy A (wlC ad cy ts tc rk pl ru sl bg kn rm ol od))) (QX dd cy A (some (.int rv)) (wlC ad cy ts tc rk pl ru sl bg kn rm ol od)) 0 0 A := by
  refine Met.ofW (cc := cX1_sizeAt) (maxL := 4) (ret := some .int) (by decide) rfl ?_
  intro p e s m args below meth c s₁ B hml hv
  obtain ⟨hav, hI⟩ := hv
  have hx := B.exec
  have hb := B.bytes
  have hr := B.returns
  have hts := atoms_spec (ws := wsX1_sizeAt) B.pre
  have hown : s.vm.findClass RX1 = some m.cls := findClass_of_methodNamed B.named
  have hlocks := B.notSynchronized
  have X := XW.of hI
  refine xe_in hav (Nat.le_of_ble_eq_true rfl) rfl (fun ls hl => ?_)
  have w6 : ∀ (t0 : Nat) (y1 : Int32) (ht0 : t0 < 7) (n : Nat) (y2 : Int32) (y3 : Int32), fX1_sizeAt_6 fu ts tc t0 y1 n y2 y3 = some rv → ∀ (H : Heap) (locs : List Loc) (ls : Array Slot), XW dd cy A s (wlC ad cy ts tc rk pl ru sl bg kn rm ol od) H locs → lv_has ls 4 [(0, .ref (ad t0)), (1, .int y1), (2, .int y2), (3, .int y3)] → W p l e (headSpec wsX1_sizeAt { frames := 1, cells := 0, slots := 0, locals := 21 }).room s m args below meth c H locs 0 0 (MQ below (QX dd cy A (some (.int rv)) (wlC ad cy ts tc rk pl ru sl bg kn rm ol od)) args s 0 0 A) (F0 m 6 ls []) := by
    intro t0 y1 ht0 n
    induction n with
    | zero => intro y2 y3 hf; exact absurd hf (by simp [fX1_sizeAt_6])
    | succ n ih =>
      intro y2 y3 hf H locs ls X hl
      rw [fX1_sizeAt_6] at hf
      refine lv_iload_n hx hb dX1_sizeAt_6 rfl (lv_at hl 3 rfl) ?_
      refine lv_aload_n hx hb dX1_sizeAt_7 rfl (lv_at hl 0 rfl) ?_
      refine xb hf (fun v1 hv hf => ?_)
      refine xc_V1 (rest := [.int y3]) ⟨hx, hb, hml, hown, hts⟩ (mX4_size ht0 hv) (cwV 0 hts gX1_sizeAt_X4_size rfl rfl rfl hqX4_size ⟨Nat.le_of_ble_eq_true rfl, Nat.le_of_ble_eq_true rfl⟩) X (va_recv X.1 X.2.1 (ci := 0) (q0 := t0) rfl (wlC_t ht0)) rfl hl.1 rfl (Nat.le_of_ble_eq_true rfl) dX1_sizeAt_8 ⟨Nat.zero_le _, Nat.zero_le _⟩ (fun H locs X => ?_)
      refine xr_icmp_ge (tgt := 54) hx hb dX1_sizeAt_11 rfl hf (fun hf => ?_) (fun hf => ?_)
      · refine lv_iload_n hx hb dX1_sizeAt_54 rfl (lv_at hl 3 rfl) ?_
        refine lv_iload_n hx hb dX1_sizeAt_55 rfl (lv_at hl 2 rfl) ?_
        refine lv_isub hx hb dX1_sizeAt_56 ?_
        cases hf
        exact xe_i hx hb hr hlocks X dX1_sizeAt_57
      · refine lv_aload_n hx hb dX1_sizeAt_14 rfl (lv_at hl 0 rfl) ?_
        refine lv_iload_n hx hb dX1_sizeAt_15 rfl (lv_at hl 2 rfl) ?_
        refine xb hf (fun v2 hv hf => ?_)
        refine xc_V1 (rest := []) ⟨hx, hb, hml, hown, hts⟩ (mX4_signOn ht0 hv) (cwV 1 hts gX1_sizeAt_X4_signOn rfl rfl rfl hqX4_signOn ⟨Nat.le_of_ble_eq_true rfl, Nat.le_of_ble_eq_true rfl⟩) X (va_recv X.1 X.2.1 (ci := 0) (q0 := t0) rfl (wlC_t ht0)) rfl hl.1 rfl (Nat.le_of_ble_eq_true rfl) dX1_sizeAt_16 ⟨Nat.zero_le _, Nat.zero_le _⟩ (fun H locs X => ?_)
        refine lv_aload_n hx hb dX1_sizeAt_19 rfl (lv_at hl 0 rfl) ?_
        refine lv_iload_n hx hb dX1_sizeAt_20 rfl (lv_at hl 3 rfl) ?_
        refine xb hf (fun v3 hv hf => ?_)
        refine xc_V1 (rest := [.int v2]) ⟨hx, hb, hml, hown, hts⟩ (mX4_signOn ht0 hv) (cwV 1 hts gX1_sizeAt_X4_signOn rfl rfl rfl hqX4_signOn ⟨Nat.le_of_ble_eq_true rfl, Nat.le_of_ble_eq_true rfl⟩) X (va_recv X.1 X.2.1 (ci := 0) (q0 := t0) rfl (wlC_t ht0)) rfl hl.1 rfl (Nat.le_of_ble_eq_true rfl) dX1_sizeAt_21 ⟨Nat.zero_le _, Nat.zero_le _⟩ (fun H locs X => ?_)
        refine xr_icmp_gt (tgt := 54) hx hb dX1_sizeAt_24 rfl hf (fun hf => ?_) (fun hf => ?_)
        · refine lv_iload_n hx hb dX1_sizeAt_54 rfl (lv_at hl 3 rfl) ?_
          refine lv_iload_n hx hb dX1_sizeAt_55 rfl (lv_at hl 2 rfl) ?_
          refine lv_isub hx hb dX1_sizeAt_56 ?_
          cases hf
          exact xe_i hx hb hr hlocks X dX1_sizeAt_57
        · refine lv_aload_n hx hb dX1_sizeAt_27 rfl (lv_at hl 0 rfl) ?_
          refine lv_iload_n hx hb dX1_sizeAt_28 rfl (lv_at hl 2 rfl) ?_
          refine xb hf (fun v4 hv hf => ?_)
          refine xc_V1 (rest := []) ⟨hx, hb, hml, hown, hts⟩ (mX4_signOn ht0 hv) (cwV 1 hts gX1_sizeAt_X4_signOn rfl rfl rfl hqX4_signOn ⟨Nat.le_of_ble_eq_true rfl, Nat.le_of_ble_eq_true rfl⟩) X (va_recv X.1 X.2.1 (ci := 0) (q0 := t0) rfl (wlC_t ht0)) rfl hl.1 rfl (Nat.le_of_ble_eq_true rfl) dX1_sizeAt_29 ⟨Nat.zero_le _, Nat.zero_le _⟩ (fun H locs X => ?_)
          refine lv_aload_n hx hb dX1_sizeAt_32 rfl (lv_at hl 0 rfl) ?_
          refine lv_iload_n hx hb dX1_sizeAt_33 rfl (lv_at hl 3 rfl) ?_
          refine xb hf (fun v5 hv hf => ?_)
          refine xc_V1 (rest := [.int v4]) ⟨hx, hb, hml, hown, hts⟩ (mX4_signOn ht0 hv) (cwV 1 hts gX1_sizeAt_X4_signOn rfl rfl rfl hqX4_signOn ⟨Nat.le_of_ble_eq_true rfl, Nat.le_of_ble_eq_true rfl⟩) X (va_recv X.1 X.2.1 (ci := 0) (q0 := t0) rfl (wlC_t ht0)) rfl hl.1 rfl (Nat.le_of_ble_eq_true rfl) dX1_sizeAt_34 ⟨Nat.zero_le _, Nat.zero_le _⟩ (fun H locs X => ?_)
          refine xr_icmp_ge (tgt := 44) hx hb dX1_sizeAt_37 rfl hf (fun hf => ?_) (fun hf => ?_)
          · refine lv_iload_n hx hb dX1_sizeAt_44 rfl (lv_at hl 2 rfl) ?_
            refine lv_iconst (v := (1 : Int32)) hx hb dX1_sizeAt_45 rfl ?_
            refine lv_iadd hx hb dX1_sizeAt_46 ?_
            refine lv_istore_n (lv' := [(2, .int (y2 + (1 : Int32))), (0, .ref (ad t0)), (1, .int y1), (3, .int y3)]) hx hb dX1_sizeAt_47 rfl hl (by decide) rfl (fun ls hl => ?_)
            refine lv_iinc (v := (y3 + 1)) (lv' := [(3, .int (y3 + 1)), (2, .int (y2 + (1 : Int32))), (0, .ref (ad t0)), (1, .int y1)]) hx hb dX1_sizeAt_48 hl (k := 3) rfl ii_1 (by decide) rfl (fun ls hl => ?_)
            refine lv_goto (tgt := 6) hx hb dX1_sizeAt_51 rfl ?_
            exact ih (y2 + (1 : Int32)) (y3 + 1) hf _ _ _ X (lv_sub hl [2, 3, 1, 0] rfl)
          · refine lv_iload_n hx hb dX1_sizeAt_40 rfl (lv_at hl 1 rfl) ?_
            refine lv_goto (tgt := 47) hx hb dX1_sizeAt_41 rfl ?_
            refine lv_istore_n (lv' := [(2, .int y1), (0, .ref (ad t0)), (1, .int y1), (3, .int y3)]) hx hb dX1_sizeAt_47 rfl hl (by decide) rfl (fun ls hl => ?_)
            refine lv_iinc (v := (y3 + 1)) (lv' := [(3, .int (y3 + 1)), (2, .int y1), (0, .ref (ad t0)), (1, .int y1)]) hx hb dX1_sizeAt_48 hl (k := 3) rfl ii_1 (by decide) rfl (fun ls hl => ?_)
            refine lv_goto (tgt := 6) hx hb dX1_sizeAt_51 rfl ?_
            exact ih y1 (y3 + 1) hf _ _ _ X (lv_sub hl [2, 3, 1, 0] rfl)
  rw [fX1_sizeAt] at hf
  refine lv_iload_n hx hb dX1_sizeAt_0 rfl (lv_at hl 1 rfl) ?_
  refine lv_istore_n (lv' := [(2, .int x1), (0, .ref (ad j0)), (1, .int x1)]) hx hb dX1_sizeAt_1 rfl hl (by decide) rfl (fun ls hl => ?_)
  refine lv_iload_n hx hb dX1_sizeAt_2 rfl (lv_at hl 2 rfl) ?_
  refine lv_iconst (v := (1 : Int32)) hx hb dX1_sizeAt_3 rfl ?_
  refine lv_iadd hx hb dX1_sizeAt_4 ?_
  refine lv_istore_n (lv' := [(3, .int (x1 + (1 : Int32))), (2, .int x1), (0, .ref (ad j0)), (1, .int x1)]) hx hb dX1_sizeAt_5 rfl hl (by decide) rfl (fun ls hl => ?_)
  exact w6 j0 x1 hj0 fu x1 (x1 + (1 : Int32)) hf _ _ _ X (lv_sub hl [2, 3, 1, 0] rfl)
set_option maxRecDepth 100000 in
set_option maxHeartbeats 4000000 in
theorem mX1_countIn {l : Launch} {dd : va_G} {cy : Nat → ClassId} {ad : Nat → Nat} {A : Nat → Prop} {fu : Nat} {ts : Nat → Int32} {tc : Nat → Nat → Int32} {rk : Nat → Int32} {pl : Nat → Int32} {ru : Nat → Int64} {sl : Nat → Int32} {bg : Nat → Int32} {kn : Nat → Int64} {rm : Int32} {ol : Nat → Int64} {od : Nat → UInt64} {j0 : Nat} {rv : Int32} (hj0 : j0 < 7) (hf : fX1_countIn fu ts tc j0 = some rv) : Met l yX1_countIn wsX1_countIn { frames := 2, cells := 0, slots := 0, locals := 44 } (va_Pc [.ref (ad j0)] (IW dd cy A (wlC ad cy ts tc rk pl ru sl bg kn rm ol od))) (QX dd cy A (some (.int rv)) (wlC ad cy ts tc rk pl ru sl bg kn rm ol od)) 0 0 A := by
  refine Met.ofW (cc := cX1_countIn) (maxL := 3) (ret := some .int) (by decide) rfl ?_
  intro p e s m args below meth c s₁ B hml hv
  obtain ⟨hav, hI⟩ := hv
  have hx := B.exec
  have hb := B.bytes
  have hr := B.returns
  have hts := atoms_spec (ws := wsX1_countIn) B.pre
  have hown : s.vm.findClass RX1 = some m.cls := findClass_of_methodNamed B.named
  have hlocks := B.notSynchronized
  have X := XW.of hI
  refine xe_in hav (Nat.le_of_ble_eq_true rfl) rfl (fun ls hl => ?_)
  have w4 : ∀ (t0 : Nat) (ht0 : t0 < 7) (n : Nat) (y1 : Int32) (y2 : Int32), fX1_countIn_4 fu ts tc t0 n y1 y2 = some rv → ∀ (H : Heap) (locs : List Loc) (ls : Array Slot), XW dd cy A s (wlC ad cy ts tc rk pl ru sl bg kn rm ol od) H locs → lv_has ls 3 [(0, .ref (ad t0)), (1, .int y1), (2, .int y2)] → W p l e (headSpec wsX1_countIn { frames := 2, cells := 0, slots := 0, locals := 44 }).room s m args below meth c H locs 0 0 (MQ below (QX dd cy A (some (.int rv)) (wlC ad cy ts tc rk pl ru sl bg kn rm ol od)) args s 0 0 A) (F0 m 4 ls []) := by
    intro t0 ht0 n
    induction n with
    | zero => intro y1 y2 hf; exact absurd hf (by simp [fX1_countIn_4])
    | succ n ih =>
      intro y1 y2 hf H locs ls X hl
      rw [fX1_countIn_4] at hf
      refine lv_iload_n hx hb dX1_countIn_4 rfl (lv_at hl 1 rfl) ?_
      refine lv_bipush (v := (60 : Int32)) hx hb dX1_countIn_5 rfl ?_
      refine xr_icmp_ge (tgt := 32) hx hb dX1_countIn_7 rfl hf (fun hf => ?_) (fun hf => ?_)
      · refine lv_iload_n hx hb dX1_countIn_32 rfl (lv_at hl 1 rfl) ?_
        cases hf
        exact xe_i hx hb hr hlocks X dX1_countIn_33
      · refine lv_iload_n hx hb dX1_countIn_10 rfl (lv_at hl 2 rfl) ?_
        refine lv_aload_n hx hb dX1_countIn_11 rfl (lv_at hl 0 rfl) ?_
        refine xb hf (fun v1 hv hf => ?_)
        refine xc_V1 (rest := [.int y2]) ⟨hx, hb, hml, hown, hts⟩ (mX4_size ht0 hv) (cwV 0 hts gX1_countIn_X4_size rfl rfl rfl hqX4_size ⟨Nat.le_of_ble_eq_true rfl, Nat.le_of_ble_eq_true rfl⟩) X (va_recv X.1 X.2.1 (ci := 0) (q0 := t0) rfl (wlC_t ht0)) rfl hl.1 rfl (Nat.le_of_ble_eq_true rfl) dX1_countIn_12 ⟨Nat.zero_le _, Nat.zero_le _⟩ (fun H locs X => ?_)
        refine xr_icmp_ge (tgt := 32) hx hb dX1_countIn_15 rfl hf (fun hf => ?_) (fun hf => ?_)
        · refine lv_iload_n hx hb dX1_countIn_32 rfl (lv_at hl 1 rfl) ?_
          cases hf
          exact xe_i hx hb hr hlocks X dX1_countIn_33
        · refine lv_iload_n hx hb dX1_countIn_18 rfl (lv_at hl 2 rfl) ?_
          refine lv_aload_n hx hb dX1_countIn_19 rfl (lv_at hl 0 rfl) ?_
          refine lv_iload_n hx hb dX1_countIn_20 rfl (lv_at hl 2 rfl) ?_
          refine xb hf (fun v2 hv hf => ?_)
          refine xc_S1 (rest := [.int y2]) ⟨hx, hb, hml, hown, hts⟩ (mX1_sizeAt ht0 hv) (va_cwS 2 hts gX1_countIn_X1_sizeAt rfl rfl rfl hqX1_sizeAt ⟨Nat.le_of_ble_eq_true rfl, Nat.le_of_ble_eq_true rfl⟩) X rfl hl.1 rfl (Nat.le_of_ble_eq_true rfl) dX1_countIn_21 ⟨Nat.zero_le _, Nat.zero_le _⟩ (fun H locs X => ?_)
          refine lv_iadd hx hb dX1_countIn_24 ?_
          refine lv_istore_n (lv' := [(2, .int (y2 + v2)), (0, .ref (ad t0)), (1, .int y1)]) hx hb dX1_countIn_25 rfl hl (by decide) rfl (fun ls hl => ?_)
          refine lv_iinc (v := (y1 + 1)) (lv' := [(1, .int (y1 + 1)), (2, .int (y2 + v2)), (0, .ref (ad t0))]) hx hb dX1_countIn_26 hl (k := 2) rfl ii_1 (by decide) rfl (fun ls hl => ?_)
          refine lv_goto (tgt := 4) hx hb dX1_countIn_29 rfl ?_
          exact ih (y1 + 1) (y2 + v2) hf _ _ _ X (lv_sub hl [2, 0, 1] rfl)
  rw [fX1_countIn] at hf
  refine lv_iconst (v := (0 : Int32)) hx hb dX1_countIn_0 rfl ?_
  refine lv_istore_n (lv' := [(1, .int (0 : Int32)), (0, .ref (ad j0))]) hx hb dX1_countIn_1 rfl hl (by decide) rfl (fun ls hl => ?_)
  refine lv_iconst (v := (0 : Int32)) hx hb dX1_countIn_2 rfl ?_
  refine lv_istore_n (lv' := [(2, .int (0 : Int32)), (1, .int (0 : Int32)), (0, .ref (ad j0))]) hx hb dX1_countIn_3 rfl hl (by decide) rfl (fun ls hl => ?_)
  exact w4 j0 hj0 fu (0 : Int32) (0 : Int32) hf _ _ _ X (lv_sub hl [2, 1, 0] rfl)
set_option maxRecDepth 100000 in
set_option maxHeartbeats 4000000 in
theorem mX1_beginOf {l : Launch} {dd : va_G} {cy : Nat → ClassId} {ad : Nat → Nat} {A : Nat → Prop} {fu : Nat} {ts : Nat → Int32} {tc : Nat → Nat → Int32} {rk : Nat → Int32} {pl : Nat → Int32} {ru : Nat → Int64} {sl : Nat → Int32} {bg : Nat → Int32} {kn : Nat → Int64} {rm : Int32} {ol : Nat → Int64} {od : Nat → UInt64} {j0 : Nat} {x1 : Int32} {rv : Int32} (hj0 : j0 < 7) (hf : fX1_beginOf fu ts tc j0 x1 = some rv) : Met l yX1_beginOf wsX1_beginOf { frames := 2, cells := 0, slots := 0, locals := 44 } (va_Pc [.ref (ad j0), .int x1] (IW dd cy A (wlC ad cy ts tc rk pl ru sl bg kn rm ol od))) (QX dd cy A (some (.int rv)) (wlC ad cy ts tc rk pl ru sl bg kn rm ol od)) 0 0 A := by
  refine Met.ofW (cc := cX1_beginOf) (maxL := 4) (ret := some .int) (by decide) rfl ?_
  intro p e s m args below meth c s₁ B hml hv
  obtain ⟨hav, hI⟩ := hv
  have hx := B.exec
  have hb := B.bytes
  have hr := B.returns
  have hts := atoms_spec (ws := wsX1_beginOf) B.pre
  have hown : s.vm.findClass RX1 = some m.cls := findClass_of_methodNamed B.named
  have hlocks := B.notSynchronized
  have X := XW.of hI
  refine xe_in hav (Nat.le_of_ble_eq_true rfl) rfl (fun ls hl => ?_)
  have w4 : ∀ (t0 : Nat) (y1 : Int32) (ht0 : t0 < 7) (n : Nat) (y2 : Int32) (y3 : Int32), fX1_beginOf_4 fu ts tc t0 y1 n y2 y3 = some rv → ∀ (H : Heap) (locs : List Loc) (ls : Array Slot), XW dd cy A s (wlC ad cy ts tc rk pl ru sl bg kn rm ol od) H locs → lv_has ls 4 [(0, .ref (ad t0)), (1, .int y1), (2, .int y2), (3, .int y3)] → W p l e (headSpec wsX1_beginOf { frames := 2, cells := 0, slots := 0, locals := 44 }).room s m args below meth c H locs 0 0 (MQ below (QX dd cy A (some (.int rv)) (wlC ad cy ts tc rk pl ru sl bg kn rm ol od)) args s 0 0 A) (F0 m 4 ls []) := by
    intro t0 y1 ht0 n
    induction n with
    | zero => intro y2 y3 hf; exact absurd hf (by simp [fX1_beginOf_4])
    | succ n ih =>
      intro y2 y3 hf H locs ls X hl
      rw [fX1_beginOf_4] at hf
      refine lv_iload_n hx hb dX1_beginOf_4 rfl (lv_at hl 3 rfl) ?_
      refine lv_iload_n hx hb dX1_beginOf_5 rfl (lv_at hl 1 rfl) ?_
      refine xr_icmp_ge (tgt := 31) hx hb dX1_beginOf_6 rfl hf (fun hf => ?_) (fun hf => ?_)
      · refine lv_iload_n hx hb dX1_beginOf_31 rfl (lv_at hl 2 rfl) ?_
        cases hf
        exact xe_i hx hb hr hlocks X dX1_beginOf_32
      · refine lv_iload_n hx hb dX1_beginOf_9 rfl (lv_at hl 2 rfl) ?_
        refine lv_aload_n hx hb dX1_beginOf_10 rfl (lv_at hl 0 rfl) ?_
        refine xb hf (fun v1 hv hf => ?_)
        refine xc_V1 (rest := [.int y2]) ⟨hx, hb, hml, hown, hts⟩ (mX4_size ht0 hv) (cwV 0 hts gX1_beginOf_X4_size rfl rfl rfl hqX4_size ⟨Nat.le_of_ble_eq_true rfl, Nat.le_of_ble_eq_true rfl⟩) X (va_recv X.1 X.2.1 (ci := 0) (q0 := t0) rfl (wlC_t ht0)) rfl hl.1 rfl (Nat.le_of_ble_eq_true rfl) dX1_beginOf_11 ⟨Nat.zero_le _, Nat.zero_le _⟩ (fun H locs X => ?_)
        refine xr_icmp_ge (tgt := 31) hx hb dX1_beginOf_14 rfl hf (fun hf => ?_) (fun hf => ?_)
        · refine lv_iload_n hx hb dX1_beginOf_31 rfl (lv_at hl 2 rfl) ?_
          cases hf
          exact xe_i hx hb hr hlocks X dX1_beginOf_32
        · refine lv_iload_n hx hb dX1_beginOf_17 rfl (lv_at hl 2 rfl) ?_
          refine lv_aload_n hx hb dX1_beginOf_18 rfl (lv_at hl 0 rfl) ?_
          refine lv_iload_n hx hb dX1_beginOf_19 rfl (lv_at hl 2 rfl) ?_
          refine xb hf (fun v2 hv hf => ?_)
          refine xc_S1 (rest := [.int y2]) ⟨hx, hb, hml, hown, hts⟩ (mX1_sizeAt ht0 hv) (va_cwS 2 hts gX1_beginOf_X1_sizeAt rfl rfl rfl hqX1_sizeAt ⟨Nat.le_of_ble_eq_true rfl, Nat.le_of_ble_eq_true rfl⟩) X rfl hl.1 rfl (Nat.le_of_ble_eq_true rfl) dX1_beginOf_20 ⟨Nat.zero_le _, Nat.zero_le _⟩ (fun H locs X => ?_)
          refine lv_iadd hx hb dX1_beginOf_23 ?_
          refine lv_istore_n (lv' := [(2, .int (y2 + v2)), (0, .ref (ad t0)), (1, .int y1), (3, .int y3)]) hx hb dX1_beginOf_24 rfl hl (by decide) rfl (fun ls hl => ?_)
          refine lv_iinc (v := (y3 + 1)) (lv' := [(3, .int (y3 + 1)), (2, .int (y2 + v2)), (0, .ref (ad t0)), (1, .int y1)]) hx hb dX1_beginOf_25 hl (k := 3) rfl ii_1 (by decide) rfl (fun ls hl => ?_)
          refine lv_goto (tgt := 4) hx hb dX1_beginOf_28 rfl ?_
          exact ih (y2 + v2) (y3 + 1) hf _ _ _ X (lv_sub hl [2, 3, 1, 0] rfl)
  rw [fX1_beginOf] at hf
  refine lv_iconst (v := (0 : Int32)) hx hb dX1_beginOf_0 rfl ?_
  refine lv_istore_n (lv' := [(2, .int (0 : Int32)), (0, .ref (ad j0)), (1, .int x1)]) hx hb dX1_beginOf_1 rfl hl (by decide) rfl (fun ls hl => ?_)
  refine lv_iconst (v := (0 : Int32)) hx hb dX1_beginOf_2 rfl ?_
  refine lv_istore_n (lv' := [(3, .int (0 : Int32)), (2, .int (0 : Int32)), (0, .ref (ad j0)), (1, .int x1)]) hx hb dX1_beginOf_3 rfl hl (by decide) rfl (fun ls hl => ?_)
  exact w4 j0 x1 hj0 fu (0 : Int32) (0 : Int32) hf _ _ _ X (lv_sub hl [2, 3, 1, 0] rfl)
set_option maxRecDepth 100000 in
set_option maxHeartbeats 4000000 in
theorem mX0_keepRank {l : Launch} {dd : va_G} {cy : Nat → ClassId} {ad : Nat → Nat} {A : Nat → Prop} {ts : Nat → Int32} {tc : Nat → Nat → Int32} {rk : Nat → Int32} {pl : Nat → Int32} {ru : Nat → Int64} {sl : Nat → Int32} {bg : Nat → Int32} {kn : Nat → Int64} {rm : Int32} {ol : Nat → Int64} {od : Nat → UInt64} {x1 : Int32} {x2 : Int32} {rko : Nat → Int32} (hf : fX0_keepRank rk x1 x2 = some rko) : Met l yX0_keepRank wsX0_keepRank { frames := 0, cells := 0, slots := 0, locals := 0 } (va_Pc [.ref (ad 16), .int x1, .int x2] (IW dd cy A (wlC ad cy ts tc rk pl ru sl bg kn rm ol od))) (QX dd cy A none (wlC ad cy ts tc rko pl ru sl bg kn rm ol od)) 0 0 A := by
  refine Met.ofW (cc := cX0_keepRank) (maxL := 3) (ret := none) (by decide) rfl ?_
  intro p e s m args below meth c s₁ B hml hv
  obtain ⟨hav, hI⟩ := hv
  have hx := B.exec
  have hb := B.bytes
  have hr := B.returns
  have hts := atoms_spec (ws := wsX0_keepRank) B.pre
  have hown : s.vm.findClass RX0 = some m.cls := findClass_of_methodNamed B.named
  have hlocks := B.notSynchronized
  have X := XW.of hI
  have h0 : ∀ w ∈ wsX00, w ∈ wsX0_keepRank := by decide +kernel
  refine xe_in hav (Nat.le_of_ble_eq_true rfl) rfl (fun ls hl => ?_)
  rw [fX0_keepRank] at hf
  refine lv_iload_n hx hb dX0_keepRank_0 rfl (lv_at hl 1 rfl) ?_
  refine xr_if_lt (tgt := 20) hx hb dX0_keepRank_1 rfl hf (fun hf => ?_) (fun hf => ?_)
  · cases hf
    exact xe_v hx hb hr hlocks X dX0_keepRank_20
  · refine lv_iload_n hx hb dX0_keepRank_4 rfl (lv_at hl 1 rfl) ?_
    refine lv_aload_n hx hb dX0_keepRank_5 rfl (lv_at hl 0 rfl) ?_
    refine xg_f hx hb hts hown X h0 16 wlC_16 rfl 0 (by decide) (by decide +kernel) (v := .ref (ad 17)) rfl dX0_keepRank_6 ?_
    refine va_alen hx hb X.1 X.2.1 17 1 wlC_17 rfl (v := (61 : Int32)) rfl dX0_keepRank_9 ?_
    refine xr_icmp_ge (tgt := 20) hx hb dX0_keepRank_10 rfl hf (fun hf => ?_) (fun hf => ?_)
    · cases hf
      exact xe_v hx hb hr hlocks X dX0_keepRank_20
    · refine lv_aload_n hx hb dX0_keepRank_13 rfl (lv_at hl 0 rfl) ?_
      refine xg_f hx hb hts hown X h0 16 wlC_16 rfl 0 (by decide) (by decide +kernel) (v := .ref (ad 17)) rfl dX0_keepRank_14 ?_
      refine lv_iload_n hx hb dX0_keepRank_17 rfl (lv_at hl 1 rfl) ?_
      refine lv_iload_n hx hb dX0_keepRank_18 rfl (lv_at hl 2 rfl) ?_
      refine xa_iast hx hb X 17 wlC_17 wlC_s_rk dX0_keepRank_19 hf (fun g1 H locs hf X => ?_)
      cases hf
      exact xe_v hx hb hr hlocks X dX0_keepRank_20
set_option maxRecDepth 100000 in
set_option maxHeartbeats 4000000 in
theorem mX0_rankBy {l : Launch} {dd : va_G} {cy : Nat → ClassId} {ad : Nat → Nat} {A : Nat → Prop} {ts : Nat → Int32} {tc : Nat → Nat → Int32} {rk : Nat → Int32} {pl : Nat → Int32} {ru : Nat → Int64} {sl : Nat → Int32} {bg : Nat → Int32} {kn : Nat → Int64} {rm : Int32} {ol : Nat → Int64} {od : Nat → UInt64} {x1 : Int32} {rv : Int32} (hf : fX0_rankBy rk x1 = some rv) : Met l yX0_rankBy wsX0_rankBy { frames := 0, cells := 0, slots := 0, locals := 0 } (va_Pc [.ref (ad 16), .int x1] (IW dd cy A (wlC ad cy ts tc rk pl ru sl bg kn rm ol od))) (QX dd cy A (some (.int rv)) (wlC ad cy ts tc rk pl ru sl bg kn rm ol od)) 0 0 A := by
  refine Met.ofW (cc := cX0_rankBy) (maxL := 2) (ret := some .int) (by decide) rfl ?_
  intro p e s m args below meth c s₁ B hml hv
  obtain ⟨hav, hI⟩ := hv
  have hx := B.exec
  have hb := B.bytes
  have hr := B.returns
  have hts := atoms_spec (ws := wsX0_rankBy) B.pre
  have hown : s.vm.findClass RX0 = some m.cls := findClass_of_methodNamed B.named
  have hlocks := B.notSynchronized
  have X := XW.of hI
  have h0 : ∀ w ∈ wsX00, w ∈ wsX0_rankBy := by decide +kernel
  refine xe_in hav (Nat.le_of_ble_eq_true rfl) rfl (fun ls hl => ?_)
  rw [fX0_rankBy] at hf
  refine lv_iload_n hx hb dX0_rankBy_0 rfl (lv_at hl 1 rfl) ?_
  refine xr_if_lt (tgt := 13) hx hb dX0_rankBy_1 rfl hf (fun hf => ?_) (fun hf => ?_)
  · refine lv_iconst (v := (-1 : Int32)) hx hb dX0_rankBy_13 rfl ?_
    refine lv_goto (tgt := 23) hx hb dX0_rankBy_14 rfl ?_
    cases hf
    exact xe_i hx hb hr hlocks X dX0_rankBy_23
  · refine lv_iload_n hx hb dX0_rankBy_4 rfl (lv_at hl 1 rfl) ?_
    refine lv_aload_n hx hb dX0_rankBy_5 rfl (lv_at hl 0 rfl) ?_
    refine xg_f hx hb hts hown X h0 16 wlC_16 rfl 0 (by decide) (by decide +kernel) (v := .ref (ad 17)) rfl dX0_rankBy_6 ?_
    refine va_alen hx hb X.1 X.2.1 17 1 wlC_17 rfl (v := (61 : Int32)) rfl dX0_rankBy_9 ?_
    refine xr_icmp_lt (tgt := 17) hx hb dX0_rankBy_10 rfl hf (fun hf => ?_) (fun hf => ?_)
    · refine lv_aload_n hx hb dX0_rankBy_17 rfl (lv_at hl 0 rfl) ?_
      refine xg_f hx hb hts hown X h0 16 wlC_16 rfl 0 (by decide) (by decide +kernel) (v := .ref (ad 17)) rfl dX0_rankBy_18 ?_
      refine lv_iload_n hx hb dX0_rankBy_21 rfl (lv_at hl 1 rfl) ?_
      refine xa_iald hx hb X 17 wlC_17 dX0_rankBy_22 hf (fun v1 hf => ?_)
      cases hf
      exact xe_i hx hb hr hlocks X dX0_rankBy_23
    · refine lv_iconst (v := (-1 : Int32)) hx hb dX0_rankBy_13 rfl ?_
      refine lv_goto (tgt := 23) hx hb dX0_rankBy_14 rfl ?_
      cases hf
      exact xe_i hx hb hr hlocks X dX0_rankBy_23
set_option maxRecDepth 100000 in
set_option maxHeartbeats 4000000 in
theorem mX0_isLess {l : Launch} {dd : va_G} {cy : Nat → ClassId} {ad : Nat → Nat} {A : Nat → Prop} {ts : Nat → Int32} {tc : Nat → Nat → Int32} {rk : Nat → Int32} {pl : Nat → Int32} {ru : Nat → Int64} {sl : Nat → Int32} {bg : Nat → Int32} {kn : Nat → Int64} {rm : Int32} {ol : Nat → Int64} {od : Nat → UInt64} {j1 : Nat} {x2 : Int32} {x3 : Int32} {rv : Int32} (hj1 : j1 < 7) (hf : fX0_isLess ts tc rk j1 x2 x3 = some rv) : Met l yX0_isLess wsX0_isLess { frames := 1, cells := 0, slots := 0, locals := 21 } (va_Pc [.ref (ad 16), .ref (ad j1), .int x2, .int x3] (IW dd cy A (wlC ad cy ts tc rk pl ru sl bg kn rm ol od))) (QX dd cy A (some (.int rv)) (wlC ad cy ts tc rk pl ru sl bg kn rm ol od)) 0 0 A := by
  refine Met.ofW (cc := cX0_isLess) (maxL := 6) (ret := some .boolean) (by decide) rfl ?_
  intro p e s m args below meth c s₁ B hml hv
  obtain ⟨hav, hI⟩ := hv
  have hx := B.exec
  have hb := B.bytes
  have hr := B.returns
  have hts := atoms_spec (ws := wsX0_isLess) B.pre
  have hown : s.vm.findClass RX0 = some m.cls := findClass_of_methodNamed B.named
  have hlocks := B.notSynchronized
  have X := XW.of hI
  refine xe_in hav (Nat.le_of_ble_eq_true rfl) rfl (fun ls hl => ?_)
  rw [fX0_isLess] at hf
  refine lv_aload_n hx hb dX0_isLess_0 rfl (lv_at hl 1 rfl) ?_
  refine lv_iload_n hx hb dX0_isLess_1 rfl (lv_at hl 2 rfl) ?_
  refine xb hf (fun v1 hv hf => ?_)
  refine xc_V1 (rest := []) ⟨hx, hb, hml, hown, hts⟩ (mX4_signOn hj1 hv) (cwV 1 hts gX0_isLess_X4_signOn rfl rfl rfl hqX4_signOn ⟨Nat.le_of_ble_eq_true rfl, Nat.le_of_ble_eq_true rfl⟩) X (va_recv X.1 X.2.1 (ci := 0) (q0 := j1) rfl (wlC_t hj1)) rfl hl.1 rfl (Nat.le_of_ble_eq_true rfl) dX0_isLess_2 ⟨Nat.zero_le _, Nat.zero_le _⟩ (fun H locs X => ?_)
  refine lv_istore (lv' := [(4, .int v1), (0, .ref (ad 16)), (1, .ref (ad j1)), (2, .int x2), (3, .int x3)]) hx hb dX0_isLess_5 hl (by decide) rfl (fun ls hl => ?_)
  refine lv_aload_n hx hb dX0_isLess_7 rfl (lv_at hl 2 rfl) ?_
  refine lv_iload_n hx hb dX0_isLess_8 rfl (lv_at hl 4 rfl) ?_
  refine xb hf (fun v2 hv hf => ?_)
  refine xc_V1 (rest := []) ⟨hx, hb, hml, hown, hts⟩ (mX4_signOn hj1 hv) (cwV 1 hts gX0_isLess_X4_signOn rfl rfl rfl hqX4_signOn ⟨Nat.le_of_ble_eq_true rfl, Nat.le_of_ble_eq_true rfl⟩) X (va_recv X.1 X.2.1 (ci := 0) (q0 := j1) rfl (wlC_t hj1)) rfl hl.1 rfl (Nat.le_of_ble_eq_true rfl) dX0_isLess_9 ⟨Nat.zero_le _, Nat.zero_le _⟩ (fun H locs X => ?_)
  refine lv_istore (lv' := [(5, .int v2), (4, .int v1), (0, .ref (ad 16)), (1, .ref (ad j1)), (2, .int x2), (3, .int x3)]) hx hb dX0_isLess_12 hl (by decide) rfl (fun ls hl => ?_)
  refine lv_iload hx hb dX0_isLess_14 (lv_at hl 1 rfl) ?_
  refine lv_iload hx hb dX0_isLess_16 (lv_at hl 0 rfl) ?_
  refine xr_icmp_ne (tgt := 46) hx hb dX0_isLess_18 rfl hf (fun hf => ?_) (fun hf => ?_)
  · refine lv_iload hx hb dX0_isLess_46 (lv_at hl 1 rfl) ?_
    refine lv_iload hx hb dX0_isLess_48 (lv_at hl 0 rfl) ?_
    refine xr_icmp_ge (tgt := 57) hx hb dX0_isLess_50 rfl hf (fun hf => ?_) (fun hf => ?_)
    · refine lv_iconst (v := (0 : Int32)) hx hb dX0_isLess_57 rfl ?_
      cases hf
      exact xe_z hx hb hr hlocks X rfl dX0_isLess_58
    · refine lv_iconst (v := (1 : Int32)) hx hb dX0_isLess_53 rfl ?_
      refine lv_goto (tgt := 58) hx hb dX0_isLess_54 rfl ?_
      cases hf
      exact xe_z hx hb hr hlocks X rfl dX0_isLess_58
  · refine lv_aload_n hx hb dX0_isLess_21 rfl (lv_at hl 2 rfl) ?_
    refine lv_iload_n hx hb dX0_isLess_22 rfl (lv_at hl 4 rfl) ?_
    refine lv_iconst (v := (1 : Int32)) hx hb dX0_isLess_23 rfl ?_
    refine lv_iadd hx hb dX0_isLess_24 ?_
    refine xb hf (fun v3 hv hf => ?_)
    refine xc_V1 (rest := []) ⟨hx, hb, hml, hown, hts⟩ (mX0_rankBy hv) (cwV 1 hts gX0_isLess_X0_rankBy rfl rfl rfl hqX0_rankBy ⟨Nat.le_of_ble_eq_true rfl, Nat.le_of_ble_eq_true rfl⟩) X (va_recv X.1 X.2.1 (ci := 2) (q0 := 16) rfl wlC_16) rfl hl.1 rfl (Nat.le_of_ble_eq_true rfl) dX0_isLess_25 ⟨Nat.zero_le _, Nat.zero_le _⟩ (fun H locs X => ?_)
    refine lv_aload_n hx hb dX0_isLess_28 rfl (lv_at hl 2 rfl) ?_
    refine lv_iload_n hx hb dX0_isLess_29 rfl (lv_at hl 5 rfl) ?_
    refine lv_iconst (v := (1 : Int32)) hx hb dX0_isLess_30 rfl ?_
    refine lv_iadd hx hb dX0_isLess_31 ?_
    refine xb hf (fun v4 hv hf => ?_)
    refine xc_V1 (rest := [.int v3]) ⟨hx, hb, hml, hown, hts⟩ (mX0_rankBy hv) (cwV 1 hts gX0_isLess_X0_rankBy rfl rfl rfl hqX0_rankBy ⟨Nat.le_of_ble_eq_true rfl, Nat.le_of_ble_eq_true rfl⟩) X (va_recv X.1 X.2.1 (ci := 2) (q0 := 16) rfl wlC_16) rfl hl.1 rfl (Nat.le_of_ble_eq_true rfl) dX0_isLess_32 ⟨Nat.zero_le _, Nat.zero_le _⟩ (fun H locs X => ?_)
    refine xr_icmp_ge (tgt := 42) hx hb dX0_isLess_35 rfl hf (fun hf => ?_) (fun hf => ?_)
    · refine lv_iconst (v := (0 : Int32)) hx hb dX0_isLess_42 rfl ?_
      refine lv_goto (tgt := 58) hx hb dX0_isLess_43 rfl ?_
      cases hf
      exact xe_z hx hb hr hlocks X rfl dX0_isLess_58
    · refine lv_iconst (v := (1 : Int32)) hx hb dX0_isLess_38 rfl ?_
      refine lv_goto (tgt := 58) hx hb dX0_isLess_39 rfl ?_
      cases hf
      exact xe_z hx hb hr hlocks X rfl dX0_isLess_58
set_option maxRecDepth 100000 in
set_option maxHeartbeats 4000000 in
theorem mX0_insert {l : Launch} {dd : va_G} {cy : Nat → ClassId} {ad : Nat → Nat} {A : Nat → Prop} {fu : Nat} {ts : Nat → Int32} {tc : Nat → Nat → Int32} {rk : Nat → Int32} {pl : Nat → Int32} {ru : Nat → Int64} {sl : Nat → Int32} {bg : Nat → Int32} {kn : Nat → Int64} {rm : Int32} {ol : Nat → Int64} {od : Nat → UInt64} {j1 : Nat} {x2 : Int32} {rko : Nat → Int32} (hj1 : j1 < 7) (hf : fX0_insert fu ts tc rk j1 x2 = some rko) : Met l yX0_insert wsX0_insert { frames := 2, cells := 0, slots := 0, locals := 46 } (va_Pc [.ref (ad 16), .ref (ad j1), .int x2] (IW dd cy A (wlC ad cy ts tc rk pl ru sl bg kn rm ol od))) (QX dd cy A none (wlC ad cy ts tc rko pl ru sl bg kn rm ol od)) 0 0 A := by
  refine Met.ofW (cc := cX0_insert) (maxL := 6) (ret := none) (by decide) rfl ?_
  intro p e s m args below meth c s₁ B hml hv
  obtain ⟨hav, hI⟩ := hv
  have hx := B.exec
  have hb := B.bytes
  have hr := B.returns
  have hts := atoms_spec (ws := wsX0_insert) B.pre
  have hown : s.vm.findClass RX0 = some m.cls := findClass_of_methodNamed B.named
  have hlocks := B.notSynchronized
  have X := XW.of hI
  refine xe_in hav (Nat.le_of_ble_eq_true rfl) rfl (fun ls hl => ?_)
  have w41 : ∀ (t1 : Nat) (y2 : Int32) (y3 : Int32) (ht1 : t1 < 7) (n : Nat) (y4 : Int32) (rk : Nat → Int32), fX0_insert_41 fu ts tc t1 y2 y3 n y4 rk = some rko → ∀ (H : Heap) (locs : List Loc) (ls : Array Slot), XW dd cy A s (wlC ad cy ts tc rk pl ru sl bg kn rm ol od) H locs → lv_has ls 6 [(0, .ref (ad 16)), (1, .ref (ad t1)), (2, .int y2), (3, .int y3), (4, .int y4)] → W p l e (headSpec wsX0_insert { frames := 2, cells := 0, slots := 0, locals := 46 }).room s m args below meth c H locs 0 0 (MQ below (QX dd cy A none (wlC ad cy ts tc rko pl ru sl bg kn rm ol od)) args s 0 0 A) (F0 m 41 ls []) := by
    intro t1 y2 y3 ht1 n
    induction n with
    | zero => intro y4 rk hf; exact absurd hf (by simp [fX0_insert_41])
    | succ n ih =>
      intro y4 rk hf H locs ls X hl
      rw [fX0_insert_41] at hf
      refine lv_iload hx hb dX0_insert_41 (lv_at hl 4 rfl) ?_
      refine lv_aload_n hx hb dX0_insert_43 rfl (lv_at hl 1 rfl) ?_
      refine xb hf (fun v2 hv hf => ?_)
      refine xc_V1 (rest := [.int y4]) ⟨hx, hb, hml, hown, hts⟩ (mX4_size ht1 hv) (cwV 0 hts gX0_insert_X4_size rfl rfl rfl hqX4_size ⟨Nat.le_of_ble_eq_true rfl, Nat.le_of_ble_eq_true rfl⟩) X (va_recv X.1 X.2.1 (ci := 0) (q0 := t1) rfl (wlC_t ht1)) rfl hl.1 rfl (Nat.le_of_ble_eq_true rfl) dX0_insert_44 ⟨Nat.zero_le _, Nat.zero_le _⟩ (fun H locs X => ?_)
      refine xr_icmp_ge (tgt := 80) hx hb dX0_insert_47 rfl hf (fun hf => ?_) (fun hf => ?_)
      · refine lv_aload_n hx hb dX0_insert_80 rfl (lv_at hl 0 rfl) ?_
        refine lv_iload_n hx hb dX0_insert_81 rfl (lv_at hl 2 rfl) ?_
        refine lv_iload_n hx hb dX0_insert_82 rfl (lv_at hl 3 rfl) ?_
        refine xb hf (fun v3 hv hf => ?_)
        refine xc_V0 (rest := []) ⟨hx, hb, hml, hown, hts⟩ (mX0_keepRank hv) (cwV 2 hts gX0_insert_X0_keepRank rfl rfl rfl hqX0_keepRank ⟨Nat.le_of_ble_eq_true rfl, Nat.le_of_ble_eq_true rfl⟩) X (va_recv X.1 X.2.1 (ci := 2) (q0 := 16) rfl wlC_16) rfl hl.1 rfl (Nat.le_of_ble_eq_true rfl) dX0_insert_83 ⟨Nat.zero_le _, Nat.zero_le _⟩ (fun H locs X => ?_)
        cases hf
        exact xe_v hx hb hr hlocks X dX0_insert_86
      · refine lv_aload_n hx hb dX0_insert_50 rfl (lv_at hl 0 rfl) ?_
        refine lv_iload hx hb dX0_insert_51 (lv_at hl 4 rfl) ?_
        refine xb hf (fun v4 hv hf => ?_)
        refine xc_V1 (rest := []) ⟨hx, hb, hml, hown, hts⟩ (mX0_rankBy hv) (cwV 1 hts gX0_insert_X0_rankBy rfl rfl rfl hqX0_rankBy ⟨Nat.le_of_ble_eq_true rfl, Nat.le_of_ble_eq_true rfl⟩) X (va_recv X.1 X.2.1 (ci := 2) (q0 := 16) rfl wlC_16) rfl hl.1 rfl (Nat.le_of_ble_eq_true rfl) dX0_insert_53 ⟨Nat.zero_le _, Nat.zero_le _⟩ (fun H locs X => ?_)
        refine lv_istore (lv' := [(5, .int v4), (0, .ref (ad 16)), (1, .ref (ad t1)), (2, .int y2), (3, .int y3), (4, .int y4)]) hx hb dX0_insert_56 hl (by decide) rfl (fun ls hl => ?_)
        refine lv_iload hx hb dX0_insert_58 (lv_at hl 0 rfl) ?_
        refine lv_iload_n hx hb dX0_insert_60 rfl (lv_at hl 4 rfl) ?_
        refine xr_icmp_lt (tgt := 74) hx hb dX0_insert_61 rfl hf (fun hf => ?_) (fun hf => ?_)
        · refine lv_iinc (v := (y4 + 1)) (lv' := [(4, .int (y4 + 1)), (5, .int v4), (0, .ref (ad 16)), (1, .ref (ad t1)), (2, .int y2), (3, .int y3)]) hx hb dX0_insert_74 hl (k := 5) rfl ii_1 (by decide) rfl (fun ls hl => ?_)
          refine lv_goto (tgt := 41) hx hb dX0_insert_77 rfl ?_
          exact ih (y4 + 1) rk hf _ _ _ X (lv_sub hl [2, 3, 4, 5, 0] rfl)
        · refine lv_aload_n hx hb dX0_insert_64 rfl (lv_at hl 1 rfl) ?_
          refine lv_iload hx hb dX0_insert_65 (lv_at hl 5 rfl) ?_
          refine lv_iload hx hb dX0_insert_67 (lv_at hl 0 rfl) ?_
          refine lv_iconst (v := (1 : Int32)) hx hb dX0_insert_69 rfl ?_
          refine lv_iadd hx hb dX0_insert_70 ?_
          refine xb hf (fun v5 hv hf => ?_)
          refine xc_V0 (rest := []) ⟨hx, hb, hml, hown, hts⟩ (mX0_keepRank hv) (cwV 2 hts gX0_insert_X0_keepRank rfl rfl rfl hqX0_keepRank ⟨Nat.le_of_ble_eq_true rfl, Nat.le_of_ble_eq_true rfl⟩) X (va_recv X.1 X.2.1 (ci := 2) (q0 := 16) rfl wlC_16) rfl hl.1 rfl (Nat.le_of_ble_eq_true rfl) dX0_insert_71 ⟨Nat.zero_le _, Nat.zero_le _⟩ (fun H locs X => ?_)
          refine lv_iinc (v := (y4 + 1)) (lv' := [(4, .int (y4 + 1)), (5, .int v4), (0, .ref (ad 16)), (1, .ref (ad t1)), (2, .int y2), (3, .int y3)]) hx hb dX0_insert_74 hl (k := 5) rfl ii_1 (by decide) rfl (fun ls hl => ?_)
          refine lv_goto (tgt := 41) hx hb dX0_insert_77 rfl ?_
          exact ih (y4 + 1) v5 hf _ _ _ X (lv_sub hl [2, 3, 4, 5, 0] rfl)
  have w7 : ∀ (t1 : Nat) (y2 : Int32) (ht1 : t1 < 7) (n : Nat) (y3 : Int32) (y4 : Int32) (rk : Nat → Int32), fX0_insert_7 fu ts tc t1 y2 n y3 y4 rk = some rko → ∀ (H : Heap) (locs : List Loc) (ls : Array Slot), XW dd cy A s (wlC ad cy ts tc rk pl ru sl bg kn rm ol od) H locs → lv_has ls 6 [(0, .ref (ad 16)), (1, .ref (ad t1)), (2, .int y2), (3, .int y3), (4, .int y4)] → W p l e (headSpec wsX0_insert { frames := 2, cells := 0, slots := 0, locals := 46 }).room s m args below meth c H locs 0 0 (MQ below (QX dd cy A none (wlC ad cy ts tc rko pl ru sl bg kn rm ol od)) args s 0 0 A) (F0 m 7 ls []) := by
    intro t1 y2 ht1 n
    induction n with
    | zero => intro y3 y4 rk hf; exact absurd hf (by simp [fX0_insert_7])
    | succ n ih =>
      intro y3 y4 rk hf H locs ls X hl
      rw [fX0_insert_7] at hf
      refine lv_iload hx hb dX0_insert_7 (lv_at hl 4 rfl) ?_
      refine lv_aload_n hx hb dX0_insert_9 rfl (lv_at hl 1 rfl) ?_
      refine xb hf (fun v1 hv hf => ?_)
      refine xc_V1 (rest := [.int y4]) ⟨hx, hb, hml, hown, hts⟩ (mX4_size ht1 hv) (cwV 0 hts gX0_insert_X4_size rfl rfl rfl hqX4_size ⟨Nat.le_of_ble_eq_true rfl, Nat.le_of_ble_eq_true rfl⟩) X (va_recv X.1 X.2.1 (ci := 0) (q0 := t1) rfl (wlC_t ht1)) rfl hl.1 rfl (Nat.le_of_ble_eq_true rfl) dX0_insert_10 ⟨Nat.zero_le _, Nat.zero_le _⟩ (fun H locs X => ?_)
      refine xr_icmp_ge (tgt := 36) hx hb dX0_insert_13 rfl hf (fun hf => ?_) (fun hf => ?_)
      · refine lv_iload_n hx hb dX0_insert_36 rfl (lv_at hl 2 rfl) ?_
        refine lv_iconst (v := (1 : Int32)) hx hb dX0_insert_37 rfl ?_
        refine lv_iadd hx hb dX0_insert_38 ?_
        refine lv_istore (lv' := [(4, .int (y2 + (1 : Int32))), (0, .ref (ad 16)), (1, .ref (ad t1)), (2, .int y2), (3, .int y3)]) hx hb dX0_insert_39 hl (by decide) rfl (fun ls hl => ?_)
        exact w41 t1 y2 y3 ht1 fu (y2 + (1 : Int32)) rk hf _ _ _ X (lv_sub hl [1, 2, 3, 4, 0] rfl)
      · refine lv_aload_n hx hb dX0_insert_16 rfl (lv_at hl 0 rfl) ?_
        refine lv_aload_n hx hb dX0_insert_17 rfl (lv_at hl 1 rfl) ?_
        refine lv_iload hx hb dX0_insert_18 (lv_at hl 4 rfl) ?_
        refine lv_iload_n hx hb dX0_insert_20 rfl (lv_at hl 2 rfl) ?_
        refine xb hf (fun v6 hv hf => ?_)
        refine xc_V1 (rest := []) ⟨hx, hb, hml, hown, hts⟩ (mX0_isLess ht1 hv) (cwV 3 hts gX0_insert_X0_isLess rfl rfl rfl hqX0_isLess ⟨Nat.le_of_ble_eq_true rfl, Nat.le_of_ble_eq_true rfl⟩) X (va_recv X.1 X.2.1 (ci := 2) (q0 := 16) rfl wlC_16) rfl hl.1 rfl (Nat.le_of_ble_eq_true rfl) dX0_insert_21 ⟨Nat.zero_le _, Nat.zero_le _⟩ (fun H locs X => ?_)
        refine xr_if_eq (tgt := 30) hx hb dX0_insert_24 rfl hf (fun hf => ?_) (fun hf => ?_)
        · refine lv_iinc (v := (y4 + 1)) (lv' := [(4, .int (y4 + 1)), (0, .ref (ad 16)), (1, .ref (ad t1)), (2, .int y2), (3, .int y3)]) hx hb dX0_insert_30 hl (k := 4) rfl ii_1 (by decide) rfl (fun ls hl => ?_)
          refine lv_goto (tgt := 7) hx hb dX0_insert_33 rfl ?_
          exact ih y3 (y4 + 1) rk hf _ _ _ X (lv_sub hl [1, 2, 3, 4, 0] rfl)
        · refine lv_iinc (v := (y3 + 1)) (lv' := [(3, .int (y3 + 1)), (0, .ref (ad 16)), (1, .ref (ad t1)), (2, .int y2), (4, .int y4)]) hx hb dX0_insert_27 hl (k := 3) rfl ii_1 (by decide) rfl (fun ls hl => ?_)
          refine lv_iinc (v := (y4 + 1)) (lv' := [(4, .int (y4 + 1)), (3, .int (y3 + 1)), (0, .ref (ad 16)), (1, .ref (ad t1)), (2, .int y2)]) hx hb dX0_insert_30 hl (k := 4) rfl ii_1 (by decide) rfl (fun ls hl => ?_)
          refine lv_goto (tgt := 7) hx hb dX0_insert_33 rfl ?_
          exact ih (y3 + 1) (y4 + 1) rk hf _ _ _ X (lv_sub hl [2, 3, 4, 1, 0] rfl)
  rw [fX0_insert] at hf
  refine lv_iconst (v := (0 : Int32)) hx hb dX0_insert_0 rfl ?_
  refine lv_istore_n (lv' := [(3, .int (0 : Int32)), (0, .ref (ad 16)), (1, .ref (ad j1)), (2, .int x2)]) hx hb dX0_insert_1 rfl hl (by decide) rfl (fun ls hl => ?_)
  refine lv_iload_n hx hb dX0_insert_2 rfl (lv_at hl 3 rfl) ?_
  refine lv_iconst (v := (1 : Int32)) hx hb dX0_insert_3 rfl ?_
  refine lv_iadd hx hb dX0_insert_4 ?_
  refine lv_istore (lv' := [(4, .int (x2 + (1 : Int32))), (3, .int (0 : Int32)), (0, .ref (ad 16)), (1, .ref (ad j1)), (2, .int x2)]) hx hb dX0_insert_5 hl (by decide) rfl (fun ls hl => ?_)
  exact w7 j1 x2 hj1 fu (0 : Int32) (x2 + (1 : Int32)) rk hf _ _ _ X (lv_sub hl [2, 3, 4, 1, 0] rfl)
set_option maxRecDepth 100000 in
set_option maxHeartbeats 4000000 in
theorem mX0_arrange {l : Launch} {dd : va_G} {cy : Nat → ClassId} {ad : Nat → Nat} {A : Nat → Prop} {fu : Nat} {ts : Nat → Int32} {tc : Nat → Nat → Int32} {rk : Nat → Int32} {pl : Nat → Int32} {ru : Nat → Int64} {sl : Nat → Int32} {bg : Nat → Int32} {kn : Nat → Int64} {rm : Int32} {ol : Nat → Int64} {od : Nat → UInt64} {j1 : Nat} {rko : Nat → Int32} {plo : Nat → Int32} (hj1 : j1 < 7) (hf : fX0_arrange fu ts tc rk pl j1 = some (rko, plo)) : Met l yX0_arrange wsX0_arrange { frames := 3, cells := 0, slots := 0, locals := 71 } (va_Pc [.ref (ad 16), .ref (ad j1)] (IW dd cy A (wlC ad cy ts tc rk pl ru sl bg kn rm ol od))) (QX dd cy A none (wlC ad cy ts tc rko plo ru sl bg kn rm ol od)) 0 0 A := by
  refine Met.ofW (cc := cX0_arrange) (maxL := 5) (ret := none) (by decide) rfl ?_
  intro p e s m args below meth c s₁ B hml hv
  obtain ⟨hav, hI⟩ := hv
  have hx := B.exec
  have hb := B.bytes
  have hr := B.returns
  have hts := atoms_spec (ws := wsX0_arrange) B.pre
  have hown : s.vm.findClass RX0 = some m.cls := findClass_of_methodNamed B.named
  have hlocks := B.notSynchronized
  have X := XW.of hI
  have h0 : ∀ w ∈ wsX00, w ∈ wsX0_arrange := by decide +kernel
  refine xe_in hav (Nat.le_of_ble_eq_true rfl) rfl (fun ls hl => ?_)
  have w33 : ∀ (y2 : Int32) (n : Nat) (y3 : Int32) (rk : Nat → Int32) (pl : Nat → Int32), fX0_arrange_33 fu ts tc y2 n y3 rk pl = some (rko, plo) → ∀ (H : Heap) (locs : List Loc) (ls : Array Slot), XW dd cy A s (wlC ad cy ts tc rk pl ru sl bg kn rm ol od) H locs → lv_has ls 5 [(0, .ref (ad 16)), (2, .int y2), (3, .int y3)] → W p l e (headSpec wsX0_arrange { frames := 3, cells := 0, slots := 0, locals := 71 }).room s m args below meth c H locs 0 0 (MQ below (QX dd cy A none (wlC ad cy ts tc rko plo ru sl bg kn rm ol od)) args s 0 0 A) (F0 m 33 ls []) := by
    intro y2 n
    induction n with
    | zero => intro y3 rk pl hf; exact absurd hf (by simp [fX0_arrange_33])
    | succ n ih =>
      intro y3 rk pl hf H locs ls X hl
      rw [fX0_arrange_33] at hf
      refine lv_iload_n hx hb dX0_arrange_33 rfl (lv_at hl 2 rfl) ?_
      refine lv_iload_n hx hb dX0_arrange_34 rfl (lv_at hl 1 rfl) ?_
      refine xr_icmp_ge (tgt := 74) hx hb dX0_arrange_35 rfl hf (fun hf => ?_) (fun hf => ?_)
      · cases hf
        exact xe_v hx hb hr hlocks X dX0_arrange_74
      · refine lv_aload_n hx hb dX0_arrange_38 rfl (lv_at hl 0 rfl) ?_
        refine lv_iload_n hx hb dX0_arrange_39 rfl (lv_at hl 2 rfl) ?_
        refine xb hf (fun v3 hv hf => ?_)
        refine xc_V1 (rest := []) ⟨hx, hb, hml, hown, hts⟩ (mX0_rankBy hv) (cwV 1 hts gX0_arrange_X0_rankBy rfl rfl rfl hqX0_rankBy ⟨Nat.le_of_ble_eq_true rfl, Nat.le_of_ble_eq_true rfl⟩) X (va_recv X.1 X.2.1 (ci := 2) (q0 := 16) rfl wlC_16) rfl hl.1 rfl (Nat.le_of_ble_eq_true rfl) dX0_arrange_40 ⟨Nat.zero_le _, Nat.zero_le _⟩ (fun H locs X => ?_)
        refine lv_istore (lv' := [(4, .int v3), (0, .ref (ad 16)), (2, .int y2), (3, .int y3)]) hx hb dX0_arrange_43 hl (by decide) rfl (fun ls hl => ?_)
        refine lv_iload hx hb dX0_arrange_45 (lv_at hl 0 rfl) ?_
        refine xr_if_lt (tgt := 68) hx hb dX0_arrange_47 rfl hf (fun hf => ?_) (fun hf => ?_)
        · refine lv_iinc (v := (y3 + 1)) (lv' := [(3, .int (y3 + 1)), (4, .int v3), (0, .ref (ad 16)), (2, .int y2)]) hx hb dX0_arrange_68 hl (k := 3) rfl ii_1 (by decide) rfl (fun ls hl => ?_)
          refine lv_goto (tgt := 33) hx hb dX0_arrange_71 rfl ?_
          exact ih (y3 + 1) rk pl hf _ _ _ X (lv_sub hl [2, 3, 0] rfl)
        · refine lv_iload hx hb dX0_arrange_50 (lv_at hl 0 rfl) ?_
          refine lv_aload_n hx hb dX0_arrange_52 rfl (lv_at hl 1 rfl) ?_
          refine xg_f hx hb hts hown X h0 16 wlC_16 rfl 1 (by decide) (by decide +kernel) (v := .ref (ad 18)) rfl dX0_arrange_53 ?_
          refine va_alen hx hb X.1 X.2.1 18 1 wlC_18 rfl (v := (60 : Int32)) rfl dX0_arrange_56 ?_
          refine xr_icmp_ge (tgt := 68) hx hb dX0_arrange_57 rfl hf (fun hf => ?_) (fun hf => ?_)
          · refine lv_iinc (v := (y3 + 1)) (lv' := [(3, .int (y3 + 1)), (4, .int v3), (0, .ref (ad 16)), (2, .int y2)]) hx hb dX0_arrange_68 hl (k := 3) rfl ii_1 (by decide) rfl (fun ls hl => ?_)
            refine lv_goto (tgt := 33) hx hb dX0_arrange_71 rfl ?_
            exact ih (y3 + 1) rk pl hf _ _ _ X (lv_sub hl [2, 3, 0] rfl)
          · refine lv_aload_n hx hb dX0_arrange_60 rfl (lv_at hl 1 rfl) ?_
            refine xg_f hx hb hts hown X h0 16 wlC_16 rfl 1 (by decide) (by decide +kernel) (v := .ref (ad 18)) rfl dX0_arrange_61 ?_
            refine lv_iload hx hb dX0_arrange_64 (lv_at hl 0 rfl) ?_
            refine lv_iload_n hx hb dX0_arrange_66 rfl (lv_at hl 3 rfl) ?_
            refine xa_iast hx hb X 18 wlC_18 wlC_s_pl dX0_arrange_67 hf (fun g4 H locs hf X => ?_)
            refine lv_iinc (v := (y3 + 1)) (lv' := [(3, .int (y3 + 1)), (4, .int v3), (0, .ref (ad 16)), (2, .int y2)]) hx hb dX0_arrange_68 hl (k := 3) rfl ii_1 (by decide) rfl (fun ls hl => ?_)
            refine lv_goto (tgt := 33) hx hb dX0_arrange_71 rfl ?_
            exact ih (y3 + 1) rk g4 hf _ _ _ X (lv_sub hl [2, 3, 0] rfl)
  have w15 : ∀ (t1 : Nat) (y2 : Int32) (ht1 : t1 < 7) (n : Nat) (y3 : Int32) (rk : Nat → Int32) (pl : Nat → Int32), fX0_arrange_15 fu ts tc t1 y2 n y3 rk pl = some (rko, plo) → ∀ (H : Heap) (locs : List Loc) (ls : Array Slot), XW dd cy A s (wlC ad cy ts tc rk pl ru sl bg kn rm ol od) H locs → lv_has ls 5 [(0, .ref (ad 16)), (1, .ref (ad t1)), (2, .int y2), (3, .int y3)] → W p l e (headSpec wsX0_arrange { frames := 3, cells := 0, slots := 0, locals := 71 }).room s m args below meth c H locs 0 0 (MQ below (QX dd cy A none (wlC ad cy ts tc rko plo ru sl bg kn rm ol od)) args s 0 0 A) (F0 m 15 ls []) := by
    intro t1 y2 ht1 n
    induction n with
    | zero => intro y3 rk pl hf; exact absurd hf (by simp [fX0_arrange_15])
    | succ n ih =>
      intro y3 rk pl hf H locs ls X hl
      rw [fX0_arrange_15] at hf
      refine lv_iload_n hx hb dX0_arrange_15 rfl (lv_at hl 3 rfl) ?_
      refine xr_if_lt (tgt := 31) hx hb dX0_arrange_16 rfl hf (fun hf => ?_) (fun hf => ?_)
      · refine lv_iconst (v := (0 : Int32)) hx hb dX0_arrange_31 rfl ?_
        refine lv_istore_n (lv' := [(3, .int (0 : Int32)), (0, .ref (ad 16)), (1, .ref (ad t1)), (2, .int y2)]) hx hb dX0_arrange_32 rfl hl (by decide) rfl (fun ls hl => ?_)
        exact w33 y2 fu (0 : Int32) rk pl hf _ _ _ X (lv_sub hl [1, 3, 0] rfl)
      · refine lv_aload_n hx hb dX0_arrange_19 rfl (lv_at hl 0 rfl) ?_
        refine lv_aload_n hx hb dX0_arrange_20 rfl (lv_at hl 1 rfl) ?_
        refine lv_iload_n hx hb dX0_arrange_21 rfl (lv_at hl 3 rfl) ?_
        refine xb hf (fun v5 hv hf => ?_)
        refine xc_V0 (rest := []) ⟨hx, hb, hml, hown, hts⟩ (mX0_insert ht1 hv) (cwV 2 hts gX0_arrange_X0_insert rfl rfl rfl hqX0_insert ⟨Nat.le_of_ble_eq_true rfl, Nat.le_of_ble_eq_true rfl⟩) X (va_recv X.1 X.2.1 (ci := 2) (q0 := 16) rfl wlC_16) rfl hl.1 rfl (Nat.le_of_ble_eq_true rfl) dX0_arrange_22 ⟨Nat.zero_le _, Nat.zero_le _⟩ (fun H locs X => ?_)
        refine lv_iinc (v := (y3 + (-1))) (lv' := [(3, .int (y3 + (-1))), (0, .ref (ad 16)), (1, .ref (ad t1)), (2, .int y2)]) hx hb dX0_arrange_25 hl (k := 3) rfl ii_m1 (by decide) rfl (fun ls hl => ?_)
        refine lv_goto (tgt := 15) hx hb dX0_arrange_28 rfl ?_
        exact ih (y3 + (-1)) v5 pl hf _ _ _ X (lv_sub hl [1, 2, 3, 0] rfl)
  rw [fX0_arrange] at hf
  refine lv_aload_n hx hb dX0_arrange_0 rfl (lv_at hl 1 rfl) ?_
  refine xb hf (fun v1 hv hf => ?_)
  refine xc_V1 (rest := []) ⟨hx, hb, hml, hown, hts⟩ (mX4_size hj1 hv) (cwV 0 hts gX0_arrange_X4_size rfl rfl rfl hqX4_size ⟨Nat.le_of_ble_eq_true rfl, Nat.le_of_ble_eq_true rfl⟩) X (va_recv X.1 X.2.1 (ci := 0) (q0 := j1) rfl (wlC_t hj1)) rfl hl.1 rfl (Nat.le_of_ble_eq_true rfl) dX0_arrange_1 ⟨Nat.zero_le _, Nat.zero_le _⟩ (fun H locs X => ?_)
  refine lv_istore_n (lv' := [(2, .int v1), (0, .ref (ad 16)), (1, .ref (ad j1))]) hx hb dX0_arrange_4 rfl hl (by decide) rfl (fun ls hl => ?_)
  refine lv_aload_n hx hb dX0_arrange_5 rfl (lv_at hl 1 rfl) ?_
  refine lv_iload_n hx hb dX0_arrange_6 rfl (lv_at hl 0 rfl) ?_
  refine lv_iconst (v := (-1 : Int32)) hx hb dX0_arrange_7 rfl ?_
  refine xb hf (fun v2 hv hf => ?_)
  refine xc_V0 (rest := []) ⟨hx, hb, hml, hown, hts⟩ (mX0_keepRank hv) (cwV 2 hts gX0_arrange_X0_keepRank rfl rfl rfl hqX0_keepRank ⟨Nat.le_of_ble_eq_true rfl, Nat.le_of_ble_eq_true rfl⟩) X (va_recv X.1 X.2.1 (ci := 2) (q0 := 16) rfl wlC_16) rfl hl.1 rfl (Nat.le_of_ble_eq_true rfl) dX0_arrange_8 ⟨Nat.zero_le _, Nat.zero_le _⟩ (fun H locs X => ?_)
  refine lv_iload_n hx hb dX0_arrange_11 rfl (lv_at hl 0 rfl) ?_
  refine lv_iconst (v := (1 : Int32)) hx hb dX0_arrange_12 rfl ?_
  refine lv_isub hx hb dX0_arrange_13 ?_
  refine lv_istore_n (lv' := [(3, .int (v1 - (1 : Int32))), (2, .int v1), (0, .ref (ad 16)), (1, .ref (ad j1))]) hx hb dX0_arrange_14 rfl hl (by decide) rfl (fun ls hl => ?_)
  exact w15 j1 v1 hj1 fu (v1 - (1 : Int32)) v2 pl hf _ _ _ X (lv_sub hl [2, 3, 1, 0] rfl)
set_option maxRecDepth 100000 in
set_option maxHeartbeats 4000000 in
theorem mX0_placeBy {l : Launch} {dd : va_G} {cy : Nat → ClassId} {ad : Nat → Nat} {A : Nat → Prop} {ts : Nat → Int32} {tc : Nat → Nat → Int32} {rk : Nat → Int32} {pl : Nat → Int32} {ru : Nat → Int64} {sl : Nat → Int32} {bg : Nat → Int32} {kn : Nat → Int64} {rm : Int32} {ol : Nat → Int64} {od : Nat → UInt64} {x1 : Int32} {rv : Int32} (hf : fX0_placeBy pl x1 = some rv) : Met l yX0_placeBy wsX0_placeBy { frames := 0, cells := 0, slots := 0, locals := 0 } (va_Pc [.ref (ad 16), .int x1] (IW dd cy A (wlC ad cy ts tc rk pl ru sl bg kn rm ol od))) (QX dd cy A (some (.int rv)) (wlC ad cy ts tc rk pl ru sl bg kn rm ol od)) 0 0 A := by
  refine Met.ofW (cc := cX0_placeBy) (maxL := 2) (ret := some .int) (by decide) rfl ?_
  intro p e s m args below meth c s₁ B hml hv
  obtain ⟨hav, hI⟩ := hv
  have hx := B.exec
  have hb := B.bytes
  have hr := B.returns
  have hts := atoms_spec (ws := wsX0_placeBy) B.pre
  have hown : s.vm.findClass RX0 = some m.cls := findClass_of_methodNamed B.named
  have hlocks := B.notSynchronized
  have X := XW.of hI
  have h0 : ∀ w ∈ wsX00, w ∈ wsX0_placeBy := by decide +kernel
  refine xe_in hav (Nat.le_of_ble_eq_true rfl) rfl (fun ls hl => ?_)
  rw [fX0_placeBy] at hf
  refine lv_iload_n hx hb dX0_placeBy_0 rfl (lv_at hl 1 rfl) ?_
  refine xr_if_lt (tgt := 13) hx hb dX0_placeBy_1 rfl hf (fun hf => ?_) (fun hf => ?_)
  · refine lv_iconst (v := (-1 : Int32)) hx hb dX0_placeBy_13 rfl ?_
    refine lv_goto (tgt := 23) hx hb dX0_placeBy_14 rfl ?_
    cases hf
    exact xe_i hx hb hr hlocks X dX0_placeBy_23
  · refine lv_iload_n hx hb dX0_placeBy_4 rfl (lv_at hl 1 rfl) ?_
    refine lv_aload_n hx hb dX0_placeBy_5 rfl (lv_at hl 0 rfl) ?_
    refine xg_f hx hb hts hown X h0 16 wlC_16 rfl 1 (by decide) (by decide +kernel) (v := .ref (ad 18)) rfl dX0_placeBy_6 ?_
    refine va_alen hx hb X.1 X.2.1 18 1 wlC_18 rfl (v := (60 : Int32)) rfl dX0_placeBy_9 ?_
    refine xr_icmp_lt (tgt := 17) hx hb dX0_placeBy_10 rfl hf (fun hf => ?_) (fun hf => ?_)
    · refine lv_aload_n hx hb dX0_placeBy_17 rfl (lv_at hl 0 rfl) ?_
      refine xg_f hx hb hts hown X h0 16 wlC_16 rfl 1 (by decide) (by decide +kernel) (v := .ref (ad 18)) rfl dX0_placeBy_18 ?_
      refine lv_iload_n hx hb dX0_placeBy_21 rfl (lv_at hl 1 rfl) ?_
      refine xa_iald hx hb X 18 wlC_18 dX0_placeBy_22 hf (fun v1 hf => ?_)
      cases hf
      exact xe_i hx hb hr hlocks X dX0_placeBy_23
    · refine lv_iconst (v := (-1 : Int32)) hx hb dX0_placeBy_13 rfl ?_
      refine lv_goto (tgt := 23) hx hb dX0_placeBy_14 rfl ?_
      cases hf
      exact xe_i hx hb hr hlocks X dX0_placeBy_23
set_option maxRecDepth 100000 in
set_option maxHeartbeats 4000000 in
theorem mX0_sharedBefore {l : Launch} {dd : va_G} {cy : Nat → ClassId} {ad : Nat → Nat} {A : Nat → Prop} {fu : Nat} {ts : Nat → Int32} {tc : Nat → Nat → Int32} {rk : Nat → Int32} {pl : Nat → Int32} {ru : Nat → Int64} {sl : Nat → Int32} {bg : Nat → Int32} {kn : Nat → Int64} {rm : Int32} {ol : Nat → Int64} {od : Nat → UInt64} {j1 : Nat} {x2 : Int32} {rv : Int32} (hj1 : j1 < 7) (hf : fX0_sharedBefore fu ts tc pl j1 x2 = some rv) : Met l yX0_sharedBefore wsX0_sharedBefore { frames := 2, cells := 0, slots := 0, locals := 57 } (va_Pc [.ref (ad 16), .ref (ad j1), .int x2] (IW dd cy A (wlC ad cy ts tc rk pl ru sl bg kn rm ol od))) (QX dd cy A (some (.int rv)) (wlC ad cy ts tc rk pl ru sl bg kn rm ol od)) 0 0 A := by
  refine Met.ofW (cc := cX0_sharedBefore) (maxL := 3) (ret := some .int) (by decide) rfl ?_
  intro p e s m args below meth c s₁ B hml hv
  obtain ⟨hav, hI⟩ := hv
  have hx := B.exec
  have hb := B.bytes
  have hr := B.returns
  have hts := atoms_spec (ws := wsX0_sharedBefore) B.pre
  have hown : s.vm.findClass RX0 = some m.cls := findClass_of_methodNamed B.named
  have hlocks := B.notSynchronized
  have X := XW.of hI
  refine xe_in hav (Nat.le_of_ble_eq_true rfl) rfl (fun ls hl => ?_)
  rw [fX0_sharedBefore] at hf
  refine lv_iload_n hx hb dX0_sharedBefore_0 rfl (lv_at hl 2 rfl) ?_
  refine lv_iconst (v := (1 : Int32)) hx hb dX0_sharedBefore_1 rfl ?_
  refine xr_icmp_ge (tgt := 9) hx hb dX0_sharedBefore_2 rfl hf (fun hf => ?_) (fun hf => ?_)
  · refine lv_aload_n hx hb dX0_sharedBefore_9 rfl (lv_at hl 1 rfl) ?_
    refine lv_aload_n hx hb dX0_sharedBefore_10 rfl (lv_at hl 0 rfl) ?_
    refine lv_iload_n hx hb dX0_sharedBefore_11 rfl (lv_at hl 2 rfl) ?_
    refine xb hf (fun v1 hv hf => ?_)
    refine xc_V1 (rest := [.ref (ad j1)]) ⟨hx, hb, hml, hown, hts⟩ (mX0_placeBy hv) (cwV 1 hts gX0_sharedBefore_X0_placeBy rfl rfl rfl hqX0_placeBy ⟨Nat.le_of_ble_eq_true rfl, Nat.le_of_ble_eq_true rfl⟩) X (va_recv X.1 X.2.1 (ci := 2) (q0 := 16) rfl wlC_16) rfl hl.1 rfl (Nat.le_of_ble_eq_true rfl) dX0_sharedBefore_12 ⟨Nat.zero_le _, Nat.zero_le _⟩ (fun H locs X => ?_)
    refine lv_aload_n hx hb dX0_sharedBefore_15 rfl (lv_at hl 1 rfl) ?_
    refine lv_aload_n hx hb dX0_sharedBefore_16 rfl (lv_at hl 0 rfl) ?_
    refine lv_iload_n hx hb dX0_sharedBefore_17 rfl (lv_at hl 2 rfl) ?_
    refine lv_iconst (v := (1 : Int32)) hx hb dX0_sharedBefore_18 rfl ?_
    refine lv_isub hx hb dX0_sharedBefore_19 ?_
    refine xb hf (fun v2 hv hf => ?_)
    refine xc_V1 (rest := [.ref (ad j1), .int v1, .ref (ad j1)]) ⟨hx, hb, hml, hown, hts⟩ (mX0_placeBy hv) (cwV 1 hts gX0_sharedBefore_X0_placeBy rfl rfl rfl hqX0_placeBy ⟨Nat.le_of_ble_eq_true rfl, Nat.le_of_ble_eq_true rfl⟩) X (va_recv X.1 X.2.1 (ci := 2) (q0 := 16) rfl wlC_16) rfl hl.1 rfl (Nat.le_of_ble_eq_true rfl) dX0_sharedBefore_20 ⟨Nat.zero_le _, Nat.zero_le _⟩ (fun H locs X => ?_)
    refine xb hf (fun v3 hv hf => ?_)
    refine xc_V1 (rest := []) ⟨hx, hb, hml, hown, hts⟩ (mX4_alike hj1 hj1 hv) (cwV 3 hts gX0_sharedBefore_X4_alike rfl rfl rfl hqX4_alike ⟨Nat.le_of_ble_eq_true rfl, Nat.le_of_ble_eq_true rfl⟩) X (va_recv X.1 X.2.1 (ci := 0) (q0 := j1) rfl (wlC_t hj1)) rfl hl.1 rfl (Nat.le_of_ble_eq_true rfl) dX0_sharedBefore_23 ⟨Nat.zero_le _, Nat.zero_le _⟩ (fun H locs X => ?_)
    cases hf
    exact xe_i hx hb hr hlocks X dX0_sharedBefore_26
  · refine lv_iconst (v := (0 : Int32)) hx hb dX0_sharedBefore_5 rfl ?_
    refine lv_goto (tgt := 26) hx hb dX0_sharedBefore_6 rfl ?_
    cases hf
    exact xe_i hx hb hr hlocks X dX0_sharedBefore_26
set_option maxRecDepth 100000 in
set_option maxHeartbeats 4000000 in
theorem mX3_signJoined {l : Launch} {dd : va_G} {cy : Nat → ClassId} {ad : Nat → Nat} {A : Nat → Prop} {ts : Nat → Int32} {tc : Nat → Nat → Int32} {rk : Nat → Int32} {pl : Nat → Int32} {ru : Nat → Int64} {sl : Nat → Int32} {bg : Nat → Int32} {kn : Nat → Int64} {rm : Int32} {ol : Nat → Int64} {od : Nat → UInt64} {j0 : Nat} {j1 : Nat} {x2 : Int32} {rv : Int32} (hj0 : j0 < 7) (hj1 : j1 < 7) (hf : fX3_signJoined ts tc j0 j1 x2 = some rv) : Met l yX3_signJoined wsX3_signJoined { frames := 1, cells := 0, slots := 0, locals := 21 } (va_Pc [.ref (ad j0), .ref (ad j1), .int x2] (IW dd cy A (wlC ad cy ts tc rk pl ru sl bg kn rm ol od))) (QX dd cy A (some (.int rv)) (wlC ad cy ts tc rk pl ru sl bg kn rm ol od)) 0 0 A := by
  refine Met.ofW (cc := cX3_signJoined) (maxL := 3) (ret := some .char) (by decide) rfl ?_
  intro p e s m args below meth c s₁ B hml hv
  obtain ⟨hav, hI⟩ := hv
  have hx := B.exec
  have hb := B.bytes
  have hr := B.returns
  have hts := atoms_spec (ws := wsX3_signJoined) B.pre
  have hown : s.vm.findClass RX3 = some m.cls := findClass_of_methodNamed B.named
  have hlocks := B.notSynchronized
  have X := XW.of hI
  refine xe_in hav (Nat.le_of_ble_eq_true rfl) rfl (fun ls hl => ?_)
  rw [fX3_signJoined] at hf
  refine lv_iload_n hx hb dX3_signJoined_0 rfl (lv_at hl 2 rfl) ?_
  refine lv_aload_n hx hb dX3_signJoined_1 rfl (lv_at hl 0 rfl) ?_
  refine xb hf (fun v1 hv hf => ?_)
  refine xc_V1 (rest := [.int x2]) ⟨hx, hb, hml, hown, hts⟩ (mX4_size hj0 hv) (cwV 0 hts gX3_signJoined_X4_size rfl rfl rfl hqX4_size ⟨Nat.le_of_ble_eq_true rfl, Nat.le_of_ble_eq_true rfl⟩) X (va_recv X.1 X.2.1 (ci := 0) (q0 := j0) rfl (wlC_t hj0)) rfl hl.1 rfl (Nat.le_of_ble_eq_true rfl) dX3_signJoined_2 ⟨Nat.zero_le _, Nat.zero_le _⟩ (fun H locs X => ?_)
  refine xr_icmp_ge (tgt := 16) hx hb dX3_signJoined_5 rfl hf (fun hf => ?_) (fun hf => ?_)
  · refine lv_aload_n hx hb dX3_signJoined_16 rfl (lv_at hl 1 rfl) ?_
    refine lv_iload_n hx hb dX3_signJoined_17 rfl (lv_at hl 2 rfl) ?_
    refine lv_aload_n hx hb dX3_signJoined_18 rfl (lv_at hl 0 rfl) ?_
    refine xb hf (fun v2 hv hf => ?_)
    refine xc_V1 (rest := [.int x2, .ref (ad j1)]) ⟨hx, hb, hml, hown, hts⟩ (mX4_size hj0 hv) (cwV 0 hts gX3_signJoined_X4_size rfl rfl rfl hqX4_size ⟨Nat.le_of_ble_eq_true rfl, Nat.le_of_ble_eq_true rfl⟩) X (va_recv X.1 X.2.1 (ci := 0) (q0 := j0) rfl (wlC_t hj0)) rfl hl.1 rfl (Nat.le_of_ble_eq_true rfl) dX3_signJoined_19 ⟨Nat.zero_le _, Nat.zero_le _⟩ (fun H locs X => ?_)
    refine lv_isub hx hb dX3_signJoined_22 ?_
    refine xb hf (fun v3 hv hf => ?_)
    refine xc_V1 (rest := []) ⟨hx, hb, hml, hown, hts⟩ (mX4_signOn hj1 hv) (cwV 1 hts gX3_signJoined_X4_signOn rfl rfl rfl hqX4_signOn ⟨Nat.le_of_ble_eq_true rfl, Nat.le_of_ble_eq_true rfl⟩) X (va_recv X.1 X.2.1 (ci := 0) (q0 := j1) rfl (wlC_t hj1)) rfl hl.1 rfl (Nat.le_of_ble_eq_true rfl) dX3_signJoined_23 ⟨Nat.zero_le _, Nat.zero_le _⟩ (fun H locs X => ?_)
    refine xb hf (fun z9 hz hf => ?_)
    obtain ⟨hn, rfl⟩ := ckC_some hz
    cases hf
    exact xe_z hx hb hr hlocks X hn dX3_signJoined_26
  · refine lv_aload_n hx hb dX3_signJoined_8 rfl (lv_at hl 0 rfl) ?_
    refine lv_iload_n hx hb dX3_signJoined_9 rfl (lv_at hl 2 rfl) ?_
    refine xb hf (fun v4 hv hf => ?_)
    refine xc_V1 (rest := []) ⟨hx, hb, hml, hown, hts⟩ (mX4_signOn hj0 hv) (cwV 1 hts gX3_signJoined_X4_signOn rfl rfl rfl hqX4_signOn ⟨Nat.le_of_ble_eq_true rfl, Nat.le_of_ble_eq_true rfl⟩) X (va_recv X.1 X.2.1 (ci := 0) (q0 := j0) rfl (wlC_t hj0)) rfl hl.1 rfl (Nat.le_of_ble_eq_true rfl) dX3_signJoined_10 ⟨Nat.zero_le _, Nat.zero_le _⟩ (fun H locs X => ?_)
    refine lv_goto (tgt := 26) hx hb dX3_signJoined_13 rfl ?_
    refine xb hf (fun z9 hz hf => ?_)
    obtain ⟨hn, rfl⟩ := ckC_some hz
    cases hf
    exact xe_z hx hb hr hlocks X hn dX3_signJoined_26
set_option maxRecDepth 100000 in
set_option maxHeartbeats 4000000 in
theorem mX3_doCommute {l : Launch} {dd : va_G} {cy : Nat → ClassId} {ad : Nat → Nat} {A : Nat → Prop} {fu : Nat} {ts : Nat → Int32} {tc : Nat → Nat → Int32} {rk : Nat → Int32} {pl : Nat → Int32} {ru : Nat → Int64} {sl : Nat → Int32} {bg : Nat → Int32} {kn : Nat → Int64} {rm : Int32} {ol : Nat → Int64} {od : Nat → UInt64} {j0 : Nat} {j1 : Nat} {rv : Int32} (hj0 : j0 < 7) (hj1 : j1 < 7) (hf : fX3_doCommute fu ts tc j0 j1 = some rv) : Met l yX3_doCommute wsX3_doCommute { frames := 2, cells := 0, slots := 0, locals := 43 } (va_Pc [.ref (ad j0), .ref (ad j1)] (IW dd cy A (wlC ad cy ts tc rk pl ru sl bg kn rm ol od))) (QX dd cy A (some (.int rv)) (wlC ad cy ts tc rk pl ru sl bg kn rm ol od)) 0 0 A := by
  refine Met.ofW (cc := cX3_doCommute) (maxL := 4) (ret := some .boolean) (by decide) rfl ?_
  intro p e s m args below meth c s₁ B hml hv
  obtain ⟨hav, hI⟩ := hv
  have hx := B.exec
  have hb := B.bytes
  have hr := B.returns
  have hts := atoms_spec (ws := wsX3_doCommute) B.pre
  have hown : s.vm.findClass RX3 = some m.cls := findClass_of_methodNamed B.named
  have hlocks := B.notSynchronized
  have X := XW.of hI
  refine xe_in hav (Nat.le_of_ble_eq_true rfl) rfl (fun ls hl => ?_)
  have w12 : ∀ (t0 : Nat) (t1 : Nat) (y2 : Int32) (ht0 : t0 < 7) (ht1 : t1 < 7) (n : Nat) (y3 : Int32), fX3_doCommute_12 fu ts tc t0 t1 y2 n y3 = some rv → ∀ (H : Heap) (locs : List Loc) (ls : Array Slot), XW dd cy A s (wlC ad cy ts tc rk pl ru sl bg kn rm ol od) H locs → lv_has ls 4 [(0, .ref (ad t0)), (1, .ref (ad t1)), (2, .int y2), (3, .int y3)] → W p l e (headSpec wsX3_doCommute { frames := 2, cells := 0, slots := 0, locals := 43 }).room s m args below meth c H locs 0 0 (MQ below (QX dd cy A (some (.int rv)) (wlC ad cy ts tc rk pl ru sl bg kn rm ol od)) args s 0 0 A) (F0 m 12 ls []) := by
    intro t0 t1 y2 ht0 ht1 n
    induction n with
    | zero => intro y3 hf; exact absurd hf (by simp [fX3_doCommute_12])
    | succ n ih =>
      intro y3 hf H locs ls X hl
      rw [fX3_doCommute_12] at hf
      refine lv_iload_n hx hb dX3_doCommute_12 rfl (lv_at hl 3 rfl) ?_
      refine lv_iload_n hx hb dX3_doCommute_13 rfl (lv_at hl 2 rfl) ?_
      refine xr_icmp_ge (tgt := 40) hx hb dX3_doCommute_14 rfl hf (fun hf => ?_) (fun hf => ?_)
      · refine lv_iconst (v := (1 : Int32)) hx hb dX3_doCommute_40 rfl ?_
        cases hf
        exact xe_z hx hb hr hlocks X rfl dX3_doCommute_41
      · refine lv_aload_n hx hb dX3_doCommute_17 rfl (lv_at hl 0 rfl) ?_
        refine lv_aload_n hx hb dX3_doCommute_18 rfl (lv_at hl 1 rfl) ?_
        refine lv_iload_n hx hb dX3_doCommute_19 rfl (lv_at hl 3 rfl) ?_
        refine xb hf (fun v3 hv hf => ?_)
        refine xc_S1 (rest := []) ⟨hx, hb, hml, hown, hts⟩ (mX3_signJoined ht0 ht1 hv) (va_cwS 3 hts gX3_doCommute_X3_signJoined rfl rfl rfl hqX3_signJoined ⟨Nat.le_of_ble_eq_true rfl, Nat.le_of_ble_eq_true rfl⟩) X rfl hl.1 rfl (Nat.le_of_ble_eq_true rfl) dX3_doCommute_20 ⟨Nat.zero_le _, Nat.zero_le _⟩ (fun H locs X => ?_)
        refine lv_aload_n hx hb dX3_doCommute_23 rfl (lv_at hl 1 rfl) ?_
        refine lv_aload_n hx hb dX3_doCommute_24 rfl (lv_at hl 0 rfl) ?_
        refine lv_iload_n hx hb dX3_doCommute_25 rfl (lv_at hl 3 rfl) ?_
        refine xb hf (fun v4 hv hf => ?_)
        refine xc_S1 (rest := [.int v3]) ⟨hx, hb, hml, hown, hts⟩ (mX3_signJoined ht1 ht0 hv) (va_cwS 3 hts gX3_doCommute_X3_signJoined rfl rfl rfl hqX3_signJoined ⟨Nat.le_of_ble_eq_true rfl, Nat.le_of_ble_eq_true rfl⟩) X rfl hl.1 rfl (Nat.le_of_ble_eq_true rfl) dX3_doCommute_26 ⟨Nat.zero_le _, Nat.zero_le _⟩ (fun H locs X => ?_)
        refine xr_icmp_eq (tgt := 34) hx hb dX3_doCommute_29 rfl hf (fun hf => ?_) (fun hf => ?_)
        · refine lv_iinc (v := (y3 + 1)) (lv' := [(3, .int (y3 + 1)), (0, .ref (ad t0)), (1, .ref (ad t1)), (2, .int y2)]) hx hb dX3_doCommute_34 hl (k := 3) rfl ii_1 (by decide) rfl (fun ls hl => ?_)
          refine lv_goto (tgt := 12) hx hb dX3_doCommute_37 rfl ?_
          exact ih (y3 + 1) hf _ _ _ X (lv_sub hl [1, 2, 3, 0] rfl)
        · refine lv_iconst (v := (0 : Int32)) hx hb dX3_doCommute_32 rfl ?_
          cases hf
          exact xe_z hx hb hr hlocks X rfl dX3_doCommute_33
  rw [fX3_doCommute] at hf
  refine lv_aload_n hx hb dX3_doCommute_0 rfl (lv_at hl 0 rfl) ?_
  refine xb hf (fun v1 hv hf => ?_)
  refine xc_V1 (rest := []) ⟨hx, hb, hml, hown, hts⟩ (mX4_size hj0 hv) (cwV 0 hts gX3_doCommute_X4_size rfl rfl rfl hqX4_size ⟨Nat.le_of_ble_eq_true rfl, Nat.le_of_ble_eq_true rfl⟩) X (va_recv X.1 X.2.1 (ci := 0) (q0 := j0) rfl (wlC_t hj0)) rfl hl.1 rfl (Nat.le_of_ble_eq_true rfl) dX3_doCommute_1 ⟨Nat.zero_le _, Nat.zero_le _⟩ (fun H locs X => ?_)
  refine lv_aload_n hx hb dX3_doCommute_4 rfl (lv_at hl 1 rfl) ?_
  refine xb hf (fun v2 hv hf => ?_)
  refine xc_V1 (rest := [.int v1]) ⟨hx, hb, hml, hown, hts⟩ (mX4_size hj1 hv) (cwV 0 hts gX3_doCommute_X4_size rfl rfl rfl hqX4_size ⟨Nat.le_of_ble_eq_true rfl, Nat.le_of_ble_eq_true rfl⟩) X (va_recv X.1 X.2.1 (ci := 0) (q0 := j1) rfl (wlC_t hj1)) rfl hl.1 rfl (Nat.le_of_ble_eq_true rfl) dX3_doCommute_5 ⟨Nat.zero_le _, Nat.zero_le _⟩ (fun H locs X => ?_)
  refine lv_iadd hx hb dX3_doCommute_8 ?_
  refine lv_istore_n (lv' := [(2, .int (v1 + v2)), (0, .ref (ad j0)), (1, .ref (ad j1))]) hx hb dX3_doCommute_9 rfl hl (by decide) rfl (fun ls hl => ?_)
  refine lv_iconst (v := (0 : Int32)) hx hb dX3_doCommute_10 rfl ?_
  refine lv_istore_n (lv' := [(3, .int (0 : Int32)), (2, .int (v1 + v2)), (0, .ref (ad j0)), (1, .ref (ad j1))]) hx hb dX3_doCommute_11 rfl hl (by decide) rfl (fun ls hl => ?_)
  exact w12 j0 j1 (v1 + v2) hj0 hj1 fu (0 : Int32) hf _ _ _ X (lv_sub hl [2, 3, 1, 0] rfl)
set_option maxRecDepth 100000 in
set_option maxHeartbeats 4000000 in
theorem mX3_sharedSize {l : Launch} {dd : va_G} {cy : Nat → ClassId} {ad : Nat → Nat} {A : Nat → Prop} {fu : Nat} {ts : Nat → Int32} {tc : Nat → Nat → Int32} {rk : Nat → Int32} {pl : Nat → Int32} {ru : Nat → Int64} {sl : Nat → Int32} {bg : Nat → Int32} {kn : Nat → Int64} {rm : Int32} {ol : Nat → Int64} {od : Nat → UInt64} {j0 : Nat} {j1 : Nat} {rv : Int32} (hj0 : j0 < 7) (hj1 : j1 < 7) (hf : fX3_sharedSize fu ts tc j0 j1 = some rv) : Met l yX3_sharedSize wsX3_sharedSize { frames := 4, cells := 0, slots := 0, locals := 99 } (va_Pc [.ref (ad j0), .ref (ad j1)] (IW dd cy A (wlC ad cy ts tc rk pl ru sl bg kn rm ol od))) (QX dd cy A (some (.int rv)) (wlC ad cy ts tc rk pl ru sl bg kn rm ol od)) 0 0 A := by
  refine Met.ofW (cc := cX3_sharedSize) (maxL := 3) (ret := some .int) (by decide) rfl ?_
  intro p e s m args below meth c s₁ B hml hv
  obtain ⟨hav, hI⟩ := hv
  have hx := B.exec
  have hb := B.bytes
  have hr := B.returns
  have hts := atoms_spec (ws := wsX3_sharedSize) B.pre
  have hown : s.vm.findClass RX3 = some m.cls := findClass_of_methodNamed B.named
  have hlocks := B.notSynchronized
  have X := XW.of hI
  refine xe_in hav (Nat.le_of_ble_eq_true rfl) rfl (fun ls hl => ?_)
  rw [fX3_sharedSize] at hf
  refine lv_aload_n hx hb dX3_sharedSize_0 rfl (lv_at hl 0 rfl) ?_
  refine xb hf (fun v1 hv hf => ?_)
  refine xc_V1 (rest := []) ⟨hx, hb, hml, hown, hts⟩ (mX4_isEmpty hj0 hv) (cwV 0 hts gX3_sharedSize_X4_isEmpty rfl rfl rfl hqX4_isEmpty ⟨Nat.le_of_ble_eq_true rfl, Nat.le_of_ble_eq_true rfl⟩) X (va_recv X.1 X.2.1 (ci := 0) (q0 := j0) rfl (wlC_t hj0)) rfl hl.1 rfl (Nat.le_of_ble_eq_true rfl) dX3_sharedSize_1 ⟨Nat.zero_le _, Nat.zero_le _⟩ (fun H locs X => ?_)
  refine xr_if_eq (tgt := 12) hx hb dX3_sharedSize_4 rfl hf (fun hf => ?_) (fun hf => ?_)
  · refine lv_aload_n hx hb dX3_sharedSize_12 rfl (lv_at hl 0 rfl) ?_
    refine xb hf (fun v2 hv hf => ?_)
    refine xc_V1 (rest := []) ⟨hx, hb, hml, hown, hts⟩ (mX4_rootSize hj0 hv) (cwV 0 hts gX3_sharedSize_X4_rootSize rfl rfl rfl hqX4_rootSize ⟨Nat.le_of_ble_eq_true rfl, Nat.le_of_ble_eq_true rfl⟩) X (va_recv X.1 X.2.1 (ci := 0) (q0 := j0) rfl (wlC_t hj0)) rfl hl.1 rfl (Nat.le_of_ble_eq_true rfl) dX3_sharedSize_13 ⟨Nat.zero_le _, Nat.zero_le _⟩ (fun H locs X => ?_)
    refine lv_istore_n (lv' := [(2, .int v2), (0, .ref (ad j0)), (1, .ref (ad j1))]) hx hb dX3_sharedSize_16 rfl hl (by decide) rfl (fun ls hl => ?_)
    refine lv_aload_n hx hb dX3_sharedSize_17 rfl (lv_at hl 2 rfl) ?_
    refine xb hf (fun v3 hv hf => ?_)
    refine xc_V1 (rest := []) ⟨hx, hb, hml, hown, hts⟩ (mX4_isEmpty hj1 hv) (cwV 0 hts gX3_sharedSize_X4_isEmpty rfl rfl rfl hqX4_isEmpty ⟨Nat.le_of_ble_eq_true rfl, Nat.le_of_ble_eq_true rfl⟩) X (va_recv X.1 X.2.1 (ci := 0) (q0 := j1) rfl (wlC_t hj1)) rfl hl.1 rfl (Nat.le_of_ble_eq_true rfl) dX3_sharedSize_18 ⟨Nat.zero_le _, Nat.zero_le _⟩ (fun H locs X => ?_)
    refine xr_if_eq (tgt := 26) hx hb dX3_sharedSize_21 rfl hf (fun hf => ?_) (fun hf => ?_)
    · refine lv_aload_n hx hb dX3_sharedSize_26 rfl (lv_at hl 2 rfl) ?_
      refine xb hf (fun v4 hv hf => ?_)
      refine xc_V1 (rest := []) ⟨hx, hb, hml, hown, hts⟩ (mX4_rootSize hj1 hv) (cwV 0 hts gX3_sharedSize_X4_rootSize rfl rfl rfl hqX4_rootSize ⟨Nat.le_of_ble_eq_true rfl, Nat.le_of_ble_eq_true rfl⟩) X (va_recv X.1 X.2.1 (ci := 0) (q0 := j1) rfl (wlC_t hj1)) rfl hl.1 rfl (Nat.le_of_ble_eq_true rfl) dX3_sharedSize_27 ⟨Nat.zero_le _, Nat.zero_le _⟩ (fun H locs X => ?_)
      refine lv_iload_n hx hb dX3_sharedSize_30 rfl (lv_at hl 0 rfl) ?_
      refine xr_icmp_ne (tgt := 49) hx hb dX3_sharedSize_31 rfl hf (fun hf => ?_) (fun hf => ?_)
      · refine lv_iconst (v := (0 : Int32)) hx hb dX3_sharedSize_49 rfl ?_
        cases hf
        exact xe_i hx hb hr hlocks X dX3_sharedSize_50
      · refine lv_aload_n hx hb dX3_sharedSize_34 rfl (lv_at hl 1 rfl) ?_
        refine lv_iconst (v := (0 : Int32)) hx hb dX3_sharedSize_35 rfl ?_
        refine lv_aload_n hx hb dX3_sharedSize_36 rfl (lv_at hl 2 rfl) ?_
        refine lv_iconst (v := (0 : Int32)) hx hb dX3_sharedSize_37 rfl ?_
        refine xb hf (fun v5 hv hf => ?_)
        refine xc_V1 (rest := []) ⟨hx, hb, hml, hown, hts⟩ (mX4_alike hj0 hj1 hv) (cwV 3 hts gX3_sharedSize_X4_alike rfl rfl rfl hqX4_alike ⟨Nat.le_of_ble_eq_true rfl, Nat.le_of_ble_eq_true rfl⟩) X (va_recv X.1 X.2.1 (ci := 0) (q0 := j0) rfl (wlC_t hj0)) rfl hl.1 rfl (Nat.le_of_ble_eq_true rfl) dX3_sharedSize_38 ⟨Nat.zero_le _, Nat.zero_le _⟩ (fun H locs X => ?_)
        refine lv_iload_n hx hb dX3_sharedSize_41 rfl (lv_at hl 0 rfl) ?_
        refine xr_icmp_lt (tgt := 49) hx hb dX3_sharedSize_42 rfl hf (fun hf => ?_) (fun hf => ?_)
        · refine lv_iconst (v := (0 : Int32)) hx hb dX3_sharedSize_49 rfl ?_
          cases hf
          exact xe_i hx hb hr hlocks X dX3_sharedSize_50
        · refine lv_iload_n hx hb dX3_sharedSize_45 rfl (lv_at hl 0 rfl) ?_
          refine lv_goto (tgt := 50) hx hb dX3_sharedSize_46 rfl ?_
          cases hf
          exact xe_i hx hb hr hlocks X dX3_sharedSize_50
    · refine lv_iload_n hx hb dX3_sharedSize_24 rfl (lv_at hl 0 rfl) ?_
      cases hf
      exact xe_i hx hb hr hlocks X dX3_sharedSize_25
  · refine lv_aload_n hx hb dX3_sharedSize_7 rfl (lv_at hl 1 rfl) ?_
    refine xb hf (fun v6 hv hf => ?_)
    refine xc_V1 (rest := []) ⟨hx, hb, hml, hown, hts⟩ (mX4_rootSize hj1 hv) (cwV 0 hts gX3_sharedSize_X4_rootSize rfl rfl rfl hqX4_rootSize ⟨Nat.le_of_ble_eq_true rfl, Nat.le_of_ble_eq_true rfl⟩) X (va_recv X.1 X.2.1 (ci := 0) (q0 := j1) rfl (wlC_t hj1)) rfl hl.1 rfl (Nat.le_of_ble_eq_true rfl) dX3_sharedSize_8 ⟨Nat.zero_le _, Nat.zero_le _⟩ (fun H locs X => ?_)
    cases hf
    exact xe_i hx hb hr hlocks X dX3_sharedSize_11
set_option maxRecDepth 100000 in
set_option maxHeartbeats 4000000 in
theorem mX2_isUsed {l : Launch} {dd : va_G} {cy : Nat → ClassId} {ad : Nat → Nat} {A : Nat → Prop} {ts : Nat → Int32} {tc : Nat → Nat → Int32} {rk : Nat → Int32} {pl : Nat → Int32} {ru : Nat → Int64} {sl : Nat → Int32} {bg : Nat → Int32} {kn : Nat → Int64} {rm : Int32} {ol : Nat → Int64} {od : Nat → UInt64} {x1 : Int32} {x2 : Int32} {rv : Int32} (hf : fX2_isUsed ts x1 x2 = some rv) : Met l yX2_isUsed wsX2_isUsed { frames := 1, cells := 0, slots := 0, locals := 20 } (va_Pc [.ref (ad 15), .int x1, .int x2] (IW dd cy A (wlC ad cy ts tc rk pl ru sl bg kn rm ol od))) (QX dd cy A (some (.int rv)) (wlC ad cy ts tc rk pl ru sl bg kn rm ol od)) 0 0 A := by
  refine Met.ofW (cc := cX2_isUsed) (maxL := 3) (ret := some .boolean) (by decide) rfl ?_
  intro p e s m args below meth c s₁ B hml hv
  obtain ⟨hav, hI⟩ := hv
  have hx := B.exec
  have hb := B.bytes
  have hr := B.returns
  have hts := atoms_spec (ws := wsX2_isUsed) B.pre
  have hown : s.vm.findClass RX2 = some m.cls := findClass_of_methodNamed B.named
  have hlocks := B.notSynchronized
  have X := XW.of hI
  refine xe_in hav (Nat.le_of_ble_eq_true rfl) rfl (fun ls hl => ?_)
  rw [fX2_isUsed] at hf
  refine lv_iload_n hx hb dX2_isUsed_0 rfl (lv_at hl 1 rfl) ?_
  refine lv_iload_n hx hb dX2_isUsed_1 rfl (lv_at hl 2 rfl) ?_
  refine lv_ishr hx hb dX2_isUsed_2 ?_
  refine lv_iconst (v := (1 : Int32)) hx hb dX2_isUsed_3 rfl ?_
  refine lv_iand hx hb dX2_isUsed_4 ?_
  refine lv_iconst (v := (1 : Int32)) hx hb dX2_isUsed_5 rfl ?_
  refine xr_icmp_ne (tgt := 22) hx hb dX2_isUsed_6 rfl hf (fun hf => ?_) (fun hf => ?_)
  · refine lv_iconst (v := (0 : Int32)) hx hb dX2_isUsed_22 rfl ?_
    cases hf
    exact xe_z hx hb hr hlocks X rfl dX2_isUsed_23
  · refine lv_aload_n hx hb dX2_isUsed_9 rfl (lv_at hl 0 rfl) ?_
    refine lv_iload_n hx hb dX2_isUsed_10 rfl (lv_at hl 2 rfl) ?_
    refine xa_text hx hb X wlC_15 dX2_isUsed_11 hf (fun a1 ha1 hf => ?_)
    refine xb hf (fun v2 hv hf => ?_)
    refine xc_V1 (rest := []) ⟨hx, hb, hml, hown, hts⟩ (mX4_isEmpty ha1 hv) (cwV 0 hts gX2_isUsed_X4_isEmpty rfl rfl rfl hqX4_isEmpty ⟨Nat.le_of_ble_eq_true rfl, Nat.le_of_ble_eq_true rfl⟩) X (va_recv X.1 X.2.1 (ci := 0) (q0 := a1) rfl (wlC_t ha1)) rfl hl.1 rfl (Nat.le_of_ble_eq_true rfl) dX2_isUsed_12 ⟨Nat.zero_le _, Nat.zero_le _⟩ (fun H locs X => ?_)
    refine xr_if_ne (tgt := 22) hx hb dX2_isUsed_15 rfl hf (fun hf => ?_) (fun hf => ?_)
    · refine lv_iconst (v := (0 : Int32)) hx hb dX2_isUsed_22 rfl ?_
      cases hf
      exact xe_z hx hb hr hlocks X rfl dX2_isUsed_23
    · refine lv_iconst (v := (1 : Int32)) hx hb dX2_isUsed_18 rfl ?_
      refine lv_goto (tgt := 23) hx hb dX2_isUsed_19 rfl ?_
      cases hf
      exact xe_z hx hb hr hlocks X rfl dX2_isUsed_23
set_option maxRecDepth 100000 in
set_option maxHeartbeats 4000000 in
theorem mX2_rowsTo {l : Launch} {dd : va_G} {cy : Nat → ClassId} {ad : Nat → Nat} {A : Nat → Prop} {ts : Nat → Int32} {tc : Nat → Nat → Int32} {rk : Nat → Int32} {pl : Nat → Int32} {ru : Nat → Int64} {sl : Nat → Int32} {bg : Nat → Int32} {kn : Nat → Int64} {rm : Int32} {ol : Nat → Int64} {od : Nat → UInt64} {x1 : Int32} {rv : Int64} (hf : fX2_rowsTo ru x1 = some rv) : Met l yX2_rowsTo wsX2_rowsTo { frames := 0, cells := 0, slots := 0, locals := 0 } (va_Pc [.ref (ad 19), .int x1] (IW dd cy A (wlC ad cy ts tc rk pl ru sl bg kn rm ol od))) (QX dd cy A (some (.long rv)) (wlC ad cy ts tc rk pl ru sl bg kn rm ol od)) 0 0 A := by
  refine Met.ofW (cc := cX2_rowsTo) (maxL := 2) (ret := some .long) (by decide) rfl ?_
  intro p e s m args below meth c s₁ B hml hv
  obtain ⟨hav, hI⟩ := hv
  have hx := B.exec
  have hb := B.bytes
  have hr := B.returns
  have hts := atoms_spec (ws := wsX2_rowsTo) B.pre
  have hown : s.vm.findClass RX2 = some m.cls := findClass_of_methodNamed B.named
  have hlocks := B.notSynchronized
  have X := XW.of hI
  have h2 : ∀ w ∈ wsX20, w ∈ wsX2_rowsTo := by decide +kernel
  refine xe_in hav (Nat.le_of_ble_eq_true rfl) rfl (fun ls hl => ?_)
  rw [fX2_rowsTo] at hf
  refine lv_iload_n hx hb dX2_rowsTo_0 rfl (lv_at hl 1 rfl) ?_
  refine xr_if_lt (tgt := 13) hx hb dX2_rowsTo_1 rfl hf (fun hf => ?_) (fun hf => ?_)
  · refine lv_lconst (v := (0 : Int64)) hx hb dX2_rowsTo_13 rfl ?_
    refine lv_goto (tgt := 23) hx hb dX2_rowsTo_14 rfl ?_
    cases hf
    exact xe_l hx hb hr hlocks X dX2_rowsTo_23
  · refine lv_iload_n hx hb dX2_rowsTo_4 rfl (lv_at hl 1 rfl) ?_
    refine lv_aload_n hx hb dX2_rowsTo_5 rfl (lv_at hl 0 rfl) ?_
    refine xg_f hx hb hts hown X h2 19 wlC_19 rfl 0 (by decide) (by decide +kernel) (v := .ref (ad 20)) rfl dX2_rowsTo_6 ?_
    refine va_alen hx hb X.1 X.2.1 20 2 wlC_20 rfl (v := (61 : Int32)) rfl dX2_rowsTo_9 ?_
    refine xr_icmp_lt (tgt := 17) hx hb dX2_rowsTo_10 rfl hf (fun hf => ?_) (fun hf => ?_)
    · refine lv_aload_n hx hb dX2_rowsTo_17 rfl (lv_at hl 0 rfl) ?_
      refine xg_f hx hb hts hown X h2 19 wlC_19 rfl 0 (by decide) (by decide +kernel) (v := .ref (ad 20)) rfl dX2_rowsTo_18 ?_
      refine lv_iload_n hx hb dX2_rowsTo_21 rfl (lv_at hl 1 rfl) ?_
      refine xa_lald hx hb X 20 wlC_20 dX2_rowsTo_22 hf (fun v1 hf => ?_)
      cases hf
      exact xe_l hx hb hr hlocks X dX2_rowsTo_23
    · refine lv_lconst (v := (0 : Int64)) hx hb dX2_rowsTo_13 rfl ?_
      refine lv_goto (tgt := 23) hx hb dX2_rowsTo_14 rfl ?_
      cases hf
      exact xe_l hx hb hr hlocks X dX2_rowsTo_23
set_option maxRecDepth 100000 in
set_option maxHeartbeats 4000000 in
theorem mX2_countRows {l : Launch} {dd : va_G} {cy : Nat → ClassId} {ad : Nat → Nat} {A : Nat → Prop} {fu : Nat} {ts : Nat → Int32} {tc : Nat → Nat → Int32} {rk : Nat → Int32} {pl : Nat → Int32} {ru : Nat → Int64} {sl : Nat → Int32} {bg : Nat → Int32} {kn : Nat → Int64} {rm : Int32} {ol : Nat → Int64} {od : Nat → UInt64} {j1 : Nat} {x3 : Int32} {rv : Int64} {ruo : Nat → Int64} (hj1 : j1 < 7) (hf : fX2_countRows fu ts tc ru j1 x3 = some (rv, ruo)) : Met l yX2_countRows wsX2_countRows { frames := 3, cells := 0, slots := 0, locals := 79 } (va_Pc [.ref (ad 19), .ref (ad j1), .ref (ad 15), .int x3] (IW dd cy A (wlC ad cy ts tc rk pl ru sl bg kn rm ol od))) (QX dd cy A (some (.long rv)) (wlC ad cy ts tc rk pl ruo sl bg kn rm ol od)) 0 0 A := by
  refine Met.ofW (cc := cX2_countRows) (maxL := 9) (ret := some .long) (by decide) rfl ?_
  intro p e s m args below meth c s₁ B hml hv
  obtain ⟨hav, hI⟩ := hv
  have hx := B.exec
  have hb := B.bytes
  have hr := B.returns
  have hts := atoms_spec (ws := wsX2_countRows) B.pre
  have hown : s.vm.findClass RX2 = some m.cls := findClass_of_methodNamed B.named
  have hlocks := B.notSynchronized
  have X := XW.of hI
  have h2 : ∀ w ∈ wsX20, w ∈ wsX2_countRows := by decide +kernel
  refine xe_in hav (Nat.le_of_ble_eq_true rfl) rfl (fun ls hl => ?_)
  have w109 : ∀ (t1 : Nat) (ht1 : t1 < 7) (ru : Nat → Int64), fX2_countRows_109 fu ts tc t1 ru = some (rv, ruo) → ∀ (H : Heap) (locs : List Loc) (ls : Array Slot), XW dd cy A s (wlC ad cy ts tc rk pl ru sl bg kn rm ol od) H locs → lv_has ls 9 [(0, .ref (ad 19)), (1, .ref (ad t1))] → W p l e (headSpec wsX2_countRows { frames := 3, cells := 0, slots := 0, locals := 79 }).room s m args below meth c H locs 0 0 (MQ below (QX dd cy A (some (.long rv)) (wlC ad cy ts tc rk pl ruo sl bg kn rm ol od)) args s 0 0 A) (F0 m 109 ls []) := by
    intro t1 ht1 ru hf H locs ls X hl
    rw [fX2_countRows_109] at hf
    refine lv_aload_n hx hb dX2_countRows_109 rfl (lv_at hl 0 rfl) ?_
    refine lv_aload_n hx hb dX2_countRows_110 rfl (lv_at hl 1 rfl) ?_
    refine xb hf (fun v3 hv hf => ?_)
    refine xc_V1 (rest := [.ref (ad 19)]) ⟨hx, hb, hml, hown, hts⟩ (mX4_size ht1 hv) (cwV 0 hts gX2_countRows_X4_size rfl rfl rfl hqX4_size ⟨Nat.le_of_ble_eq_true rfl, Nat.le_of_ble_eq_true rfl⟩) X (va_recv X.1 X.2.1 (ci := 0) (q0 := t1) rfl (wlC_t ht1)) rfl hl.1 rfl (Nat.le_of_ble_eq_true rfl) dX2_countRows_111 ⟨Nat.zero_le _, Nat.zero_le _⟩ (fun H locs X => ?_)
    refine xb hf (fun v4 hv hf => ?_)
    refine xc_V1 (rest := []) ⟨hx, hb, hml, hown, hts⟩ (mX2_rowsTo hv) (cwV 1 hts gX2_countRows_X2_rowsTo rfl rfl rfl hqX2_rowsTo ⟨Nat.le_of_ble_eq_true rfl, Nat.le_of_ble_eq_true rfl⟩) X (va_recv X.1 X.2.1 (ci := 3) (q0 := 19) rfl wlC_19) rfl hl.1 rfl (Nat.le_of_ble_eq_true rfl) dX2_countRows_114 ⟨Nat.zero_le _, Nat.zero_le _⟩ (fun H locs X => ?_)
    cases hf
    exact xe_l hx hb hr hlocks X dX2_countRows_117
  have w35 : ∀ (t1 : Nat) (y3 : Int32) (y4 : Int32) (ht1 : t1 < 7) (k10 : Int32 → (Nat → Int64) → Option (Int64 × (Nat → Int64))) (hk10 : ∀ (zy4 : Int32) (zru : Nat → Int64), k10 zy4 zru = some (rv, ruo) → ∀ (H : Heap) (locs : List Loc) (ls : Array Slot), XW dd cy A s (wlC ad cy ts tc rk pl zru sl bg kn rm ol od) H locs → lv_has ls 9 [(0, .ref (ad 19)), (1, .ref (ad t1)), (2, .ref (ad 15)), (3, .int y3), (4, .int zy4)] → W p l e (headSpec wsX2_countRows { frames := 3, cells := 0, slots := 0, locals := 79 }).room s m args below meth c H locs 0 0 (MQ below (QX dd cy A (some (.long rv)) (wlC ad cy ts tc rk pl ruo sl bg kn rm ol od)) args s 0 0 A) (F0 m 10 ls [])) (n : Nat) (y5 : Int64) (y7 : Int32) (ru : Nat → Int64), fX2_countRows_35 fu ts tc t1 y3 y4 k10 n y5 y7 ru = some (rv, ruo) → ∀ (H : Heap) (locs : List Loc) (ls : Array Slot), XW dd cy A s (wlC ad cy ts tc rk pl ru sl bg kn rm ol od) H locs → lv_has ls 9 [(0, .ref (ad 19)), (1, .ref (ad t1)), (2, .ref (ad 15)), (3, .int y3), (4, .int y4), (5, .long y5), (7, .int y7)] → W p l e (headSpec wsX2_countRows { frames := 3, cells := 0, slots := 0, locals := 79 }).room s m args below meth c H locs 0 0 (MQ below (QX dd cy A (some (.long rv)) (wlC ad cy ts tc rk pl ruo sl bg kn rm ol od)) args s 0 0 A) (F0 m 35 ls []) := by
    intro t1 y3 y4 ht1 k10 hk10 n
    induction n with
    | zero => intro y5 y7 ru hf; exact absurd hf (by simp [fX2_countRows_35])
    | succ n ih =>
      intro y5 y7 ru hf H locs ls X hl
      rw [fX2_countRows_35] at hf
      refine lv_iload hx hb dX2_countRows_35 (lv_at hl 6 rfl) ?_
      refine lv_bipush (v := (6 : Int32)) hx hb dX2_countRows_37 rfl ?_
      refine xr_icmp_ge (tgt := 94) hx hb dX2_countRows_39 rfl hf (fun hf => ?_) (fun hf => ?_)
      · refine lv_aload_n hx hb dX2_countRows_94 rfl (lv_at hl 0 rfl) ?_
        refine xg_f hx hb hts hown X h2 19 wlC_19 rfl 0 (by decide) (by decide +kernel) (v := .ref (ad 20)) rfl dX2_countRows_95 ?_
        refine lv_iload hx hb dX2_countRows_98 (lv_at hl 4 rfl) ?_
        refine lv_lload hx hb dX2_countRows_100 (lv_at hl 5 rfl) ?_
        refine xa_last hx hb X 20 wlC_20 wlC_s_ru dX2_countRows_102 hf (fun g5 H locs hf X => ?_)
        refine lv_iinc (v := (y4 + 1)) (lv' := [(4, .int (y4 + 1)), (0, .ref (ad 19)), (1, .ref (ad t1)), (2, .ref (ad 15)), (3, .int y3), (5, .long y5), (7, .int y7)]) hx hb dX2_countRows_103 hl (k := 4) rfl ii_1 (by decide) rfl (fun ls hl => ?_)
        refine lv_goto (tgt := 10) hx hb dX2_countRows_106 rfl ?_
        exact hk10 (y4 + 1) g5 hf _ _ _ X (lv_sub hl [1, 2, 3, 4, 0] rfl)
      · refine lv_iload hx hb dX2_countRows_42 (lv_at hl 4 rfl) ?_
        refine lv_aload_n hx hb dX2_countRows_44 rfl (lv_at hl 2 rfl) ?_
        refine lv_iload hx hb dX2_countRows_45 (lv_at hl 6 rfl) ?_
        refine xa_text hx hb X wlC_15 dX2_countRows_47 hf (fun a6 ha6 hf => ?_)
        refine xb hf (fun v7 hv hf => ?_)
        refine xc_V1 (rest := [.int y4]) ⟨hx, hb, hml, hown, hts⟩ (mX4_size ha6 hv) (cwV 0 hts gX2_countRows_X4_size rfl rfl rfl hqX4_size ⟨Nat.le_of_ble_eq_true rfl, Nat.le_of_ble_eq_true rfl⟩) X (va_recv X.1 X.2.1 (ci := 0) (q0 := a6) rfl (wlC_t ha6)) rfl hl.1 rfl (Nat.le_of_ble_eq_true rfl) dX2_countRows_48 ⟨Nat.zero_le _, Nat.zero_le _⟩ (fun H locs X => ?_)
        refine lv_isub hx hb dX2_countRows_51 ?_
        refine lv_istore (lv' := [(8, .int (y4 - v7)), (0, .ref (ad 19)), (1, .ref (ad t1)), (2, .ref (ad 15)), (3, .int y3), (4, .int y4), (5, .long y5), (7, .int y7)]) hx hb dX2_countRows_52 hl (by decide) rfl (fun ls hl => ?_)
        refine lv_aload_n hx hb dX2_countRows_54 rfl (lv_at hl 3 rfl) ?_
        refine lv_iload_n hx hb dX2_countRows_55 rfl (lv_at hl 4 rfl) ?_
        refine lv_iload hx hb dX2_countRows_56 (lv_at hl 7 rfl) ?_
        refine xb hf (fun v8 hv hf => ?_)
        refine xc_S1 (rest := []) ⟨hx, hb, hml, hown, hts⟩ (mX2_isUsed hv) (va_cwS 3 hts gX2_countRows_X2_isUsed rfl rfl rfl hqX2_isUsed ⟨Nat.le_of_ble_eq_true rfl, Nat.le_of_ble_eq_true rfl⟩) X rfl hl.1 rfl (Nat.le_of_ble_eq_true rfl) dX2_countRows_58 ⟨Nat.zero_le _, Nat.zero_le _⟩ (fun H locs X => ?_)
        refine xr_if_eq (tgt := 88) hx hb dX2_countRows_61 rfl hf (fun hf => ?_) (fun hf => ?_)
        · refine lv_iinc (v := (y7 + 1)) (lv' := [(7, .int (y7 + 1)), (8, .int (y4 - v7)), (0, .ref (ad 19)), (1, .ref (ad t1)), (2, .ref (ad 15)), (3, .int y3), (4, .int y4), (5, .long y5)]) hx hb dX2_countRows_88 hl (k := 7) rfl ii_1 (by decide) rfl (fun ls hl => ?_)
          refine lv_goto (tgt := 35) hx hb dX2_countRows_91 rfl ?_
          exact ih y5 (y7 + 1) ru hf _ _ _ X (lv_sub hl [2, 3, 4, 5, 6, 7, 0] rfl)
        · refine lv_aload_n hx hb dX2_countRows_64 rfl (lv_at hl 2 rfl) ?_
          refine lv_iload hx hb dX2_countRows_65 (lv_at hl 0 rfl) ?_
          refine lv_aload_n hx hb dX2_countRows_67 rfl (lv_at hl 3 rfl) ?_
          refine lv_iload hx hb dX2_countRows_68 (lv_at hl 7 rfl) ?_
          refine xa_text hx hb X wlC_15 dX2_countRows_70 hf (fun a9 ha9 hf => ?_)
          refine xb hf (fun v10 hv hf => ?_)
          refine xc_V1 (rest := []) ⟨hx, hb, hml, hown, hts⟩ (mX4_hasAt ht1 ha9 hv) (cwV 2 hts gX2_countRows_X4_hasAt rfl rfl rfl hqX4_hasAt ⟨Nat.le_of_ble_eq_true rfl, Nat.le_of_ble_eq_true rfl⟩) X (va_recv X.1 X.2.1 (ci := 0) (q0 := t1) rfl (wlC_t ht1)) rfl hl.1 rfl (Nat.le_of_ble_eq_true rfl) dX2_countRows_71 ⟨Nat.zero_le _, Nat.zero_le _⟩ (fun H locs X => ?_)
          refine xr_if_eq (tgt := 88) hx hb dX2_countRows_74 rfl hf (fun hf => ?_) (fun hf => ?_)
          · refine lv_iinc (v := (y7 + 1)) (lv' := [(7, .int (y7 + 1)), (8, .int (y4 - v7)), (0, .ref (ad 19)), (1, .ref (ad t1)), (2, .ref (ad 15)), (3, .int y3), (4, .int y4), (5, .long y5)]) hx hb dX2_countRows_88 hl (k := 7) rfl ii_1 (by decide) rfl (fun ls hl => ?_)
            refine lv_goto (tgt := 35) hx hb dX2_countRows_91 rfl ?_
            exact ih y5 (y7 + 1) ru hf _ _ _ X (lv_sub hl [2, 3, 4, 5, 6, 7, 0] rfl)
          · refine lv_lload hx hb dX2_countRows_77 (lv_at hl 6 rfl) ?_
            refine lv_aload_n hx hb dX2_countRows_79 rfl (lv_at hl 1 rfl) ?_
            refine lv_iload hx hb dX2_countRows_80 (lv_at hl 0 rfl) ?_
            refine xb hf (fun v11 hv hf => ?_)
            refine xc_V1 (rest := [.long y5]) ⟨hx, hb, hml, hown, hts⟩ (mX2_rowsTo hv) (cwV 1 hts gX2_countRows_X2_rowsTo rfl rfl rfl hqX2_rowsTo ⟨Nat.le_of_ble_eq_true rfl, Nat.le_of_ble_eq_true rfl⟩) X (va_recv X.1 X.2.1 (ci := 3) (q0 := 19) rfl wlC_19) rfl hl.1 rfl (Nat.le_of_ble_eq_true rfl) dX2_countRows_82 ⟨Nat.zero_le _, Nat.zero_le _⟩ (fun H locs X => ?_)
            refine lv_ladd hx hb dX2_countRows_85 ?_
            refine lv_lstore (lv' := [(5, .long (y5 + v11)), (8, .int (y4 - v7)), (0, .ref (ad 19)), (1, .ref (ad t1)), (2, .ref (ad 15)), (3, .int y3), (4, .int y4), (7, .int y7)]) hx hb dX2_countRows_86 hl (by decide) rfl (fun ls hl => ?_)
            refine lv_iinc (v := (y7 + 1)) (lv' := [(7, .int (y7 + 1)), (5, .long (y5 + v11)), (8, .int (y4 - v7)), (0, .ref (ad 19)), (1, .ref (ad t1)), (2, .ref (ad 15)), (3, .int y3), (4, .int y4)]) hx hb dX2_countRows_88 hl (k := 7) rfl ii_1 (by decide) rfl (fun ls hl => ?_)
            refine lv_goto (tgt := 35) hx hb dX2_countRows_91 rfl ?_
            exact ih (y5 + v11) (y7 + 1) ru hf _ _ _ X (lv_sub hl [3, 4, 5, 6, 7, 1, 0] rfl)
  have w10 : ∀ (t1 : Nat) (y3 : Int32) (ht1 : t1 < 7) (n : Nat) (y4 : Int32) (ru : Nat → Int64), fX2_countRows_10 fu ts tc t1 y3 n y4 ru = some (rv, ruo) → ∀ (H : Heap) (locs : List Loc) (ls : Array Slot), XW dd cy A s (wlC ad cy ts tc rk pl ru sl bg kn rm ol od) H locs → lv_has ls 9 [(0, .ref (ad 19)), (1, .ref (ad t1)), (2, .ref (ad 15)), (3, .int y3), (4, .int y4)] → W p l e (headSpec wsX2_countRows { frames := 3, cells := 0, slots := 0, locals := 79 }).room s m args below meth c H locs 0 0 (MQ below (QX dd cy A (some (.long rv)) (wlC ad cy ts tc rk pl ruo sl bg kn rm ol od)) args s 0 0 A) (F0 m 10 ls []) := by
    intro t1 y3 ht1 n
    induction n with
    | zero => intro y4 ru hf; exact absurd hf (by simp [fX2_countRows_10])
    | succ n ih =>
      intro y4 ru hf H locs ls X hl
      rw [fX2_countRows_10] at hf
      refine lv_iload hx hb dX2_countRows_10 (lv_at hl 4 rfl) ?_
      refine lv_aload_n hx hb dX2_countRows_12 rfl (lv_at hl 1 rfl) ?_
      refine xb hf (fun v2 hv hf => ?_)
      refine xc_V1 (rest := [.int y4]) ⟨hx, hb, hml, hown, hts⟩ (mX4_size ht1 hv) (cwV 0 hts gX2_countRows_X4_size rfl rfl rfl hqX4_size ⟨Nat.le_of_ble_eq_true rfl, Nat.le_of_ble_eq_true rfl⟩) X (va_recv X.1 X.2.1 (ci := 0) (q0 := t1) rfl (wlC_t ht1)) rfl hl.1 rfl (Nat.le_of_ble_eq_true rfl) dX2_countRows_13 ⟨Nat.zero_le _, Nat.zero_le _⟩ (fun H locs X => ?_)
      refine xr_icmp_gt (tgt := 109) hx hb dX2_countRows_16 rfl hf (fun hf => ?_) (fun hf => ?_)
      · exact w109 t1 ht1 ru hf _ _ _ X (lv_sub hl [0, 1] rfl)
      · refine lv_iload hx hb dX2_countRows_19 (lv_at hl 4 rfl) ?_
        refine lv_aload_n hx hb dX2_countRows_21 rfl (lv_at hl 0 rfl) ?_
        refine xg_f hx hb hts hown X h2 19 wlC_19 rfl 0 (by decide) (by decide +kernel) (v := .ref (ad 20)) rfl dX2_countRows_22 ?_
        refine va_alen hx hb X.1 X.2.1 20 2 wlC_20 rfl (v := (61 : Int32)) rfl dX2_countRows_25 ?_
        refine xr_icmp_ge (tgt := 109) hx hb dX2_countRows_26 rfl hf (fun hf => ?_) (fun hf => ?_)
        · exact w109 t1 ht1 ru hf _ _ _ X (lv_sub hl [0, 1] rfl)
        · refine lv_lconst (v := (0 : Int64)) hx hb dX2_countRows_29 rfl ?_
          refine lv_lstore (lv' := [(5, .long (0 : Int64)), (0, .ref (ad 19)), (1, .ref (ad t1)), (2, .ref (ad 15)), (3, .int y3), (4, .int y4)]) hx hb dX2_countRows_30 hl (by decide) rfl (fun ls hl => ?_)
          refine lv_iconst (v := (0 : Int32)) hx hb dX2_countRows_32 rfl ?_
          refine lv_istore (lv' := [(7, .int (0 : Int32)), (5, .long (0 : Int64)), (0, .ref (ad 19)), (1, .ref (ad t1)), (2, .ref (ad 15)), (3, .int y3), (4, .int y4)]) hx hb dX2_countRows_33 hl (by decide) rfl (fun ls hl => ?_)
          exact w35 t1 y3 y4 ht1 _ ih fu (0 : Int64) (0 : Int32) ru hf _ _ _ X (lv_sub hl [2, 3, 4, 5, 6, 1, 0] rfl)
  rw [fX2_countRows] at hf
  refine lv_aload_n hx hb dX2_countRows_0 rfl (lv_at hl 0 rfl) ?_
  refine xg_f hx hb hts hown X h2 19 wlC_19 rfl 0 (by decide) (by decide +kernel) (v := .ref (ad 20)) rfl dX2_countRows_1 ?_
  refine lv_iconst (v := (0 : Int32)) hx hb dX2_countRows_4 rfl ?_
  refine lv_lconst (v := (1 : Int64)) hx hb dX2_countRows_5 rfl ?_
  refine xa_last hx hb X 20 wlC_20 wlC_s_ru dX2_countRows_6 hf (fun g1 H locs hf X => ?_)
  refine lv_iconst (v := (1 : Int32)) hx hb dX2_countRows_7 rfl ?_
  refine lv_istore (lv' := [(4, .int (1 : Int32)), (0, .ref (ad 19)), (1, .ref (ad j1)), (2, .ref (ad 15)), (3, .int x3)]) hx hb dX2_countRows_8 hl (by decide) rfl (fun ls hl => ?_)
  exact w10 j1 x3 hj1 fu (1 : Int32) g1 hf _ _ _ X (lv_sub hl [1, 2, 3, 4, 0] rfl)
set_option maxRecDepth 100000 in
set_option maxHeartbeats 4000000 in
theorem mX2_forgetRemainders {l : Launch} {dd : va_G} {cy : Nat → ClassId} {ad : Nat → Nat} {A : Nat → Prop} {fu : Nat} {ts : Nat → Int32} {tc : Nat → Nat → Int32} {rk : Nat → Int32} {pl : Nat → Int32} {ru : Nat → Int64} {sl : Nat → Int32} {bg : Nat → Int32} {kn : Nat → Int64} {rm : Int32} {ol : Nat → Int64} {od : Nat → UInt64} {kno : Nat → Int64} {rmo : Int32} (hf : fX2_forgetRemainders fu kn rm = some (kno, rmo)) : Met l yX2_forgetRemainders wsX2_forgetRemainders { frames := 0, cells := 0, slots := 0, locals := 0 } (va_Pc [.ref (ad 19)] (IW dd cy A (wlC ad cy ts tc rk pl ru sl bg kn rm ol od))) (QX dd cy A none (wlC ad cy ts tc rk pl ru sl bg kno rmo ol od)) 0 0 A := by
  refine Met.ofW (cc := cX2_forgetRemainders) (maxL := 2) (ret := none) (by decide) rfl ?_
  intro p e s m args below meth c s₁ B hml hv
  obtain ⟨hav, hI⟩ := hv
  have hx := B.exec
  have hb := B.bytes
  have hr := B.returns
  have hts := atoms_spec (ws := wsX2_forgetRemainders) B.pre
  have hown : s.vm.findClass RX2 = some m.cls := findClass_of_methodNamed B.named
  have hlocks := B.notSynchronized
  have X := XW.of hI
  have h2 : ∀ w ∈ wsX20, w ∈ wsX2_forgetRemainders := by decide +kernel
  refine xe_in hav (Nat.le_of_ble_eq_true rfl) rfl (fun ls hl => ?_)
  have w7 : ∀ (n : Nat) (y1 : Int32) (kn : Nat → Int64) (rm : Int32), fX2_forgetRemainders_7 fu n y1 kn rm = some (kno, rmo) → ∀ (H : Heap) (locs : List Loc) (ls : Array Slot), XW dd cy A s (wlC ad cy ts tc rk pl ru sl bg kn rm ol od) H locs → lv_has ls 2 [(0, .ref (ad 19)), (1, .int y1)] → W p l e (headSpec wsX2_forgetRemainders { frames := 0, cells := 0, slots := 0, locals := 0 }).room s m args below meth c H locs 0 0 (MQ below (QX dd cy A none (wlC ad cy ts tc rk pl ru sl bg kno rmo ol od)) args s 0 0 A) (F0 m 7 ls []) := by
    intro n
    induction n with
    | zero => intro y1 kn rm hf; exact absurd hf (by simp [fX2_forgetRemainders_7])
    | succ n ih =>
      intro y1 kn rm hf H locs ls X hl
      rw [fX2_forgetRemainders_7] at hf
      refine lv_iload_n hx hb dX2_forgetRemainders_7 rfl (lv_at hl 1 rfl) ?_
      refine lv_bipush (v := (6 : Int32)) hx hb dX2_forgetRemainders_8 rfl ?_
      refine xr_icmp_ge (tgt := 26) hx hb dX2_forgetRemainders_10 rfl hf (fun hf => ?_) (fun hf => ?_)
      · cases hf
        exact xe_v hx hb hr hlocks X dX2_forgetRemainders_26
      · refine lv_aload_n hx hb dX2_forgetRemainders_13 rfl (lv_at hl 0 rfl) ?_
        refine xg_f hx hb hts hown X h2 19 wlC_19 rfl 3 (by decide) (by decide +kernel) (v := .ref (ad 23)) rfl dX2_forgetRemainders_14 ?_
        refine lv_iload_n hx hb dX2_forgetRemainders_17 rfl (lv_at hl 1 rfl) ?_
        refine lv_lconst (v := (0 : Int64)) hx hb dX2_forgetRemainders_18 rfl ?_
        refine xa_last hx hb X 23 wlC_23 wlC_s_kn dX2_forgetRemainders_19 hf (fun g1 H locs hf X => ?_)
        refine lv_iinc (v := (y1 + 1)) (lv' := [(1, .int (y1 + 1)), (0, .ref (ad 19))]) hx hb dX2_forgetRemainders_20 hl (k := 1) rfl ii_1 (by decide) rfl (fun ls hl => ?_)
        refine lv_goto (tgt := 7) hx hb dX2_forgetRemainders_23 rfl ?_
        exact ih (y1 + 1) g1 rm hf _ _ _ X (lv_sub hl [1, 0] rfl)
  rw [fX2_forgetRemainders] at hf
  refine lv_aload_n hx hb dX2_forgetRemainders_0 rfl (lv_at hl 0 rfl) ?_
  refine lv_iconst (v := (0 : Int32)) hx hb dX2_forgetRemainders_1 rfl ?_
  refine xp_f hx hb hts hown X h2 tyX2_ok nmX2 19 wlC_19 rfl 4 (by decide) rfl (by decide +kernel) (by decide +kernel) (Nat.le_of_ble_eq_true rfl) (wlC_s_rm (0 : Int32)) dX2_forgetRemainders_2 (fun H locs X => ?_)
  refine lv_iconst (v := (0 : Int32)) hx hb dX2_forgetRemainders_5 rfl ?_
  refine lv_istore_n (lv' := [(1, .int (0 : Int32)), (0, .ref (ad 19))]) hx hb dX2_forgetRemainders_6 rfl hl (by decide) rfl (fun ls hl => ?_)
  exact w7 fu (0 : Int32) kn (0 : Int32) hf _ _ _ X (lv_sub hl [1, 0] rfl)
set_option maxRecDepth 100000 in
set_option maxHeartbeats 4000000 in
theorem mX2_keepRemainder {l : Launch} {dd : va_G} {cy : Nat → ClassId} {ad : Nat → Nat} {A : Nat → Prop} {ts : Nat → Int32} {tc : Nat → Nat → Int32} {rk : Nat → Int32} {pl : Nat → Int32} {ru : Nat → Int64} {sl : Nat → Int32} {bg : Nat → Int32} {kn : Nat → Int64} {rm : Int32} {ol : Nat → Int64} {od : Nat → UInt64} {x1 : Int32} {x2 : Int32} {slo : Nat → Int32} {bgo : Nat → Int32} {kno : Nat → Int64} {rmo : Int32} (hf : fX2_keepRemainder sl bg kn rm x1 x2 = some (slo, bgo, kno, rmo)) : Met l yX2_keepRemainder wsX2_keepRemainder { frames := 0, cells := 0, slots := 0, locals := 0 } (va_Pc [.ref (ad 19), .int x1, .int x2] (IW dd cy A (wlC ad cy ts tc rk pl ru sl bg kn rm ol od))) (QX dd cy A none (wlC ad cy ts tc rk pl ru slo bgo kno rmo ol od)) 0 0 A := by
  refine Met.ofW (cc := cX2_keepRemainder) (maxL := 6) (ret := none) (by decide) rfl ?_
  intro p e s m args below meth c s₁ B hml hv
  obtain ⟨hav, hI⟩ := hv
  have hx := B.exec
  have hb := B.bytes
  have hr := B.returns
  have hts := atoms_spec (ws := wsX2_keepRemainder) B.pre
  have hown : s.vm.findClass RX2 = some m.cls := findClass_of_methodNamed B.named
  have hlocks := B.notSynchronized
  have X := XW.of hI
  have h2 : ∀ w ∈ wsX20, w ∈ wsX2_keepRemainder := by decide +kernel
  refine xe_in hav (Nat.le_of_ble_eq_true rfl) rfl (fun ls hl => ?_)
  have w32 : ∀ (y1 : Int32) (y2 : Int32) (y3 : Int64) (s0 : Int32) (sl : Nat → Int32) (bg : Nat → Int32) (kn : Nat → Int64) (rm : Int32), fX2_keepRemainder_32 y1 y2 y3 s0 sl bg kn rm = some (slo, bgo, kno, rmo) → ∀ (H : Heap) (locs : List Loc) (ls : Array Slot), XW dd cy A s (wlC ad cy ts tc rk pl ru sl bg kn rm ol od) H locs → lv_has ls 6 [(0, .ref (ad 19)), (1, .int y1), (2, .int y2), (3, .long y3)] → W p l e (headSpec wsX2_keepRemainder { frames := 0, cells := 0, slots := 0, locals := 0 }).room s m args below meth c H locs 0 0 (MQ below (QX dd cy A none (wlC ad cy ts tc rk pl ru slo bgo kno rmo ol od)) args s 0 0 A) (F0 m 32 ls [.int s0]) := by
    intro y1 y2 y3 s0 sl bg kn rm hf H locs ls X hl
    rw [fX2_keepRemainder_32] at hf
    refine lv_istore (lv' := [(5, .int s0), (0, .ref (ad 19)), (1, .int y1), (2, .int y2), (3, .long y3)]) hx hb dX2_keepRemainder_32 hl (by decide) rfl (fun ls hl => ?_)
    refine lv_iload hx hb dX2_keepRemainder_34 (lv_at hl 0 rfl) ?_
    refine xr_if_eq (tgt := 89) hx hb dX2_keepRemainder_36 rfl hf (fun hf => ?_) (fun hf => ?_)
    · cases hf
      exact xe_v hx hb hr hlocks X dX2_keepRemainder_89
    · refine lv_aload_n hx hb dX2_keepRemainder_39 rfl (lv_at hl 1 rfl) ?_
      refine xg_f hx hb hts hown X h2 19 wlC_19 rfl 4 (by decide) (by decide +kernel) (v := .int rm) rfl dX2_keepRemainder_40 ?_
      refine lv_sipush (v := (360 : Int32)) hx hb dX2_keepRemainder_43 rfl ?_
      refine xr_icmp_ge (tgt := 89) hx hb dX2_keepRemainder_46 rfl hf (fun hf => ?_) (fun hf => ?_)
      · cases hf
        exact xe_v hx hb hr hlocks X dX2_keepRemainder_89
      · refine lv_aload_n hx hb dX2_keepRemainder_49 rfl (lv_at hl 1 rfl) ?_
        refine xg_f hx hb hts hown X h2 19 wlC_19 rfl 3 (by decide) (by decide +kernel) (v := .ref (ad 23)) rfl dX2_keepRemainder_50 ?_
        refine lv_iload_n hx hb dX2_keepRemainder_53 rfl (lv_at hl 2 rfl) ?_
        refine lv_dup2_11 hx hb dX2_keepRemainder_54 rfl rfl ?_
        refine xa_lald hx hb X 23 wlC_23 dX2_keepRemainder_55 hf (fun v1 hf => ?_)
        refine lv_lload_n hx hb dX2_keepRemainder_56 rfl (lv_at hl 4 rfl) ?_
        refine lv_lor hx hb dX2_keepRemainder_57 ?_
        refine xa_last hx hb X 23 wlC_23 wlC_s_kn dX2_keepRemainder_58 hf (fun g2 H locs hf X => ?_)
        refine lv_aload_n hx hb dX2_keepRemainder_59 rfl (lv_at hl 1 rfl) ?_
        refine xg_f hx hb hts hown X h2 19 wlC_19 rfl 1 (by decide) (by decide +kernel) (v := .ref (ad 21)) rfl dX2_keepRemainder_60 ?_
        refine lv_aload_n hx hb dX2_keepRemainder_63 rfl (lv_at hl 1 rfl) ?_
        refine xg_f hx hb hts hown X h2 19 wlC_19 rfl 4 (by decide) (by decide +kernel) (v := .int rm) rfl dX2_keepRemainder_64 ?_
        refine lv_iload_n hx hb dX2_keepRemainder_67 rfl (lv_at hl 2 rfl) ?_
        refine xa_iast hx hb X 21 wlC_21 wlC_s_sl dX2_keepRemainder_68 hf (fun g3 H locs hf X => ?_)
        refine lv_aload_n hx hb dX2_keepRemainder_69 rfl (lv_at hl 1 rfl) ?_
        refine xg_f hx hb hts hown X h2 19 wlC_19 rfl 2 (by decide) (by decide +kernel) (v := .ref (ad 22)) rfl dX2_keepRemainder_70 ?_
        refine lv_aload_n hx hb dX2_keepRemainder_73 rfl (lv_at hl 1 rfl) ?_
        refine xg_f hx hb hts hown X h2 19 wlC_19 rfl 4 (by decide) (by decide +kernel) (v := .int rm) rfl dX2_keepRemainder_74 ?_
        refine lv_iload_n hx hb dX2_keepRemainder_77 rfl (lv_at hl 3 rfl) ?_
        refine xa_iast hx hb X 22 wlC_22 wlC_s_bg dX2_keepRemainder_78 hf (fun g4 H locs hf X => ?_)
        refine lv_aload_n hx hb dX2_keepRemainder_79 rfl (lv_at hl 1 rfl) ?_
        refine lv_dup hx hb dX2_keepRemainder_80 rfl ?_
        refine xg_f hx hb hts hown X h2 19 wlC_19 rfl 4 (by decide) (by decide +kernel) (v := .int rm) rfl dX2_keepRemainder_81 ?_
        refine lv_iconst (v := (1 : Int32)) hx hb dX2_keepRemainder_84 rfl ?_
        refine lv_iadd hx hb dX2_keepRemainder_85 ?_
        refine xp_f hx hb hts hown X h2 tyX2_ok nmX2 19 wlC_19 rfl 4 (by decide) rfl (by decide +kernel) (by decide +kernel) (Nat.le_of_ble_eq_true rfl) (wlC_s_rm (rm + (1 : Int32))) dX2_keepRemainder_86 (fun H locs X => ?_)
        cases hf
        exact xe_v hx hb hr hlocks X dX2_keepRemainder_89
  have w31 : ∀ (y1 : Int32) (y2 : Int32) (y3 : Int64) (sl : Nat → Int32) (bg : Nat → Int32) (kn : Nat → Int64) (rm : Int32), fX2_keepRemainder_31 y1 y2 y3 sl bg kn rm = some (slo, bgo, kno, rmo) → ∀ (H : Heap) (locs : List Loc) (ls : Array Slot), XW dd cy A s (wlC ad cy ts tc rk pl ru sl bg kn rm ol od) H locs → lv_has ls 6 [(0, .ref (ad 19)), (1, .int y1), (2, .int y2), (3, .long y3)] → W p l e (headSpec wsX2_keepRemainder { frames := 0, cells := 0, slots := 0, locals := 0 }).room s m args below meth c H locs 0 0 (MQ below (QX dd cy A none (wlC ad cy ts tc rk pl ru slo bgo kno rmo ol od)) args s 0 0 A) (F0 m 31 ls []) := by
    intro y1 y2 y3 sl bg kn rm hf H locs ls X hl
    rw [fX2_keepRemainder_31] at hf
    refine lv_iconst (v := (0 : Int32)) hx hb dX2_keepRemainder_31 rfl ?_
    exact w32 y1 y2 y3 (0 : Int32) sl bg kn rm hf _ _ _ X (lv_sub hl [0, 1, 2, 3] rfl)
  rw [fX2_keepRemainder] at hf
  refine lv_lconst (v := (1 : Int64)) hx hb dX2_keepRemainder_0 rfl ?_
  refine lv_iload_n hx hb dX2_keepRemainder_1 rfl (lv_at hl 2 rfl) ?_
  refine lv_lshl (v := ((1 : Int64) <<< (x2.toInt64 &&& 63))) hx hb dX2_keepRemainder_2 rfl ?_
  refine lv_lstore_n (lv' := [(3, .long ((1 : Int64) <<< (x2.toInt64 &&& 63))), (0, .ref (ad 19)), (1, .int x1), (2, .int x2)]) hx hb dX2_keepRemainder_3 rfl hl (by decide) rfl (fun ls hl => ?_)
  refine lv_iload_n hx hb dX2_keepRemainder_4 rfl (lv_at hl 2 rfl) ?_
  refine xr_if_lt (tgt := 31) hx hb dX2_keepRemainder_5 rfl hf (fun hf => ?_) (fun hf => ?_)
  · exact w31 x1 x2 ((1 : Int64) <<< (x2.toInt64 &&& 63)) sl bg kn rm hf _ _ _ X (lv_sub hl [1, 2, 3, 0] rfl)
  · refine lv_iload_n hx hb dX2_keepRemainder_8 rfl (lv_at hl 2 rfl) ?_
    refine lv_bipush (v := (6 : Int32)) hx hb dX2_keepRemainder_9 rfl ?_
    refine xr_icmp_ge (tgt := 31) hx hb dX2_keepRemainder_11 rfl hf (fun hf => ?_) (fun hf => ?_)
    · exact w31 x1 x2 ((1 : Int64) <<< (x2.toInt64 &&& 63)) sl bg kn rm hf _ _ _ X (lv_sub hl [1, 2, 3, 0] rfl)
    · refine lv_aload_n hx hb dX2_keepRemainder_14 rfl (lv_at hl 1 rfl) ?_
      refine xg_f hx hb hts hown X h2 19 wlC_19 rfl 3 (by decide) (by decide +kernel) (v := .ref (ad 23)) rfl dX2_keepRemainder_15 ?_
      refine lv_iload_n hx hb dX2_keepRemainder_18 rfl (lv_at hl 2 rfl) ?_
      refine xa_lald hx hb X 23 wlC_23 dX2_keepRemainder_19 hf (fun v5 hf => ?_)
      refine lv_lload_n hx hb dX2_keepRemainder_20 rfl (lv_at hl 0 rfl) ?_
      refine lv_land hx hb dX2_keepRemainder_21 ?_
      refine lv_lconst (v := (0 : Int64)) hx hb dX2_keepRemainder_22 rfl ?_
      refine W.lcmp hx hb dX2_keepRemainder_23 ?_
      refine xr_if_ne (tgt := 31) hx hb dX2_keepRemainder_24 rfl hf (fun hf => ?_) (fun hf => ?_)
      · exact w31 x1 x2 ((1 : Int64) <<< (x2.toInt64 &&& 63)) sl bg kn rm hf _ _ _ X (lv_sub hl [1, 2, 3, 0] rfl)
      · refine lv_iconst (v := (1 : Int32)) hx hb dX2_keepRemainder_27 rfl ?_
        refine lv_goto (tgt := 32) hx hb dX2_keepRemainder_28 rfl ?_
        exact w32 x1 x2 ((1 : Int64) <<< (x2.toInt64 &&& 63)) (1 : Int32) sl bg kn rm hf _ _ _ X (lv_sub hl [1, 2, 3, 0] rfl)
set_option maxRecDepth 100000 in
set_option maxHeartbeats 4000000 in
theorem mX2_isMatchedBy {l : Launch} {dd : va_G} {cy : Nat → ClassId} {ad : Nat → Nat} {A : Nat → Prop} {fu : Nat} {ts : Nat → Int32} {tc : Nat → Nat → Int32} {rk : Nat → Int32} {pl : Nat → Int32} {ru : Nat → Int64} {sl : Nat → Int32} {bg : Nat → Int32} {kn : Nat → Int64} {rm : Int32} {ol : Nat → Int64} {od : Nat → UInt64} {x2 : Int32} {x3 : Int32} {x4 : Int32} {x5 : Int32} {rv : Int32} {slo : Nat → Int32} {bgo : Nat → Int32} {kno : Nat → Int64} {rmo : Int32} (hf : fX2_isMatchedBy fu ts tc sl bg kn rm x2 x3 x4 x5 = some (rv, slo, bgo, kno, rmo)) : Met l yX2_isMatchedBy wsX2_isMatchedBy { frames := 2, cells := 0, slots := 0, locals := 57 } (va_Pc [.ref (ad 19), .ref (ad 15), .int x2, .int x3, .int x4, .int x5] (IW dd cy A (wlC ad cy ts tc rk pl ru sl bg kn rm ol od))) (QX dd cy A (some (.int rv)) (wlC ad cy ts tc rk pl ru slo bgo kno rmo ol od)) 0 0 A := by
  refine Met.ofW (cc := cX2_isMatchedBy) (maxL := 9) (ret := some .boolean) (by decide) rfl ?_
  intro p e s m args below meth c s₁ B hml hv
  obtain ⟨hav, hI⟩ := hv
  have hx := B.exec
  have hb := B.bytes
  have hr := B.returns
  have hts := atoms_spec (ws := wsX2_isMatchedBy) B.pre
  have hown : s.vm.findClass RX2 = some m.cls := findClass_of_methodNamed B.named
  have hlocks := B.notSynchronized
  have X := XW.of hI
  refine xe_in hav (Nat.le_of_ble_eq_true rfl) rfl (fun ls hl => ?_)
  have w73 : ∀ (y3 : Int32) (y4 : Int32) (y5 : Int32) (y6 : Int32) (y7 : Int32) (y8 : Int32) (sl : Nat → Int32) (bg : Nat → Int32) (kn : Nat → Int64) (rm : Int32), fX2_isMatchedBy_73 fu ts tc y3 y4 y5 y6 y7 y8 sl bg kn rm = some (rv, slo, bgo, kno, rmo) → ∀ (H : Heap) (locs : List Loc) (ls : Array Slot), XW dd cy A s (wlC ad cy ts tc rk pl ru sl bg kn rm ol od) H locs → lv_has ls 9 [(0, .ref (ad 19)), (3, .int y3), (4, .int y4), (5, .int y5), (6, .int y6), (7, .int y7), (8, .int y8)] → W p l e (headSpec wsX2_isMatchedBy { frames := 2, cells := 0, slots := 0, locals := 57 }).room s m args below meth c H locs 0 0 (MQ below (QX dd cy A (some (.int rv)) (wlC ad cy ts tc rk pl ru slo bgo kno rmo ol od)) args s 0 0 A) (F0 m 73 ls []) := by
    intro y3 y4 y5 y6 y7 y8 sl bg kn rm hf H locs ls X hl
    rw [fX2_isMatchedBy_73] at hf
    refine lv_iload hx hb dX2_isMatchedBy_73 (lv_at hl 6 rfl) ?_
    refine lv_iload hx hb dX2_isMatchedBy_75 (lv_at hl 5 rfl) ?_
    refine xr_icmp_ne (tgt := 93) hx hb dX2_isMatchedBy_77 rfl hf (fun hf => ?_) (fun hf => ?_)
    · refine lv_iload hx hb dX2_isMatchedBy_93 (lv_at hl 6 rfl) ?_
      refine lv_iload hx hb dX2_isMatchedBy_95 (lv_at hl 4 rfl) ?_
      refine xr_icmp_ne (tgt := 108) hx hb dX2_isMatchedBy_97 rfl hf (fun hf => ?_) (fun hf => ?_)
      · refine lv_iconst (v := (0 : Int32)) hx hb dX2_isMatchedBy_108 rfl ?_
        cases hf
        exact xe_z hx hb hr hlocks X rfl dX2_isMatchedBy_109
      · refine lv_aload_n hx hb dX2_isMatchedBy_100 rfl (lv_at hl 0 rfl) ?_
        refine lv_iload hx hb dX2_isMatchedBy_101 (lv_at hl 3 rfl) ?_
        refine lv_iload hx hb dX2_isMatchedBy_103 (lv_at hl 4 rfl) ?_
        refine xb hf (fun v9 hv hf => ?_)
        refine xc_V0 (rest := []) ⟨hx, hb, hml, hown, hts⟩ (mX2_keepRemainder hv) (cwV 2 hts gX2_isMatchedBy_X2_keepRemainder rfl rfl rfl hqX2_keepRemainder ⟨Nat.le_of_ble_eq_true rfl, Nat.le_of_ble_eq_true rfl⟩) X (va_recv X.1 X.2.1 (ci := 3) (q0 := 19) rfl wlC_19) rfl hl.1 rfl (Nat.le_of_ble_eq_true rfl) dX2_isMatchedBy_105 ⟨Nat.zero_le _, Nat.zero_le _⟩ (fun H locs X => ?_)
        refine lv_iconst (v := (0 : Int32)) hx hb dX2_isMatchedBy_108 rfl ?_
        cases hf
        exact xe_z hx hb hr hlocks X rfl dX2_isMatchedBy_109
    · refine lv_aload_n hx hb dX2_isMatchedBy_80 rfl (lv_at hl 0 rfl) ?_
      refine lv_iload_n hx hb dX2_isMatchedBy_81 rfl (lv_at hl 1 rfl) ?_
      refine lv_iload hx hb dX2_isMatchedBy_82 (lv_at hl 2 rfl) ?_
      refine lv_iload hx hb dX2_isMatchedBy_84 (lv_at hl 5 rfl) ?_
      refine lv_iadd hx hb dX2_isMatchedBy_86 ?_
      refine xb hf (fun v10 hv hf => ?_)
      refine xc_V0 (rest := []) ⟨hx, hb, hml, hown, hts⟩ (mX2_keepRemainder hv) (cwV 2 hts gX2_isMatchedBy_X2_keepRemainder rfl rfl rfl hqX2_keepRemainder ⟨Nat.le_of_ble_eq_true rfl, Nat.le_of_ble_eq_true rfl⟩) X (va_recv X.1 X.2.1 (ci := 3) (q0 := 19) rfl wlC_19) rfl hl.1 rfl (Nat.le_of_ble_eq_true rfl) dX2_isMatchedBy_87 ⟨Nat.zero_le _, Nat.zero_le _⟩ (fun H locs X => ?_)
      refine lv_goto (tgt := 108) hx hb dX2_isMatchedBy_90 rfl ?_
      refine lv_iconst (v := (0 : Int32)) hx hb dX2_isMatchedBy_108 rfl ?_
      cases hf
      exact xe_z hx hb hr hlocks X rfl dX2_isMatchedBy_109
  rw [fX2_isMatchedBy] at hf
  refine lv_iload_n hx hb dX2_isMatchedBy_0 rfl (lv_at hl 3 rfl) ?_
  refine xr_if_lt (tgt := 20) hx hb dX2_isMatchedBy_1 rfl hf (fun hf => ?_) (fun hf => ?_)
  · refine lv_iconst (v := (0 : Int32)) hx hb dX2_isMatchedBy_20 rfl ?_
    cases hf
    exact xe_z hx hb hr hlocks X rfl dX2_isMatchedBy_21
  · refine lv_iload_n hx hb dX2_isMatchedBy_4 rfl (lv_at hl 3 rfl) ?_
    refine lv_bipush (v := (6 : Int32)) hx hb dX2_isMatchedBy_5 rfl ?_
    refine xr_icmp_ge (tgt := 20) hx hb dX2_isMatchedBy_7 rfl hf (fun hf => ?_) (fun hf => ?_)
    · refine lv_iconst (v := (0 : Int32)) hx hb dX2_isMatchedBy_20 rfl ?_
      cases hf
      exact xe_z hx hb hr hlocks X rfl dX2_isMatchedBy_21
    · refine lv_aload_n hx hb dX2_isMatchedBy_10 rfl (lv_at hl 1 rfl) ?_
      refine lv_iload_n hx hb dX2_isMatchedBy_11 rfl (lv_at hl 2 rfl) ?_
      refine lv_iload hx hb dX2_isMatchedBy_12 (lv_at hl 5 rfl) ?_
      refine xb hf (fun v1 hv hf => ?_)
      refine xc_S1 (rest := []) ⟨hx, hb, hml, hown, hts⟩ (mX2_isUsed hv) (va_cwS 3 hts gX2_isMatchedBy_X2_isUsed rfl rfl rfl hqX2_isUsed ⟨Nat.le_of_ble_eq_true rfl, Nat.le_of_ble_eq_true rfl⟩) X rfl hl.1 rfl (Nat.le_of_ble_eq_true rfl) dX2_isMatchedBy_14 ⟨Nat.zero_le _, Nat.zero_le _⟩ (fun H locs X => ?_)
      refine xr_if_ne (tgt := 22) hx hb dX2_isMatchedBy_17 rfl hf (fun hf => ?_) (fun hf => ?_)
      · refine lv_aload_n hx hb dX2_isMatchedBy_22 rfl (lv_at hl 1 rfl) ?_
        refine lv_iload_n hx hb dX2_isMatchedBy_23 rfl (lv_at hl 3 rfl) ?_
        refine xa_text hx hb X wlC_15 dX2_isMatchedBy_24 hf (fun a2 ha2 hf => ?_)
        refine xb hf (fun v3 hv hf => ?_)
        refine xc_V1 (rest := []) ⟨hx, hb, hml, hown, hts⟩ (mX4_size ha2 hv) (cwV 0 hts gX2_isMatchedBy_X4_size rfl rfl rfl hqX4_size ⟨Nat.le_of_ble_eq_true rfl, Nat.le_of_ble_eq_true rfl⟩) X (va_recv X.1 X.2.1 (ci := 0) (q0 := a2) rfl (wlC_t ha2)) rfl hl.1 rfl (Nat.le_of_ble_eq_true rfl) dX2_isMatchedBy_25 ⟨Nat.zero_le _, Nat.zero_le _⟩ (fun H locs X => ?_)
        refine lv_iload hx hb dX2_isMatchedBy_28 (lv_at hl 4 rfl) ?_
        refine lv_isub hx hb dX2_isMatchedBy_30 ?_
        refine lv_istore (lv' := [(6, .int (v3 - x4)), (0, .ref (ad 19)), (1, .ref (ad 15)), (2, .int x2), (3, .int x3), (4, .int x4), (5, .int x5)]) hx hb dX2_isMatchedBy_31 hl (by decide) rfl (fun ls hl => ?_)
        refine lv_aload_n hx hb dX2_isMatchedBy_33 rfl (lv_at hl 2 rfl) ?_
        refine lv_iload hx hb dX2_isMatchedBy_34 (lv_at hl 6 rfl) ?_
        refine xa_text hx hb X wlC_15 dX2_isMatchedBy_36 hf (fun a4 ha4 hf => ?_)
        refine xb hf (fun v5 hv hf => ?_)
        refine xc_V1 (rest := []) ⟨hx, hb, hml, hown, hts⟩ (mX4_size ha4 hv) (cwV 0 hts gX2_isMatchedBy_X4_size rfl rfl rfl hqX4_size ⟨Nat.le_of_ble_eq_true rfl, Nat.le_of_ble_eq_true rfl⟩) X (va_recv X.1 X.2.1 (ci := 0) (q0 := a4) rfl (wlC_t ha4)) rfl hl.1 rfl (Nat.le_of_ble_eq_true rfl) dX2_isMatchedBy_37 ⟨Nat.zero_le _, Nat.zero_le _⟩ (fun H locs X => ?_)
        refine lv_istore (lv' := [(7, .int v5), (6, .int (v3 - x4)), (0, .ref (ad 19)), (1, .ref (ad 15)), (2, .int x2), (3, .int x3), (4, .int x4), (5, .int x5)]) hx hb dX2_isMatchedBy_40 hl (by decide) rfl (fun ls hl => ?_)
        refine lv_aload_n hx hb dX2_isMatchedBy_42 rfl (lv_at hl 3 rfl) ?_
        refine lv_iload_n hx hb dX2_isMatchedBy_43 rfl (lv_at hl 5 rfl) ?_
        refine xa_text hx hb X wlC_15 dX2_isMatchedBy_44 hf (fun a6 ha6 hf => ?_)
        refine lv_iload hx hb dX2_isMatchedBy_45 (lv_at hl 6 rfl) ?_
        refine lv_aload_n hx hb dX2_isMatchedBy_47 rfl (lv_at hl 3 rfl) ?_
        refine lv_iload hx hb dX2_isMatchedBy_48 (lv_at hl 7 rfl) ?_
        refine xa_text hx hb X wlC_15 dX2_isMatchedBy_50 hf (fun a7 ha7 hf => ?_)
        refine lv_iconst (v := (0 : Int32)) hx hb dX2_isMatchedBy_51 rfl ?_
        refine xb hf (fun v8 hv hf => ?_)
        refine xc_V1 (rest := []) ⟨hx, hb, hml, hown, hts⟩ (mX4_alike ha6 ha7 hv) (cwV 3 hts gX2_isMatchedBy_X4_alike rfl rfl rfl hqX4_alike ⟨Nat.le_of_ble_eq_true rfl, Nat.le_of_ble_eq_true rfl⟩) X (va_recv X.1 X.2.1 (ci := 0) (q0 := a6) rfl (wlC_t ha6)) rfl hl.1 rfl (Nat.le_of_ble_eq_true rfl) dX2_isMatchedBy_52 ⟨Nat.zero_le _, Nat.zero_le _⟩ (fun H locs X => ?_)
        refine lv_istore (lv' := [(8, .int v8), (7, .int v5), (6, .int (v3 - x4)), (0, .ref (ad 19)), (1, .ref (ad 15)), (2, .int x2), (3, .int x3), (4, .int x4), (5, .int x5)]) hx hb dX2_isMatchedBy_55 hl (by decide) rfl (fun ls hl => ?_)
        refine lv_iload hx hb dX2_isMatchedBy_57 (lv_at hl 0 rfl) ?_
        refine lv_iload hx hb dX2_isMatchedBy_59 (lv_at hl 2 rfl) ?_
        refine xr_icmp_ne (tgt := 73) hx hb dX2_isMatchedBy_61 rfl hf (fun hf => ?_) (fun hf => ?_)
        · exact w73 x3 x4 x5 (v3 - x4) v5 v8 sl bg kn rm hf _ _ _ X (lv_sub hl [3, 6, 7, 8, 2, 1, 0] rfl)
        · refine lv_iload hx hb dX2_isMatchedBy_64 (lv_at hl 0 rfl) ?_
          refine lv_iload hx hb dX2_isMatchedBy_66 (lv_at hl 1 rfl) ?_
          refine xr_icmp_ne (tgt := 73) hx hb dX2_isMatchedBy_68 rfl hf (fun hf => ?_) (fun hf => ?_)
          · exact w73 x3 x4 x5 (v3 - x4) v5 v8 sl bg kn rm hf _ _ _ X (lv_sub hl [3, 6, 7, 8, 2, 1, 0] rfl)
          · refine lv_iconst (v := (1 : Int32)) hx hb dX2_isMatchedBy_71 rfl ?_
            cases hf
            exact xe_z hx hb hr hlocks X rfl dX2_isMatchedBy_72
      · refine lv_iconst (v := (0 : Int32)) hx hb dX2_isMatchedBy_20 rfl ?_
        cases hf
        exact xe_z hx hb hr hlocks X rfl dX2_isMatchedBy_21
set_option maxRecDepth 100000 in
set_option maxHeartbeats 4000000 in
theorem mX2_areFree {l : Launch} {dd : va_G} {cy : Nat → ClassId} {ad : Nat → Nat} {A : Nat → Prop} {fu : Nat} {ts : Nat → Int32} {tc : Nat → Nat → Int32} {rk : Nat → Int32} {pl : Nat → Int32} {ru : Nat → Int64} {sl : Nat → Int32} {bg : Nat → Int32} {kn : Nat → Int64} {rm : Int32} {ol : Nat → Int64} {od : Nat → UInt64} {x2 : Int32} {rv : Int32} {slo : Nat → Int32} {bgo : Nat → Int32} {kno : Nat → Int64} {rmo : Int32} (hf : fX2_areFree fu ts tc sl bg kn rm x2 = some (rv, slo, bgo, kno, rmo)) : Met l yX2_areFree wsX2_areFree { frames := 3, cells := 0, slots := 0, locals := 85 } (va_Pc [.ref (ad 19), .ref (ad 15), .int x2] (IW dd cy A (wlC ad cy ts tc rk pl ru sl bg kn rm ol od))) (QX dd cy A (some (.int rv)) (wlC ad cy ts tc rk pl ru slo bgo kno rmo ol od)) 0 0 A := by
  refine Met.ofW (cc := cX2_areFree) (maxL := 5) (ret := some .boolean) (by decide) rfl ?_
  intro p e s m args below meth c s₁ B hml hv
  obtain ⟨hav, hI⟩ := hv
  have hx := B.exec
  have hb := B.bytes
  have hr := B.returns
  have hts := atoms_spec (ws := wsX2_areFree) B.pre
  have hown : s.vm.findClass RX2 = some m.cls := findClass_of_methodNamed B.named
  have hlocks := B.notSynchronized
  have X := XW.of hI
  have h2 : ∀ w ∈ wsX20, w ∈ wsX2_areFree := by decide +kernel
  refine xe_in hav (Nat.le_of_ble_eq_true rfl) rfl (fun ls hl => ?_)
  have w77 : ∀ (y2 : Int32) (y3 : Int32) (k59 : Int32 → (Nat → Int32) → (Nat → Int32) → (Nat → Int64) → Int32 → Option (Int32 × (Nat → Int32) × (Nat → Int32) × (Nat → Int64) × Int32)) (hk59 : ∀ (zy3 : Int32) (zsl : Nat → Int32) (zbg : Nat → Int32) (zkn : Nat → Int64) (zrm : Int32), k59 zy3 zsl zbg zkn zrm = some (rv, slo, bgo, kno, rmo) → ∀ (H : Heap) (locs : List Loc) (ls : Array Slot), XW dd cy A s (wlC ad cy ts tc rk pl ru zsl zbg zkn zrm ol od) H locs → lv_has ls 5 [(0, .ref (ad 19)), (1, .ref (ad 15)), (2, .int y2), (3, .int zy3)] → W p l e (headSpec wsX2_areFree { frames := 3, cells := 0, slots := 0, locals := 85 }).room s m args below meth c H locs 0 0 (MQ below (QX dd cy A (some (.int rv)) (wlC ad cy ts tc rk pl ru slo bgo kno rmo ol od)) args s 0 0 A) (F0 m 59 ls [])) (n : Nat) (y4 : Int32) (sl : Nat → Int32) (bg : Nat → Int32) (kn : Nat → Int64) (rm : Int32), fX2_areFree_77 fu ts tc y2 y3 k59 n y4 sl bg kn rm = some (rv, slo, bgo, kno, rmo) → ∀ (H : Heap) (locs : List Loc) (ls : Array Slot), XW dd cy A s (wlC ad cy ts tc rk pl ru sl bg kn rm ol od) H locs → lv_has ls 5 [(0, .ref (ad 19)), (1, .ref (ad 15)), (2, .int y2), (3, .int y3), (4, .int y4)] → W p l e (headSpec wsX2_areFree { frames := 3, cells := 0, slots := 0, locals := 85 }).room s m args below meth c H locs 0 0 (MQ below (QX dd cy A (some (.int rv)) (wlC ad cy ts tc rk pl ru slo bgo kno rmo ol od)) args s 0 0 A) (F0 m 77 ls []) := by
    intro y2 y3 k59 hk59 n
    induction n with
    | zero => intro y4 sl bg kn rm hf; exact absurd hf (by simp [fX2_areFree_77])
    | succ n ih =>
      intro y4 sl bg kn rm hf H locs ls X hl
      rw [fX2_areFree_77] at hf
      refine lv_iload hx hb dX2_areFree_77 (lv_at hl 4 rfl) ?_
      refine lv_bipush (v := (6 : Int32)) hx hb dX2_areFree_79 rfl ?_
      refine xr_icmp_ge (tgt := 115) hx hb dX2_areFree_81 rfl hf (fun hf => ?_) (fun hf => ?_)
      · refine lv_iinc (v := (y3 + 1)) (lv' := [(3, .int (y3 + 1)), (0, .ref (ad 19)), (1, .ref (ad 15)), (2, .int y2), (4, .int y4)]) hx hb dX2_areFree_115 hl (k := 3) rfl ii_1 (by decide) rfl (fun ls hl => ?_)
        refine lv_goto (tgt := 59) hx hb dX2_areFree_118 rfl ?_
        exact hk59 (y3 + 1) sl bg kn rm hf _ _ _ X (lv_sub hl [1, 2, 3, 0] rfl)
      · refine lv_aload_n hx hb dX2_areFree_84 rfl (lv_at hl 0 rfl) ?_
        refine lv_aload_n hx hb dX2_areFree_85 rfl (lv_at hl 1 rfl) ?_
        refine lv_iload_n hx hb dX2_areFree_86 rfl (lv_at hl 2 rfl) ?_
        refine lv_aload_n hx hb dX2_areFree_87 rfl (lv_at hl 0 rfl) ?_
        refine xg_f hx hb hts hown X h2 19 wlC_19 rfl 1 (by decide) (by decide +kernel) (v := .ref (ad 21)) rfl dX2_areFree_88 ?_
        refine lv_iload_n hx hb dX2_areFree_91 rfl (lv_at hl 3 rfl) ?_
        refine xa_iald hx hb X 21 wlC_21 dX2_areFree_92 hf (fun v2 hf => ?_)
        refine lv_aload_n hx hb dX2_areFree_93 rfl (lv_at hl 0 rfl) ?_
        refine xg_f hx hb hts hown X h2 19 wlC_19 rfl 2 (by decide) (by decide +kernel) (v := .ref (ad 22)) rfl dX2_areFree_94 ?_
        refine lv_iload_n hx hb dX2_areFree_97 rfl (lv_at hl 3 rfl) ?_
        refine xa_iald hx hb X 22 wlC_22 dX2_areFree_98 hf (fun v3 hf => ?_)
        refine lv_iload hx hb dX2_areFree_99 (lv_at hl 4 rfl) ?_
        refine xb hf (fun v4 hv hf => ?_)
        refine xc_V1 (rest := []) ⟨hx, hb, hml, hown, hts⟩ (mX2_isMatchedBy hv) (cwV 5 hts gX2_areFree_X2_isMatchedBy rfl rfl rfl hqX2_isMatchedBy ⟨Nat.le_of_ble_eq_true rfl, Nat.le_of_ble_eq_true rfl⟩) X (va_recv X.1 X.2.1 (ci := 3) (q0 := 19) rfl wlC_19) rfl hl.1 rfl (Nat.le_of_ble_eq_true rfl) dX2_areFree_101 ⟨Nat.zero_le _, Nat.zero_le _⟩ (fun H locs X => ?_)
        refine xr_if_eq (tgt := 109) hx hb dX2_areFree_104 rfl hf (fun hf => ?_) (fun hf => ?_)
        · refine lv_iinc (v := (y4 + 1)) (lv' := [(4, .int (y4 + 1)), (0, .ref (ad 19)), (1, .ref (ad 15)), (2, .int y2), (3, .int y3)]) hx hb dX2_areFree_109 hl (k := 4) rfl ii_1 (by decide) rfl (fun ls hl => ?_)
          refine lv_goto (tgt := 77) hx hb dX2_areFree_112 rfl ?_
          exact ih (y4 + 1) v4.2.1 v4.2.2.1 v4.2.2.2.1 v4.2.2.2.2 hf _ _ _ X (lv_sub hl [1, 2, 3, 4, 0] rfl)
        · refine lv_iconst (v := (0 : Int32)) hx hb dX2_areFree_107 rfl ?_
          cases hf
          exact xe_z hx hb hr hlocks X rfl dX2_areFree_108
  have w59 : ∀ (y2 : Int32) (n : Nat) (y3 : Int32) (sl : Nat → Int32) (bg : Nat → Int32) (kn : Nat → Int64) (rm : Int32), fX2_areFree_59 fu ts tc y2 n y3 sl bg kn rm = some (rv, slo, bgo, kno, rmo) → ∀ (H : Heap) (locs : List Loc) (ls : Array Slot), XW dd cy A s (wlC ad cy ts tc rk pl ru sl bg kn rm ol od) H locs → lv_has ls 5 [(0, .ref (ad 19)), (1, .ref (ad 15)), (2, .int y2), (3, .int y3)] → W p l e (headSpec wsX2_areFree { frames := 3, cells := 0, slots := 0, locals := 85 }).room s m args below meth c H locs 0 0 (MQ below (QX dd cy A (some (.int rv)) (wlC ad cy ts tc rk pl ru slo bgo kno rmo ol od)) args s 0 0 A) (F0 m 59 ls []) := by
    intro y2 n
    induction n with
    | zero => intro y3 sl bg kn rm hf; exact absurd hf (by simp [fX2_areFree_59])
    | succ n ih =>
      intro y3 sl bg kn rm hf H locs ls X hl
      rw [fX2_areFree_59] at hf
      refine lv_iload_n hx hb dX2_areFree_59 rfl (lv_at hl 3 rfl) ?_
      refine lv_aload_n hx hb dX2_areFree_60 rfl (lv_at hl 0 rfl) ?_
      refine xg_f hx hb hts hown X h2 19 wlC_19 rfl 4 (by decide) (by decide +kernel) (v := .int rm) rfl dX2_areFree_61 ?_
      refine xr_icmp_ge (tgt := 121) hx hb dX2_areFree_64 rfl hf (fun hf => ?_) (fun hf => ?_)
      · refine lv_iconst (v := (1 : Int32)) hx hb dX2_areFree_121 rfl ?_
        cases hf
        exact xe_z hx hb hr hlocks X rfl dX2_areFree_122
      · refine lv_iload_n hx hb dX2_areFree_67 rfl (lv_at hl 3 rfl) ?_
        refine lv_sipush (v := (360 : Int32)) hx hb dX2_areFree_68 rfl ?_
        refine xr_icmp_ge (tgt := 121) hx hb dX2_areFree_71 rfl hf (fun hf => ?_) (fun hf => ?_)
        · refine lv_iconst (v := (1 : Int32)) hx hb dX2_areFree_121 rfl ?_
          cases hf
          exact xe_z hx hb hr hlocks X rfl dX2_areFree_122
        · refine lv_iconst (v := (0 : Int32)) hx hb dX2_areFree_74 rfl ?_
          refine lv_istore (lv' := [(4, .int (0 : Int32)), (0, .ref (ad 19)), (1, .ref (ad 15)), (2, .int y2), (3, .int y3)]) hx hb dX2_areFree_75 hl (by decide) rfl (fun ls hl => ?_)
          exact w77 y2 y3 _ ih fu (0 : Int32) sl bg kn rm hf _ _ _ X (lv_sub hl [1, 2, 3, 4, 0] rfl)
  have w15 : ∀ (y2 : Int32) (y3 : Int32) (k6 : Int32 → (Nat → Int32) → (Nat → Int32) → (Nat → Int64) → Int32 → Option (Int32 × (Nat → Int32) × (Nat → Int32) × (Nat → Int64) × Int32)) (hk6 : ∀ (zy3 : Int32) (zsl : Nat → Int32) (zbg : Nat → Int32) (zkn : Nat → Int64) (zrm : Int32), k6 zy3 zsl zbg zkn zrm = some (rv, slo, bgo, kno, rmo) → ∀ (H : Heap) (locs : List Loc) (ls : Array Slot), XW dd cy A s (wlC ad cy ts tc rk pl ru zsl zbg zkn zrm ol od) H locs → lv_has ls 5 [(0, .ref (ad 19)), (1, .ref (ad 15)), (2, .int y2), (3, .int zy3)] → W p l e (headSpec wsX2_areFree { frames := 3, cells := 0, slots := 0, locals := 85 }).room s m args below meth c H locs 0 0 (MQ below (QX dd cy A (some (.int rv)) (wlC ad cy ts tc rk pl ru slo bgo kno rmo ol od)) args s 0 0 A) (F0 m 6 ls [])) (n : Nat) (y4 : Int32) (sl : Nat → Int32) (bg : Nat → Int32) (kn : Nat → Int64) (rm : Int32), fX2_areFree_15 fu ts tc y2 y3 k6 n y4 sl bg kn rm = some (rv, slo, bgo, kno, rmo) → ∀ (H : Heap) (locs : List Loc) (ls : Array Slot), XW dd cy A s (wlC ad cy ts tc rk pl ru sl bg kn rm ol od) H locs → lv_has ls 5 [(0, .ref (ad 19)), (1, .ref (ad 15)), (2, .int y2), (3, .int y3), (4, .int y4)] → W p l e (headSpec wsX2_areFree { frames := 3, cells := 0, slots := 0, locals := 85 }).room s m args below meth c H locs 0 0 (MQ below (QX dd cy A (some (.int rv)) (wlC ad cy ts tc rk pl ru slo bgo kno rmo ol od)) args s 0 0 A) (F0 m 15 ls []) := by
    intro y2 y3 k6 hk6 n
    induction n with
    | zero => intro y4 sl bg kn rm hf; exact absurd hf (by simp [fX2_areFree_15])
    | succ n ih =>
      intro y4 sl bg kn rm hf H locs ls X hl
      rw [fX2_areFree_15] at hf
      refine lv_iload hx hb dX2_areFree_15 (lv_at hl 4 rfl) ?_
      refine lv_iload_n hx hb dX2_areFree_17 rfl (lv_at hl 3 rfl) ?_
      refine xr_icmp_ge (tgt := 51) hx hb dX2_areFree_18 rfl hf (fun hf => ?_) (fun hf => ?_)
      · refine lv_iinc (v := (y3 + 1)) (lv' := [(3, .int (y3 + 1)), (0, .ref (ad 19)), (1, .ref (ad 15)), (2, .int y2), (4, .int y4)]) hx hb dX2_areFree_51 hl (k := 3) rfl ii_1 (by decide) rfl (fun ls hl => ?_)
        refine lv_goto (tgt := 6) hx hb dX2_areFree_54 rfl ?_
        exact hk6 (y3 + 1) sl bg kn rm hf _ _ _ X (lv_sub hl [1, 2, 3, 0] rfl)
      · refine lv_aload_n hx hb dX2_areFree_21 rfl (lv_at hl 1 rfl) ?_
        refine lv_iload_n hx hb dX2_areFree_22 rfl (lv_at hl 2 rfl) ?_
        refine lv_iload_n hx hb dX2_areFree_23 rfl (lv_at hl 3 rfl) ?_
        refine xb hf (fun v5 hv hf => ?_)
        refine xc_S1 (rest := []) ⟨hx, hb, hml, hown, hts⟩ (mX2_isUsed hv) (va_cwS 3 hts gX2_areFree_X2_isUsed rfl rfl rfl hqX2_isUsed ⟨Nat.le_of_ble_eq_true rfl, Nat.le_of_ble_eq_true rfl⟩) X rfl hl.1 rfl (Nat.le_of_ble_eq_true rfl) dX2_areFree_24 ⟨Nat.zero_le _, Nat.zero_le _⟩ (fun H locs X => ?_)
        refine xr_if_eq (tgt := 45) hx hb dX2_areFree_27 rfl hf (fun hf => ?_) (fun hf => ?_)
        · refine lv_iinc (v := (y4 + 1)) (lv' := [(4, .int (y4 + 1)), (0, .ref (ad 19)), (1, .ref (ad 15)), (2, .int y2), (3, .int y3)]) hx hb dX2_areFree_45 hl (k := 4) rfl ii_1 (by decide) rfl (fun ls hl => ?_)
          refine lv_goto (tgt := 15) hx hb dX2_areFree_48 rfl ?_
          exact ih (y4 + 1) sl bg kn rm hf _ _ _ X (lv_sub hl [1, 2, 3, 4, 0] rfl)
        · refine lv_aload_n hx hb dX2_areFree_30 rfl (lv_at hl 0 rfl) ?_
          refine lv_aload_n hx hb dX2_areFree_31 rfl (lv_at hl 1 rfl) ?_
          refine lv_iload_n hx hb dX2_areFree_32 rfl (lv_at hl 2 rfl) ?_
          refine lv_iload_n hx hb dX2_areFree_33 rfl (lv_at hl 3 rfl) ?_
          refine lv_iconst (v := (0 : Int32)) hx hb dX2_areFree_34 rfl ?_
          refine lv_iload hx hb dX2_areFree_35 (lv_at hl 4 rfl) ?_
          refine xb hf (fun v6 hv hf => ?_)
          refine xc_V1 (rest := []) ⟨hx, hb, hml, hown, hts⟩ (mX2_isMatchedBy hv) (cwV 5 hts gX2_areFree_X2_isMatchedBy rfl rfl rfl hqX2_isMatchedBy ⟨Nat.le_of_ble_eq_true rfl, Nat.le_of_ble_eq_true rfl⟩) X (va_recv X.1 X.2.1 (ci := 3) (q0 := 19) rfl wlC_19) rfl hl.1 rfl (Nat.le_of_ble_eq_true rfl) dX2_areFree_37 ⟨Nat.zero_le _, Nat.zero_le _⟩ (fun H locs X => ?_)
          refine xr_if_eq (tgt := 45) hx hb dX2_areFree_40 rfl hf (fun hf => ?_) (fun hf => ?_)
          · refine lv_iinc (v := (y4 + 1)) (lv' := [(4, .int (y4 + 1)), (0, .ref (ad 19)), (1, .ref (ad 15)), (2, .int y2), (3, .int y3)]) hx hb dX2_areFree_45 hl (k := 4) rfl ii_1 (by decide) rfl (fun ls hl => ?_)
            refine lv_goto (tgt := 15) hx hb dX2_areFree_48 rfl ?_
            exact ih (y4 + 1) v6.2.1 v6.2.2.1 v6.2.2.2.1 v6.2.2.2.2 hf _ _ _ X (lv_sub hl [1, 2, 3, 4, 0] rfl)
          · refine lv_iconst (v := (0 : Int32)) hx hb dX2_areFree_43 rfl ?_
            cases hf
            exact xe_z hx hb hr hlocks X rfl dX2_areFree_44
  have w6 : ∀ (y2 : Int32) (n : Nat) (y3 : Int32) (sl : Nat → Int32) (bg : Nat → Int32) (kn : Nat → Int64) (rm : Int32), fX2_areFree_6 fu ts tc y2 n y3 sl bg kn rm = some (rv, slo, bgo, kno, rmo) → ∀ (H : Heap) (locs : List Loc) (ls : Array Slot), XW dd cy A s (wlC ad cy ts tc rk pl ru sl bg kn rm ol od) H locs → lv_has ls 5 [(0, .ref (ad 19)), (1, .ref (ad 15)), (2, .int y2), (3, .int y3)] → W p l e (headSpec wsX2_areFree { frames := 3, cells := 0, slots := 0, locals := 85 }).room s m args below meth c H locs 0 0 (MQ below (QX dd cy A (some (.int rv)) (wlC ad cy ts tc rk pl ru slo bgo kno rmo ol od)) args s 0 0 A) (F0 m 6 ls []) := by
    intro y2 n
    induction n with
    | zero => intro y3 sl bg kn rm hf; exact absurd hf (by simp [fX2_areFree_6])
    | succ n ih =>
      intro y3 sl bg kn rm hf H locs ls X hl
      rw [fX2_areFree_6] at hf
      refine lv_iload_n hx hb dX2_areFree_6 rfl (lv_at hl 3 rfl) ?_
      refine lv_bipush (v := (6 : Int32)) hx hb dX2_areFree_7 rfl ?_
      refine xr_icmp_ge (tgt := 57) hx hb dX2_areFree_9 rfl hf (fun hf => ?_) (fun hf => ?_)
      · refine lv_iconst (v := (0 : Int32)) hx hb dX2_areFree_57 rfl ?_
        refine lv_istore_n (lv' := [(3, .int (0 : Int32)), (0, .ref (ad 19)), (1, .ref (ad 15)), (2, .int y2)]) hx hb dX2_areFree_58 rfl hl (by decide) rfl (fun ls hl => ?_)
        exact w59 y2 fu (0 : Int32) sl bg kn rm hf _ _ _ X (lv_sub hl [1, 2, 3, 0] rfl)
      · refine lv_iconst (v := (0 : Int32)) hx hb dX2_areFree_12 rfl ?_
        refine lv_istore (lv' := [(4, .int (0 : Int32)), (0, .ref (ad 19)), (1, .ref (ad 15)), (2, .int y2), (3, .int y3)]) hx hb dX2_areFree_13 hl (by decide) rfl (fun ls hl => ?_)
        exact w15 y2 y3 _ ih fu (0 : Int32) sl bg kn rm hf _ _ _ X (lv_sub hl [1, 2, 3, 4, 0] rfl)
  rw [fX2_areFree] at hf
  refine lv_aload_n hx hb dX2_areFree_0 rfl (lv_at hl 0 rfl) ?_
  refine xb hf (fun v1 hv hf => ?_)
  refine xc_V0 (rest := []) ⟨hx, hb, hml, hown, hts⟩ (mX2_forgetRemainders hv) (cwV 0 hts gX2_areFree_X2_forgetRemainders rfl rfl rfl hqX2_forgetRemainders ⟨Nat.le_of_ble_eq_true rfl, Nat.le_of_ble_eq_true rfl⟩) X (va_recv X.1 X.2.1 (ci := 3) (q0 := 19) rfl wlC_19) rfl hl.1 rfl (Nat.le_of_ble_eq_true rfl) dX2_areFree_1 ⟨Nat.zero_le _, Nat.zero_le _⟩ (fun H locs X => ?_)
  refine lv_iconst (v := (0 : Int32)) hx hb dX2_areFree_4 rfl ?_
  refine lv_istore_n (lv' := [(3, .int (0 : Int32)), (0, .ref (ad 19)), (1, .ref (ad 15)), (2, .int x2)]) hx hb dX2_areFree_5 rfl hl (by decide) rfl (fun ls hl => ?_)
  exact w6 x2 fu (0 : Int32) sl bg v1.1 v1.2 hf _ _ _ X (lv_sub hl [1, 2, 3, 0] rfl)
set_option maxRecDepth 100000 in
set_option maxHeartbeats 4000000 in
theorem mX1_isLessThanItsEnds {l : Launch} {dd : va_G} {cy : Nat → ClassId} {ad : Nat → Nat} {A : Nat → Prop} {fu : Nat} {ts : Nat → Int32} {tc : Nat → Nat → Int32} {rk : Nat → Int32} {pl : Nat → Int32} {ru : Nat → Int64} {sl : Nat → Int32} {bg : Nat → Int32} {kn : Nat → Int64} {rm : Int32} {ol : Nat → Int64} {od : Nat → UInt64} {j0 : Nat} {x1 : Int32} {x2 : Int32} {rv : Int32} (hj0 : j0 < 7) (hf : fX1_isLessThanItsEnds fu ts tc j0 x1 x2 = some rv) : Met l yX1_isLessThanItsEnds wsX1_isLessThanItsEnds { frames := 2, cells := 0, slots := 0, locals := 57 } (va_Pc [.ref (ad j0), .int x1, .int x2] (IW dd cy A (wlC ad cy ts tc rk pl ru sl bg kn rm ol od))) (QX dd cy A (some (.int rv)) (wlC ad cy ts tc rk pl ru sl bg kn rm ol od)) 0 0 A := by
  refine Met.ofW (cc := cX1_isLessThanItsEnds) (maxL := 5) (ret := some .boolean) (by decide) rfl ?_
  intro p e s m args below meth c s₁ B hml hv
  obtain ⟨hav, hI⟩ := hv
  have hx := B.exec
  have hb := B.bytes
  have hr := B.returns
  have hts := atoms_spec (ws := wsX1_isLessThanItsEnds) B.pre
  have hown : s.vm.findClass RX1 = some m.cls := findClass_of_methodNamed B.named
  have hlocks := B.notSynchronized
  have X := XW.of hI
  refine xe_in hav (Nat.le_of_ble_eq_true rfl) rfl (fun ls hl => ?_)
  have w4 : ∀ (t0 : Nat) (y1 : Int32) (y2 : Int32) (ht0 : t0 < 7) (n : Nat) (y3 : Int32), fX1_isLessThanItsEnds_4 fu ts tc t0 y1 y2 n y3 = some rv → ∀ (H : Heap) (locs : List Loc) (ls : Array Slot), XW dd cy A s (wlC ad cy ts tc rk pl ru sl bg kn rm ol od) H locs → lv_has ls 5 [(0, .ref (ad t0)), (1, .int y1), (2, .int y2), (3, .int y3)] → W p l e (headSpec wsX1_isLessThanItsEnds { frames := 2, cells := 0, slots := 0, locals := 57 }).room s m args below meth c H locs 0 0 (MQ below (QX dd cy A (some (.int rv)) (wlC ad cy ts tc rk pl ru sl bg kn rm ol od)) args s 0 0 A) (F0 m 4 ls []) := by
    intro t0 y1 y2 ht0 n
    induction n with
    | zero => intro y3 hf; exact absurd hf (by simp [fX1_isLessThanItsEnds_4])
    | succ n ih =>
      intro y3 hf H locs ls X hl
      rw [fX1_isLessThanItsEnds_4] at hf
      refine lv_iload_n hx hb dX1_isLessThanItsEnds_4 rfl (lv_at hl 3 rfl) ?_
      refine lv_iload_n hx hb dX1_isLessThanItsEnds_5 rfl (lv_at hl 2 rfl) ?_
      refine xr_icmp_ge (tgt := 53) hx hb dX1_isLessThanItsEnds_6 rfl hf (fun hf => ?_) (fun hf => ?_)
      · refine lv_iconst (v := (1 : Int32)) hx hb dX1_isLessThanItsEnds_53 rfl ?_
        cases hf
        exact xe_z hx hb hr hlocks X rfl dX1_isLessThanItsEnds_54
      · refine lv_aload_n hx hb dX1_isLessThanItsEnds_9 rfl (lv_at hl 0 rfl) ?_
        refine lv_iload_n hx hb dX1_isLessThanItsEnds_10 rfl (lv_at hl 1 rfl) ?_
        refine lv_aload_n hx hb dX1_isLessThanItsEnds_11 rfl (lv_at hl 0 rfl) ?_
        refine lv_iload_n hx hb dX1_isLessThanItsEnds_12 rfl (lv_at hl 3 rfl) ?_
        refine xb hf (fun v1 hv hf => ?_)
        refine xc_V1 (rest := []) ⟨hx, hb, hml, hown, hts⟩ (mX4_alike ht0 ht0 hv) (cwV 3 hts gX1_isLessThanItsEnds_X4_alike rfl rfl rfl hqX4_alike ⟨Nat.le_of_ble_eq_true rfl, Nat.le_of_ble_eq_true rfl⟩) X (va_recv X.1 X.2.1 (ci := 0) (q0 := t0) rfl (wlC_t ht0)) rfl hl.1 rfl (Nat.le_of_ble_eq_true rfl) dX1_isLessThanItsEnds_13 ⟨Nat.zero_le _, Nat.zero_le _⟩ (fun H locs X => ?_)
        refine lv_istore (lv' := [(4, .int v1), (0, .ref (ad t0)), (1, .int y1), (2, .int y2), (3, .int y3)]) hx hb dX1_isLessThanItsEnds_16 hl (by decide) rfl (fun ls hl => ?_)
        refine lv_iload hx hb dX1_isLessThanItsEnds_18 (lv_at hl 0 rfl) ?_
        refine lv_iload_n hx hb dX1_isLessThanItsEnds_20 rfl (lv_at hl 3 rfl) ?_
        refine lv_iload_n hx hb dX1_isLessThanItsEnds_21 rfl (lv_at hl 4 rfl) ?_
        refine lv_isub hx hb dX1_isLessThanItsEnds_22 ?_
        refine xr_icmp_ge (tgt := 45) hx hb dX1_isLessThanItsEnds_23 rfl hf (fun hf => ?_) (fun hf => ?_)
        · refine lv_iconst (v := (0 : Int32)) hx hb dX1_isLessThanItsEnds_45 rfl ?_
          cases hf
          exact xe_z hx hb hr hlocks X rfl dX1_isLessThanItsEnds_46
        · refine lv_aload_n hx hb dX1_isLessThanItsEnds_26 rfl (lv_at hl 1 rfl) ?_
          refine lv_iload_n hx hb dX1_isLessThanItsEnds_27 rfl (lv_at hl 2 rfl) ?_
          refine lv_iload hx hb dX1_isLessThanItsEnds_28 (lv_at hl 0 rfl) ?_
          refine lv_iadd hx hb dX1_isLessThanItsEnds_30 ?_
          refine xb hf (fun v2 hv hf => ?_)
          refine xc_V1 (rest := []) ⟨hx, hb, hml, hown, hts⟩ (mX4_signOn ht0 hv) (cwV 1 hts gX1_isLessThanItsEnds_X4_signOn rfl rfl rfl hqX4_signOn ⟨Nat.le_of_ble_eq_true rfl, Nat.le_of_ble_eq_true rfl⟩) X (va_recv X.1 X.2.1 (ci := 0) (q0 := t0) rfl (wlC_t ht0)) rfl hl.1 rfl (Nat.le_of_ble_eq_true rfl) dX1_isLessThanItsEnds_31 ⟨Nat.zero_le _, Nat.zero_le _⟩ (fun H locs X => ?_)
          refine lv_aload_n hx hb dX1_isLessThanItsEnds_34 rfl (lv_at hl 1 rfl) ?_
          refine lv_iload_n hx hb dX1_isLessThanItsEnds_35 rfl (lv_at hl 4 rfl) ?_
          refine lv_iload hx hb dX1_isLessThanItsEnds_36 (lv_at hl 0 rfl) ?_
          refine lv_iadd hx hb dX1_isLessThanItsEnds_38 ?_
          refine xb hf (fun v3 hv hf => ?_)
          refine xc_V1 (rest := [.int v2]) ⟨hx, hb, hml, hown, hts⟩ (mX4_signOn ht0 hv) (cwV 1 hts gX1_isLessThanItsEnds_X4_signOn rfl rfl rfl hqX4_signOn ⟨Nat.le_of_ble_eq_true rfl, Nat.le_of_ble_eq_true rfl⟩) X (va_recv X.1 X.2.1 (ci := 0) (q0 := t0) rfl (wlC_t ht0)) rfl hl.1 rfl (Nat.le_of_ble_eq_true rfl) dX1_isLessThanItsEnds_39 ⟨Nat.zero_le _, Nat.zero_le _⟩ (fun H locs X => ?_)
          refine xr_icmp_le (tgt := 47) hx hb dX1_isLessThanItsEnds_42 rfl hf (fun hf => ?_) (fun hf => ?_)
          · refine lv_iinc (v := (y3 + 1)) (lv' := [(3, .int (y3 + 1)), (4, .int v1), (0, .ref (ad t0)), (1, .int y1), (2, .int y2)]) hx hb dX1_isLessThanItsEnds_47 hl (k := 4) rfl ii_1 (by decide) rfl (fun ls hl => ?_)
            refine lv_goto (tgt := 4) hx hb dX1_isLessThanItsEnds_50 rfl ?_
            exact ih (y3 + 1) hf _ _ _ X (lv_sub hl [2, 3, 4, 0] rfl)
          · refine lv_iconst (v := (0 : Int32)) hx hb dX1_isLessThanItsEnds_45 rfl ?_
            cases hf
            exact xe_z hx hb hr hlocks X rfl dX1_isLessThanItsEnds_46
  rw [fX1_isLessThanItsEnds] at hf
  refine lv_iload_n hx hb dX1_isLessThanItsEnds_0 rfl (lv_at hl 1 rfl) ?_
  refine lv_iconst (v := (1 : Int32)) hx hb dX1_isLessThanItsEnds_1 rfl ?_
  refine lv_iadd hx hb dX1_isLessThanItsEnds_2 ?_
  refine lv_istore_n (lv' := [(3, .int (x1 + (1 : Int32))), (0, .ref (ad j0)), (1, .int x1), (2, .int x2)]) hx hb dX1_isLessThanItsEnds_3 rfl hl (by decide) rfl (fun ls hl => ?_)
  exact w4 j0 x1 x2 hj0 fu (x1 + (1 : Int32)) hf _ _ _ X (lv_sub hl [1, 2, 3, 0] rfl)
set_option maxRecDepth 100000 in
set_option maxHeartbeats 4000000 in
theorem mX1_areTrue {l : Launch} {dd : va_G} {cy : Nat → ClassId} {ad : Nat → Nat} {A : Nat → Prop} {fu : Nat} {ts : Nat → Int32} {tc : Nat → Nat → Int32} {rk : Nat → Int32} {pl : Nat → Int32} {ru : Nat → Int64} {sl : Nat → Int32} {bg : Nat → Int32} {kn : Nat → Int64} {rm : Int32} {ol : Nat → Int64} {od : Nat → UInt64} {j0 : Nat} {rv : Int32} (hj0 : j0 < 7) (hf : fX1_areTrue fu ts tc j0 = some rv) : Met l yX1_areTrue wsX1_areTrue { frames := 3, cells := 0, slots := 0, locals := 82 } (va_Pc [.ref (ad j0)] (IW dd cy A (wlC ad cy ts tc rk pl ru sl bg kn rm ol od))) (QX dd cy A (some (.int rv)) (wlC ad cy ts tc rk pl ru sl bg kn rm ol od)) 0 0 A := by
  refine Met.ofW (cc := cX1_areTrue) (maxL := 5) (ret := some .boolean) (by decide) rfl ?_
  intro p e s m args below meth c s₁ B hml hv
  obtain ⟨hav, hI⟩ := hv
  have hx := B.exec
  have hb := B.bytes
  have hr := B.returns
  have hts := atoms_spec (ws := wsX1_areTrue) B.pre
  have hown : s.vm.findClass RX1 = some m.cls := findClass_of_methodNamed B.named
  have hlocks := B.notSynchronized
  have X := XW.of hI
  refine xe_in hav (Nat.le_of_ble_eq_true rfl) rfl (fun ls hl => ?_)
  have w69 : ∀ (t0 : Nat) (y2 : Int32) (ht0 : t0 < 7), fX1_areTrue_69 fu ts tc t0 y2 = some rv → ∀ (H : Heap) (locs : List Loc) (ls : Array Slot), XW dd cy A s (wlC ad cy ts tc rk pl ru sl bg kn rm ol od) H locs → lv_has ls 5 [(0, .ref (ad t0)), (2, .int y2)] → W p l e (headSpec wsX1_areTrue { frames := 3, cells := 0, slots := 0, locals := 82 }).room s m args below meth c H locs 0 0 (MQ below (QX dd cy A (some (.int rv)) (wlC ad cy ts tc rk pl ru sl bg kn rm ol od)) args s 0 0 A) (F0 m 69 ls []) := by
    intro t0 y2 ht0 hf H locs ls X hl
    rw [fX1_areTrue_69] at hf
    refine lv_iload_n hx hb dX1_areTrue_69 rfl (lv_at hl 1 rfl) ?_
    refine lv_aload_n hx hb dX1_areTrue_70 rfl (lv_at hl 0 rfl) ?_
    refine xb hf (fun v1 hv hf => ?_)
    refine xc_V1 (rest := [.int y2]) ⟨hx, hb, hml, hown, hts⟩ (mX4_size ht0 hv) (cwV 0 hts gX1_areTrue_X4_size rfl rfl rfl hqX4_size ⟨Nat.le_of_ble_eq_true rfl, Nat.le_of_ble_eq_true rfl⟩) X (va_recv X.1 X.2.1 (ci := 0) (q0 := t0) rfl (wlC_t ht0)) rfl hl.1 rfl (Nat.le_of_ble_eq_true rfl) dX1_areTrue_71 ⟨Nat.zero_le _, Nat.zero_le _⟩ (fun H locs X => ?_)
    refine xr_icmp_ne (tgt := 81) hx hb dX1_areTrue_74 rfl hf (fun hf => ?_) (fun hf => ?_)
    · refine lv_iconst (v := (0 : Int32)) hx hb dX1_areTrue_81 rfl ?_
      cases hf
      exact xe_z hx hb hr hlocks X rfl dX1_areTrue_82
    · refine lv_iconst (v := (1 : Int32)) hx hb dX1_areTrue_77 rfl ?_
      refine lv_goto (tgt := 82) hx hb dX1_areTrue_78 rfl ?_
      cases hf
      exact xe_z hx hb hr hlocks X rfl dX1_areTrue_82
  have w6 : ∀ (t0 : Nat) (ht0 : t0 < 7) (n : Nat) (y1 : Int32) (y2 : Int32) (y3 : Int32), fX1_areTrue_6 fu ts tc t0 n y1 y2 y3 = some rv → ∀ (H : Heap) (locs : List Loc) (ls : Array Slot), XW dd cy A s (wlC ad cy ts tc rk pl ru sl bg kn rm ol od) H locs → lv_has ls 5 [(0, .ref (ad t0)), (1, .int y1), (2, .int y2), (3, .int y3)] → W p l e (headSpec wsX1_areTrue { frames := 3, cells := 0, slots := 0, locals := 82 }).room s m args below meth c H locs 0 0 (MQ below (QX dd cy A (some (.int rv)) (wlC ad cy ts tc rk pl ru sl bg kn rm ol od)) args s 0 0 A) (F0 m 6 ls []) := by
    intro t0 ht0 n
    induction n with
    | zero => intro y1 y2 y3 hf; exact absurd hf (by simp [fX1_areTrue_6])
    | succ n ih =>
      intro y1 y2 y3 hf H locs ls X hl
      rw [fX1_areTrue_6] at hf
      refine lv_iload_n hx hb dX1_areTrue_6 rfl (lv_at hl 3 rfl) ?_
      refine lv_bipush (v := (60 : Int32)) hx hb dX1_areTrue_7 rfl ?_
      refine xr_icmp_ge (tgt := 69) hx hb dX1_areTrue_9 rfl hf (fun hf => ?_) (fun hf => ?_)
      · exact w69 t0 y2 ht0 hf _ _ _ X (lv_sub hl [0, 2] rfl)
      · refine lv_iload_n hx hb dX1_areTrue_12 rfl (lv_at hl 2 rfl) ?_
        refine lv_aload_n hx hb dX1_areTrue_13 rfl (lv_at hl 0 rfl) ?_
        refine xb hf (fun v2 hv hf => ?_)
        refine xc_V1 (rest := [.int y2]) ⟨hx, hb, hml, hown, hts⟩ (mX4_size ht0 hv) (cwV 0 hts gX1_areTrue_X4_size rfl rfl rfl hqX4_size ⟨Nat.le_of_ble_eq_true rfl, Nat.le_of_ble_eq_true rfl⟩) X (va_recv X.1 X.2.1 (ci := 0) (q0 := t0) rfl (wlC_t ht0)) rfl hl.1 rfl (Nat.le_of_ble_eq_true rfl) dX1_areTrue_14 ⟨Nat.zero_le _, Nat.zero_le _⟩ (fun H locs X => ?_)
        refine xr_icmp_ge (tgt := 69) hx hb dX1_areTrue_17 rfl hf (fun hf => ?_) (fun hf => ?_)
        · exact w69 t0 y2 ht0 hf _ _ _ X (lv_sub hl [0, 2] rfl)
        · refine lv_iload_n hx hb dX1_areTrue_20 rfl (lv_at hl 2 rfl) ?_
          refine lv_aload_n hx hb dX1_areTrue_21 rfl (lv_at hl 0 rfl) ?_
          refine lv_iload_n hx hb dX1_areTrue_22 rfl (lv_at hl 2 rfl) ?_
          refine xb hf (fun v3 hv hf => ?_)
          refine xc_S1 (rest := [.int y2]) ⟨hx, hb, hml, hown, hts⟩ (mX1_sizeAt ht0 hv) (va_cwS 2 hts gX1_areTrue_X1_sizeAt rfl rfl rfl hqX1_sizeAt ⟨Nat.le_of_ble_eq_true rfl, Nat.le_of_ble_eq_true rfl⟩) X rfl hl.1 rfl (Nat.le_of_ble_eq_true rfl) dX1_areTrue_23 ⟨Nat.zero_le _, Nat.zero_le _⟩ (fun H locs X => ?_)
          refine lv_iadd hx hb dX1_areTrue_26 ?_
          refine lv_istore (lv' := [(4, .int (y2 + v3)), (0, .ref (ad t0)), (1, .int y1), (2, .int y2), (3, .int y3)]) hx hb dX1_areTrue_27 hl (by decide) rfl (fun ls hl => ?_)
          refine lv_aload_n hx hb dX1_areTrue_29 rfl (lv_at hl 1 rfl) ?_
          refine lv_iload_n hx hb dX1_areTrue_30 rfl (lv_at hl 3 rfl) ?_
          refine lv_iload hx hb dX1_areTrue_31 (lv_at hl 0 rfl) ?_
          refine xb hf (fun v4 hv hf => ?_)
          refine xc_S1 (rest := []) ⟨hx, hb, hml, hown, hts⟩ (mX1_isLessThanItsEnds ht0 hv) (va_cwS 3 hts gX1_areTrue_X1_isLessThanItsEnds rfl rfl rfl hqX1_isLessThanItsEnds ⟨Nat.le_of_ble_eq_true rfl, Nat.le_of_ble_eq_true rfl⟩) X rfl hl.1 rfl (Nat.le_of_ble_eq_true rfl) dX1_areTrue_33 ⟨Nat.zero_le _, Nat.zero_le _⟩ (fun H locs X => ?_)
          refine xr_if_ne (tgt := 41) hx hb dX1_areTrue_36 rfl hf (fun hf => ?_) (fun hf => ?_)
          · refine lv_iload_n hx hb dX1_areTrue_41 rfl (lv_at hl 3 rfl) ?_
            refine xr_if_le (tgt := 58) hx hb dX1_areTrue_42 rfl hf (fun hf => ?_) (fun hf => ?_)
            · refine lv_iload_n hx hb dX1_areTrue_58 rfl (lv_at hl 3 rfl) ?_
              refine lv_istore_n (lv' := [(1, .int y2), (4, .int (y2 + v3)), (0, .ref (ad t0)), (2, .int y2), (3, .int y3)]) hx hb dX1_areTrue_59 rfl hl (by decide) rfl (fun ls hl => ?_)
              refine lv_iload hx hb dX1_areTrue_60 (lv_at hl 1 rfl) ?_
              refine lv_istore_n (lv' := [(2, .int (y2 + v3)), (1, .int y2), (4, .int (y2 + v3)), (0, .ref (ad t0)), (3, .int y3)]) hx hb dX1_areTrue_62 rfl hl (by decide) rfl (fun ls hl => ?_)
              refine lv_iinc (v := (y3 + 1)) (lv' := [(3, .int (y3 + 1)), (2, .int (y2 + v3)), (1, .int y2), (4, .int (y2 + v3)), (0, .ref (ad t0))]) hx hb dX1_areTrue_63 hl (k := 4) rfl ii_1 (by decide) rfl (fun ls hl => ?_)
              refine lv_goto (tgt := 6) hx hb dX1_areTrue_66 rfl ?_
              exact ih y2 (y2 + v3) (y3 + 1) hf _ _ _ X (lv_sub hl [4, 2, 1, 0] rfl)
            · refine lv_aload_n hx hb dX1_areTrue_45 rfl (lv_at hl 1 rfl) ?_
              refine lv_iload_n hx hb dX1_areTrue_46 rfl (lv_at hl 2 rfl) ?_
              refine lv_iload_n hx hb dX1_areTrue_47 rfl (lv_at hl 3 rfl) ?_
              refine lv_iload hx hb dX1_areTrue_48 (lv_at hl 0 rfl) ?_
              refine xb hf (fun v5 hv hf => ?_)
              refine xc_V1 (rest := []) ⟨hx, hb, hml, hown, hts⟩ (mX4_compareNeighbours ht0 hv) (cwV 3 hts gX1_areTrue_X4_compareNeighbours rfl rfl rfl hqX4_compareNeighbours ⟨Nat.le_of_ble_eq_true rfl, Nat.le_of_ble_eq_true rfl⟩) X (va_recv X.1 X.2.1 (ci := 0) (q0 := t0) rfl (wlC_t ht0)) rfl hl.1 rfl (Nat.le_of_ble_eq_true rfl) dX1_areTrue_50 ⟨Nat.zero_le _, Nat.zero_le _⟩ (fun H locs X => ?_)
              refine xr_if_ge (tgt := 58) hx hb dX1_areTrue_53 rfl hf (fun hf => ?_) (fun hf => ?_)
              · refine lv_iload_n hx hb dX1_areTrue_58 rfl (lv_at hl 3 rfl) ?_
                refine lv_istore_n (lv' := [(1, .int y2), (4, .int (y2 + v3)), (0, .ref (ad t0)), (2, .int y2), (3, .int y3)]) hx hb dX1_areTrue_59 rfl hl (by decide) rfl (fun ls hl => ?_)
                refine lv_iload hx hb dX1_areTrue_60 (lv_at hl 1 rfl) ?_
                refine lv_istore_n (lv' := [(2, .int (y2 + v3)), (1, .int y2), (4, .int (y2 + v3)), (0, .ref (ad t0)), (3, .int y3)]) hx hb dX1_areTrue_62 rfl hl (by decide) rfl (fun ls hl => ?_)
                refine lv_iinc (v := (y3 + 1)) (lv' := [(3, .int (y3 + 1)), (2, .int (y2 + v3)), (1, .int y2), (4, .int (y2 + v3)), (0, .ref (ad t0))]) hx hb dX1_areTrue_63 hl (k := 4) rfl ii_1 (by decide) rfl (fun ls hl => ?_)
                refine lv_goto (tgt := 6) hx hb dX1_areTrue_66 rfl ?_
                exact ih y2 (y2 + v3) (y3 + 1) hf _ _ _ X (lv_sub hl [4, 2, 1, 0] rfl)
              · refine lv_iconst (v := (0 : Int32)) hx hb dX1_areTrue_56 rfl ?_
                cases hf
                exact xe_z hx hb hr hlocks X rfl dX1_areTrue_57
          · refine lv_iconst (v := (0 : Int32)) hx hb dX1_areTrue_39 rfl ?_
            cases hf
            exact xe_z hx hb hr hlocks X rfl dX1_areTrue_40
  rw [fX1_areTrue] at hf
  refine lv_iconst (v := (0 : Int32)) hx hb dX1_areTrue_0 rfl ?_
  refine lv_istore_n (lv' := [(1, .int (0 : Int32)), (0, .ref (ad j0))]) hx hb dX1_areTrue_1 rfl hl (by decide) rfl (fun ls hl => ?_)
  refine lv_iconst (v := (0 : Int32)) hx hb dX1_areTrue_2 rfl ?_
  refine lv_istore_n (lv' := [(2, .int (0 : Int32)), (1, .int (0 : Int32)), (0, .ref (ad j0))]) hx hb dX1_areTrue_3 rfl hl (by decide) rfl (fun ls hl => ?_)
  refine lv_iconst (v := (0 : Int32)) hx hb dX1_areTrue_4 rfl ?_
  refine lv_istore_n (lv' := [(3, .int (0 : Int32)), (2, .int (0 : Int32)), (1, .int (0 : Int32)), (0, .ref (ad j0))]) hx hb dX1_areTrue_5 rfl hl (by decide) rfl (fun ls hl => ?_)
  exact w6 j0 hj0 fu (0 : Int32) (0 : Int32) (0 : Int32) hf _ _ _ X (lv_sub hl [3, 2, 1, 0] rfl)
set_option maxRecDepth 100000 in
set_option maxHeartbeats 4000000 in
theorem mX3_areTrue {l : Launch} {dd : va_G} {cy : Nat → ClassId} {ad : Nat → Nat} {A : Nat → Prop} {fu : Nat} {ts : Nat → Int32} {tc : Nat → Nat → Int32} {rk : Nat → Int32} {pl : Nat → Int32} {ru : Nat → Int64} {sl : Nat → Int32} {bg : Nat → Int32} {kn : Nat → Int64} {rm : Int32} {ol : Nat → Int64} {od : Nat → UInt64} {j0 : Nat} {j1 : Nat} {rv : Int32} (hj0 : j0 < 7) (hj1 : j1 < 7) (hf : fX3_areTrue fu ts tc j0 j1 = some rv) : Met l yX3_areTrue wsX3_areTrue { frames := 5, cells := 0, slots := 0, locals := 121 } (va_Pc [.ref (ad j0), .ref (ad j1)] (IW dd cy A (wlC ad cy ts tc rk pl ru sl bg kn rm ol od))) (QX dd cy A (some (.int rv)) (wlC ad cy ts tc rk pl ru sl bg kn rm ol od)) 0 0 A := by
  refine Met.ofW (cc := cX3_areTrue) (maxL := 3) (ret := some .boolean) (by decide) rfl ?_
  intro p e s m args below meth c s₁ B hml hv
  obtain ⟨hav, hI⟩ := hv
  have hx := B.exec
  have hb := B.bytes
  have hr := B.returns
  have hts := atoms_spec (ws := wsX3_areTrue) B.pre
  have hown : s.vm.findClass RX3 = some m.cls := findClass_of_methodNamed B.named
  have hlocks := B.notSynchronized
  have X := XW.of hI
  refine xe_in hav (Nat.le_of_ble_eq_true rfl) rfl (fun ls hl => ?_)
  have w19 : ∀ (t0 : Nat) (t1 : Nat) (ht0 : t0 < 7) (ht1 : t1 < 7) (s0 : Int32), fX3_areTrue_19 fu ts tc t0 t1 s0 = some rv → ∀ (H : Heap) (locs : List Loc) (ls : Array Slot), XW dd cy A s (wlC ad cy ts tc rk pl ru sl bg kn rm ol od) H locs → lv_has ls 3 [(0, .ref (ad t0)), (1, .ref (ad t1))] → W p l e (headSpec wsX3_areTrue { frames := 5, cells := 0, slots := 0, locals := 121 }).room s m args below meth c H locs 0 0 (MQ below (QX dd cy A (some (.int rv)) (wlC ad cy ts tc rk pl ru sl bg kn rm ol od)) args s 0 0 A) (F0 m 19 ls [.int s0]) := by
    intro t0 t1 ht0 ht1 s0 hf H locs ls X hl
    rw [fX3_areTrue_19] at hf
    refine lv_istore_n (lv' := [(2, .int s0), (0, .ref (ad t0)), (1, .ref (ad t1))]) hx hb dX3_areTrue_19 rfl hl (by decide) rfl (fun ls hl => ?_)
    refine lv_aload_n hx hb dX3_areTrue_20 rfl (lv_at hl 1 rfl) ?_
    refine lv_aload_n hx hb dX3_areTrue_21 rfl (lv_at hl 2 rfl) ?_
    refine xb hf (fun v2 hv hf => ?_)
    refine xc_S1 (rest := []) ⟨hx, hb, hml, hown, hts⟩ (mX3_doCommute ht0 ht1 hv) (va_cwS 2 hts gX3_areTrue_X3_doCommute rfl rfl rfl hqX3_doCommute ⟨Nat.le_of_ble_eq_true rfl, Nat.le_of_ble_eq_true rfl⟩) X rfl hl.1 rfl (Nat.le_of_ble_eq_true rfl) dX3_areTrue_22 ⟨Nat.zero_le _, Nat.zero_le _⟩ (fun H locs X => ?_)
    refine lv_iload_n hx hb dX3_areTrue_25 rfl (lv_at hl 0 rfl) ?_
    refine xr_if_ne (tgt := 37) hx hb dX3_areTrue_26 rfl hf (fun hf => ?_) (fun hf => ?_)
    · refine lv_iconst (v := (1 : Int32)) hx hb dX3_areTrue_37 rfl ?_
      refine lv_goto (tgt := 42) hx hb dX3_areTrue_38 rfl ?_
      refine xr_icmp_ne (tgt := 49) hx hb dX3_areTrue_42 rfl hf (fun hf => ?_) (fun hf => ?_)
      · refine lv_iconst (v := (0 : Int32)) hx hb dX3_areTrue_49 rfl ?_
        cases hf
        exact xe_z hx hb hr hlocks X rfl dX3_areTrue_50
      · refine lv_iconst (v := (1 : Int32)) hx hb dX3_areTrue_45 rfl ?_
        refine lv_goto (tgt := 50) hx hb dX3_areTrue_46 rfl ?_
        cases hf
        exact xe_z hx hb hr hlocks X rfl dX3_areTrue_50
    · refine lv_aload_n hx hb dX3_areTrue_29 rfl (lv_at hl 1 rfl) ?_
      refine lv_aload_n hx hb dX3_areTrue_30 rfl (lv_at hl 2 rfl) ?_
      refine xb hf (fun v3 hv hf => ?_)
      refine xc_S1 (rest := [.int v2]) ⟨hx, hb, hml, hown, hts⟩ (mX3_sharedSize ht0 ht1 hv) (va_cwS 2 hts gX3_areTrue_X3_sharedSize rfl rfl rfl hqX3_sharedSize ⟨Nat.le_of_ble_eq_true rfl, Nat.le_of_ble_eq_true rfl⟩) X rfl hl.1 rfl (Nat.le_of_ble_eq_true rfl) dX3_areTrue_31 ⟨Nat.zero_le _, Nat.zero_le _⟩ (fun H locs X => ?_)
      refine xr_if_le (tgt := 41) hx hb dX3_areTrue_34 rfl hf (fun hf => ?_) (fun hf => ?_)
      · refine lv_iconst (v := (0 : Int32)) hx hb dX3_areTrue_41 rfl ?_
        refine xr_icmp_ne (tgt := 49) hx hb dX3_areTrue_42 rfl hf (fun hf => ?_) (fun hf => ?_)
        · refine lv_iconst (v := (0 : Int32)) hx hb dX3_areTrue_49 rfl ?_
          cases hf
          exact xe_z hx hb hr hlocks X rfl dX3_areTrue_50
        · refine lv_iconst (v := (1 : Int32)) hx hb dX3_areTrue_45 rfl ?_
          refine lv_goto (tgt := 50) hx hb dX3_areTrue_46 rfl ?_
          cases hf
          exact xe_z hx hb hr hlocks X rfl dX3_areTrue_50
      · refine lv_iconst (v := (1 : Int32)) hx hb dX3_areTrue_37 rfl ?_
        refine lv_goto (tgt := 42) hx hb dX3_areTrue_38 rfl ?_
        refine xr_icmp_ne (tgt := 49) hx hb dX3_areTrue_42 rfl hf (fun hf => ?_) (fun hf => ?_)
        · refine lv_iconst (v := (0 : Int32)) hx hb dX3_areTrue_49 rfl ?_
          cases hf
          exact xe_z hx hb hr hlocks X rfl dX3_areTrue_50
        · refine lv_iconst (v := (1 : Int32)) hx hb dX3_areTrue_45 rfl ?_
          refine lv_goto (tgt := 50) hx hb dX3_areTrue_46 rfl ?_
          cases hf
          exact xe_z hx hb hr hlocks X rfl dX3_areTrue_50
  have w18 : ∀ (t0 : Nat) (t1 : Nat) (ht0 : t0 < 7) (ht1 : t1 < 7), fX3_areTrue_18 fu ts tc t0 t1 = some rv → ∀ (H : Heap) (locs : List Loc) (ls : Array Slot), XW dd cy A s (wlC ad cy ts tc rk pl ru sl bg kn rm ol od) H locs → lv_has ls 3 [(0, .ref (ad t0)), (1, .ref (ad t1))] → W p l e (headSpec wsX3_areTrue { frames := 5, cells := 0, slots := 0, locals := 121 }).room s m args below meth c H locs 0 0 (MQ below (QX dd cy A (some (.int rv)) (wlC ad cy ts tc rk pl ru sl bg kn rm ol od)) args s 0 0 A) (F0 m 18 ls []) := by
    intro t0 t1 ht0 ht1 hf H locs ls X hl
    rw [fX3_areTrue_18] at hf
    refine lv_iconst (v := (0 : Int32)) hx hb dX3_areTrue_18 rfl ?_
    exact w19 t0 t1 ht0 ht1 (0 : Int32) hf _ _ _ X (lv_sub hl [0, 1] rfl)
  rw [fX3_areTrue] at hf
  refine lv_aload_n hx hb dX3_areTrue_0 rfl (lv_at hl 0 rfl) ?_
  refine xb hf (fun v1 hv hf => ?_)
  refine xc_V1 (rest := []) ⟨hx, hb, hml, hown, hts⟩ (mX4_isEmpty hj0 hv) (cwV 0 hts gX3_areTrue_X4_isEmpty rfl rfl rfl hqX4_isEmpty ⟨Nat.le_of_ble_eq_true rfl, Nat.le_of_ble_eq_true rfl⟩) X (va_recv X.1 X.2.1 (ci := 0) (q0 := j0) rfl (wlC_t hj0)) rfl hl.1 rfl (Nat.le_of_ble_eq_true rfl) dX3_areTrue_1 ⟨Nat.zero_le _, Nat.zero_le _⟩ (fun H locs X => ?_)
  refine xr_if_eq (tgt := 18) hx hb dX3_areTrue_4 rfl hf (fun hf => ?_) (fun hf => ?_)
  · exact w18 j0 j1 hj0 hj1 hf _ _ _ X (lv_sub hl [0, 1] rfl)
  · refine lv_aload_n hx hb dX3_areTrue_7 rfl (lv_at hl 1 rfl) ?_
    refine xb hf (fun v4 hv hf => ?_)
    refine xc_V1 (rest := []) ⟨hx, hb, hml, hown, hts⟩ (mX4_isEmpty hj1 hv) (cwV 0 hts gX3_areTrue_X4_isEmpty rfl rfl rfl hqX4_isEmpty ⟨Nat.le_of_ble_eq_true rfl, Nat.le_of_ble_eq_true rfl⟩) X (va_recv X.1 X.2.1 (ci := 0) (q0 := j1) rfl (wlC_t hj1)) rfl hl.1 rfl (Nat.le_of_ble_eq_true rfl) dX3_areTrue_8 ⟨Nat.zero_le _, Nat.zero_le _⟩ (fun H locs X => ?_)
    refine xr_if_eq (tgt := 18) hx hb dX3_areTrue_11 rfl hf (fun hf => ?_) (fun hf => ?_)
    · exact w18 j0 j1 hj0 hj1 hf _ _ _ X (lv_sub hl [0, 1] rfl)
    · refine lv_iconst (v := (1 : Int32)) hx hb dX3_areTrue_14 rfl ?_
      refine lv_goto (tgt := 19) hx hb dX3_areTrue_15 rfl ?_
      exact w19 j0 j1 hj0 hj1 (1 : Int32) hf _ _ _ X (lv_sub hl [0, 1] rfl)
