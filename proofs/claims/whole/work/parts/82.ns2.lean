/-! periodAt, factorAt, endAt over the words that hold. -/
def wzX5_periodAt : List Cond := .code yX5_periodAt cX5_periodAt 6 (some .int) :: ((wsX5_periodAt_r1 ++ wsX5_periodAt_r2) ++ wsX50 ++ wsX40 ++ (nsS RX5 154 "java/util/NoSuchElementException").filter goodWord ++ (vx_atS RX5 93 "java/lang/IndexOutOfBoundsException" ["java/lang/RuntimeException", "java/lang/Exception"]).filter goodWord ++ (vx_atM "java/lang/ArrayIndexOutOfBoundsException" ["java/lang/IndexOutOfBoundsException", "java/lang/RuntimeException", "java/lang/Exception"]).filter goodWord)
def wzX5_factorAt : List Cond := .code yX5_factorAt cX5_factorAt 5 (some .int) :: ((wsX5_factorAt_r1 ++ wsX5_factorAt_r2) ++ wsX50 ++ wsX40 ++ (nsS RX5 154 "java/util/NoSuchElementException").filter goodWord ++ (vx_atS RX5 93 "java/lang/IndexOutOfBoundsException" ["java/lang/RuntimeException", "java/lang/Exception"]).filter goodWord ++ (vx_atM "java/lang/ArrayIndexOutOfBoundsException" ["java/lang/IndexOutOfBoundsException", "java/lang/RuntimeException", "java/lang/Exception"]).filter goodWord)
def wzX5_endAt : List Cond := .code yX5_endAt cX5_endAt 4 (some .int) :: ((wsX5_endAt_r1 ++ (wsX5_endAt_r2 ++ wsX5_endAt_r3)) ++ wsX50 ++ wsX40 ++ wsX00 ++ (nsS RX5 154 "java/util/NoSuchElementException").filter goodWord ++ (vx_atS RX5 93 "java/lang/IndexOutOfBoundsException" ["java/lang/RuntimeException", "java/lang/Exception"]).filter goodWord ++ (vx_atM "java/lang/ArrayIndexOutOfBoundsException" ["java/lang/IndexOutOfBoundsException", "java/lang/RuntimeException", "java/lang/Exception"]).filter goodWord)
def wzL_periodAt : List Cond := .codeWith yL_periodAt cL_periodAt 5 (some .int) [(0, 10, 13, 13), (0, 10, 17, 95)] :: ((wsL_periodAt_r1 ++ wsL_periodAt_r2) ++ wsX50 ++ wsX40 ++ (vx_atM "java/lang/ArrayIndexOutOfBoundsException" ["java/lang/IndexOutOfBoundsException", "java/lang/RuntimeException", "java/lang/Exception"]).filter goodWord ++ (nsS RX5 154 "java/util/NoSuchElementException").filter goodWord ++ (vx_atS RX5 93 "java/lang/IndexOutOfBoundsException" ["java/lang/RuntimeException", "java/lang/Exception"]).filter goodWord)
def wzL_factorAt : List Cond := .codeWith yL_factorAt cL_factorAt 5 (some .int) [(0, 10, 13, 13), (0, 10, 17, 95)] :: ((wsL_factorAt_r1 ++ wsL_factorAt_r2) ++ wsX50 ++ wsX40 ++ (vx_atM "java/lang/ArrayIndexOutOfBoundsException" ["java/lang/IndexOutOfBoundsException", "java/lang/RuntimeException", "java/lang/Exception"]).filter goodWord ++ (nsS RX5 154 "java/util/NoSuchElementException").filter goodWord ++ (vx_atS RX5 93 "java/lang/IndexOutOfBoundsException" ["java/lang/RuntimeException", "java/lang/Exception"]).filter goodWord)
def wzL_endAt : List Cond := .codeWith yL_endAt cL_endAt 5 (some .int) [(0, 10, 13, 13), (0, 10, 17, 95)] :: ((wsL_endAt_r1 ++ (wsL_endAt_r2 ++ wsL_endAt_r3)) ++ wsX50 ++ wsX40 ++ wsX00 ++ (vx_atM "java/lang/ArrayIndexOutOfBoundsException" ["java/lang/IndexOutOfBoundsException", "java/lang/RuntimeException", "java/lang/Exception"]).filter goodWord ++ (nsS RX5 154 "java/util/NoSuchElementException").filter goodWord ++ (vx_atS RX5 93 "java/lang/IndexOutOfBoundsException" ["java/lang/RuntimeException", "java/lang/Exception"]).filter goodWord)
set_option maxRecDepth 20000 in
theorem ggzX5_periodAt_X5_textOf : GoodIn wzX5_periodAt wsX5_textOf := goodIn_ca (goodIn_r _ [7, 8, 9, 10, 34, 35, 36, 37] (by decide +kernel) (by decide +kernel)) (goodIn_sub (fun _ h => List.mem_cons_of_mem _ (List.mem_append_left _ (List.mem_append_right _ h))) (by decide +kernel))
set_option maxRecDepth 20000 in
theorem gzX5_periodAt_X5_textOf : GoodIn wzX5_periodAt (wsV RX5 34 RX5 yX5_textOf wsX5_textOf) := goodIn_app (goodIn_of _ (by decide +kernel)) ggzX5_periodAt_X5_textOf
set_option maxRecDepth 20000 in
theorem ggzX5_periodAt_X4_size : GoodIn wzX5_periodAt wsX4_size := goodIn_r _ [15, 16, 38, 39] (by decide +kernel) (by decide +kernel)
set_option maxRecDepth 20000 in
theorem gzX5_periodAt_X4_size : GoodIn wzX5_periodAt (wsV RX5 42 RX4 yX4_size wsX4_size) := goodIn_app (goodIn_of _ (by decide +kernel)) ggzX5_periodAt_X4_size
set_option maxRecDepth 20000 in
theorem ggzX5_periodAt_X4_hasPeriod : GoodIn wzX5_periodAt wsX4_hasPeriod := goodIn_ca (goodIn_r _ [20, 16, 21, 22, 23, 14, 24, 25, 26, 27, 28, 29, 30, 31, 32, 33, 38, 39] (by decide +kernel) (by decide +kernel)) (goodIn_sub (fun _ h => List.mem_cons_of_mem _ (List.mem_append_right _ h)) (by decide +kernel))
set_option maxRecDepth 20000 in
theorem gzX5_periodAt_X4_hasPeriod : GoodIn wzX5_periodAt (wsV RX5 146 RX4 yX4_hasPeriod wsX4_hasPeriod) := goodIn_app (goodIn_of _ (by decide +kernel)) ggzX5_periodAt_X4_hasPeriod
set_option maxRecDepth 20000 in
theorem ggzX5_factorAt_X5_textOf : GoodIn wzX5_factorAt wsX5_textOf := goodIn_ca (goodIn_r _ [7, 8, 9, 10, 30, 31, 32, 33] (by decide +kernel) (by decide +kernel)) (goodIn_sub (fun _ h => List.mem_cons_of_mem _ (List.mem_append_left _ (List.mem_append_right _ h))) (by decide +kernel))
set_option maxRecDepth 20000 in
theorem gzX5_factorAt_X5_textOf : GoodIn wzX5_factorAt (wsV RX5 34 RX5 yX5_textOf wsX5_textOf) := goodIn_app (goodIn_of _ (by decide +kernel)) ggzX5_factorAt_X5_textOf
set_option maxRecDepth 20000 in
theorem ggzX5_factorAt_X4_size : GoodIn wzX5_factorAt wsX4_size := goodIn_r _ [15, 16, 34, 35] (by decide +kernel) (by decide +kernel)
set_option maxRecDepth 20000 in
theorem gzX5_factorAt_X4_size : GoodIn wzX5_factorAt (wsV RX5 42 RX4 yX4_size wsX4_size) := goodIn_app (goodIn_of _ (by decide +kernel)) ggzX5_factorAt_X4_size
set_option maxRecDepth 20000 in
theorem ggzX5_factorAt_X1_beginOf : GoodIn wzX5_factorAt wsX1_beginOf := goodIn_ca (goodIn_r _ [20, 21, 12, 13, 14, 15, 16, 22, 23, 19, 24, 25, 26, 27, 28, 29, 34, 35] (by decide +kernel) (by decide +kernel)) (goodIn_sub (fun _ h => List.mem_cons_of_mem _ (List.mem_append_right _ h)) (by decide +kernel))
set_option maxRecDepth 20000 in
theorem gzX5_factorAt_X1_beginOf : GoodIn wzX5_factorAt (va_wsS RX5 172 yX1_beginOf wsX1_beginOf) := goodIn_app (goodIn_of _ (by decide +kernel)) ggzX5_factorAt_X1_beginOf
set_option maxRecDepth 20000 in
theorem ggzX5_endAt_X5_textOf : GoodIn wzX5_endAt wsX5_textOf := goodIn_ca (goodIn_r _ [8, 9, 10, 11, 51, 52, 53, 54] (by decide +kernel) (by decide +kernel)) (goodIn_sub (fun _ h => List.mem_cons_of_mem _ (List.mem_append_left _ (List.mem_append_right _ h))) (by decide +kernel))
set_option maxRecDepth 20000 in
theorem gzX5_endAt_X5_textOf : GoodIn wzX5_endAt (wsV RX5 34 RX5 yX5_textOf wsX5_textOf) := goodIn_app (goodIn_of _ (by decide +kernel)) ggzX5_endAt_X5_textOf
set_option maxRecDepth 20000 in
theorem ggzX5_endAt_X4_size : GoodIn wzX5_endAt wsX4_size := goodIn_r _ [16, 17, 55, 56] (by decide +kernel) (by decide +kernel)
set_option maxRecDepth 20000 in
theorem gzX5_endAt_X4_size : GoodIn wzX5_endAt (wsV RX5 42 RX4 yX4_size wsX4_size) := goodIn_app (goodIn_of _ (by decide +kernel)) ggzX5_endAt_X4_size
set_option maxRecDepth 20000 in
theorem ggzX5_endAt_X0_arrange : GoodIn wzX5_endAt wsX0_arrange := goodIn_ca (goodIn_r _ [22, 23, 24, 13, 14, 15, 16, 17, 25, 26, 27, 21, 28, 29, 30, 31, 32, 33, 34, 35, 36, 37, 38, 39, 40, 41, 42, 43, 44, 45, 46, 57, 58, 55, 56] (by decide +kernel) (by decide +kernel)) (goodIn_sub (fun _ h => List.mem_cons_of_mem _ (List.mem_append_right _ h)) (by decide +kernel))
set_option maxRecDepth 20000 in
theorem gzX5_endAt_X0_arrange : GoodIn wzX5_endAt (wsV RX5 180 RX0 yX0_arrange wsX0_arrange) := goodIn_app (goodIn_of _ (by decide +kernel)) ggzX5_endAt_X0_arrange
set_option maxRecDepth 20000 in
theorem ggzX5_endAt_X0_placeBy : GoodIn wzX5_endAt wsX0_placeBy := goodIn_ca (goodIn_r _ [50, 23, 57, 58] (by decide +kernel) (by decide +kernel)) (goodIn_sub (fun _ h => List.mem_cons_of_mem _ (List.mem_append_right _ h)) (by decide +kernel))
set_option maxRecDepth 20000 in
theorem gzX5_endAt_X0_placeBy : GoodIn wzX5_endAt (wsV RX5 183 RX0 yX0_placeBy wsX0_placeBy) := goodIn_app (goodIn_of _ (by decide +kernel)) ggzX5_endAt_X0_placeBy
set_option maxRecDepth 20000 in
theorem ggzL_periodAt_X5_periodAt : GoodIn wzL_periodAt wzX5_periodAt := goodIn_ca (goodIn_ca (goodIn_ca (goodIn_r _ [7, 8, 9, 10, 11, 12, 6, 13, 14, 15, 16, 17, 18, 19, 20, 21, 22, 23, 24, 25, 26, 27, 28, 29, 30, 31, 32, 33, 34, 35, 36, 37, 38, 39, 40, 41, 42, 43, 44, 45] (by decide +kernel) (by decide +kernel)) (goodIn_sub (fun _ h => List.mem_cons_of_mem _ (List.mem_append_left _ (List.mem_append_right _ h))) (by decide +kernel))) (goodIn_sub (fun _ h => List.mem_cons_of_mem _ (List.mem_append_right _ h)) (by decide +kernel))) (goodIn_sub (fun _ h => List.mem_cons_of_mem _ (List.mem_append_left _ (List.mem_append_left _ (List.mem_append_right _ h)))) (by decide +kernel))
set_option maxRecDepth 20000 in
theorem gzL_periodAt_X5_periodAt : GoodIn wzL_periodAt (wsV RL 92 RX5 yX5_periodAt wzX5_periodAt) := goodIn_app (goodIn_of _ (by decide +kernel)) ggzL_periodAt_X5_periodAt
set_option maxRecDepth 20000 in
theorem ggzL_factorAt_X5_factorAt : GoodIn wzL_factorAt wzX5_factorAt := goodIn_ca (goodIn_ca (goodIn_ca (goodIn_r _ [7, 8, 9, 10, 11, 12, 6, 13, 14, 15, 16, 17, 18, 19, 20, 21, 22, 23, 24, 25, 26, 27, 28, 29, 30, 31, 32, 33, 34, 35, 36, 37, 38, 39, 40, 41] (by decide +kernel) (by decide +kernel)) (goodIn_sub (fun _ h => List.mem_cons_of_mem _ (List.mem_append_left _ (List.mem_append_right _ h))) (by decide +kernel))) (goodIn_sub (fun _ h => List.mem_cons_of_mem _ (List.mem_append_right _ h)) (by decide +kernel))) (goodIn_sub (fun _ h => List.mem_cons_of_mem _ (List.mem_append_left _ (List.mem_append_left _ (List.mem_append_right _ h)))) (by decide +kernel))
set_option maxRecDepth 20000 in
theorem gzL_factorAt_X5_factorAt : GoodIn wzL_factorAt (wsV RL 115 RX5 yX5_factorAt wzX5_factorAt) := goodIn_app (goodIn_of _ (by decide +kernel)) ggzL_factorAt_X5_factorAt
set_option maxRecDepth 20000 in
theorem ggzL_endAt_X5_endAt : GoodIn wzL_endAt wzX5_endAt := goodIn_ca (goodIn_ca (goodIn_ca (goodIn_r _ [7, 8, 9, 10, 11, 12, 13, 6, 14, 15, 16, 17, 18, 19, 20, 21, 22, 23, 24, 25, 26, 27, 28, 29, 30, 31, 32, 33, 34, 35, 36, 37, 38, 39, 40, 41, 42, 43, 44, 45, 46, 47, 48, 49, 50, 51, 52, 53, 54, 55, 56, 57, 58, 59, 60, 61, 62, 63, 64] (by decide +kernel) (by decide +kernel)) (goodIn_sub (fun _ h => List.mem_cons_of_mem _ (List.mem_append_left _ (List.mem_append_right _ h))) (by decide +kernel))) (goodIn_sub (fun _ h => List.mem_cons_of_mem _ (List.mem_append_right _ h)) (by decide +kernel))) (goodIn_sub (fun _ h => List.mem_cons_of_mem _ (List.mem_append_left _ (List.mem_append_left _ (List.mem_append_right _ h)))) (by decide +kernel))
set_option maxRecDepth 20000 in
theorem gzL_endAt_X5_endAt : GoodIn wzL_endAt (wsV RL 118 RX5 yX5_endAt wzX5_endAt) := goodIn_app (goodIn_of _ (by decide +kernel)) ggzL_endAt_X5_endAt
set_option maxRecDepth 100000 in
set_option maxHeartbeats 4000000 in
theorem mzX5_periodAt {l : Launch} {dd : va_G} {cy : Nat → ClassId} {ad : Nat → Nat} {A : Nat → Prop} {fu : Nat} {ts : Nat → Int32} {tc : Nat → Nat → Int32} {rk : Nat → Int32} {pl : Nat → Int32} {ru : Nat → Int64} {sl : Nat → Int32} {bg : Nat → Int32} {kn : Nat → Int64} {rm : Int32} {ol : Nat → Int64} {od : Nat → UInt64} {x1 : Int32} {x2 : Int32} {rv : Int32} (hf : fX5_periodAt fu ts tc x1 x2 = some (.ok rv)) : Met l yX5_periodAt wzX5_periodAt { frames := 3, cells := 0, slots := 0, locals := 78 } (va_Pc [.ref (ad 14), .int x1, .int x2] (IW dd cy A (wlC ad cy ts tc rk pl ru sl bg kn rm ol od))) (QX dd cy A (some (.int rv)) (wlC ad cy ts tc rk pl ru sl bg kn rm ol od)) 0 0 A := by
  refine Met.ofW (cc := cX5_periodAt) (maxL := 6) (ret := some .int) (by decide) rfl ?_
  intro p e s m args below meth c s₁ B hml hv
  obtain ⟨hav, hI⟩ := hv
  have hx := B.exec
  have hb := B.bytes
  have hr := B.returns
  have hts := atoms_spec (ws := wzX5_periodAt) B.pre
  have hown : s.vm.findClass RX5 = some m.cls := findClass_of_methodNamed B.named
  have hlocks := B.notSynchronized
  have X := XW.of hI
  refine xe_in hav (Nat.le_of_ble_eq_true rfl) rfl (fun ls hl => ?_)
  have w12 : ∀ (y2 : Int32) (t3 : Nat) (ht3 : t3 < 7) (n : Nat) (y4 : Int32) (y5 : Int32), fX5_periodAt_12 fu ts tc y2 t3 n y4 y5 = some (.ok rv) → ∀ (H : Heap) (locs : List Loc) (ls : Array Slot), XW dd cy A s (wlC ad cy ts tc rk pl ru sl bg kn rm ol od) H locs → lv_has ls 6 [(2, .int y2), (3, .ref (ad t3)), (4, .int y4), (5, .int y5)] → W p l e (headSpec wzX5_periodAt { frames := 3, cells := 0, slots := 0, locals := 78 }).room s m args below meth c H locs 0 0 (MQ below (QX dd cy A (some (.int rv)) (wlC ad cy ts tc rk pl ru sl bg kn rm ol od)) args s 0 0 A) (F0 m 12 ls []) := by
    intro y2 t3 ht3 n
    induction n with
    | zero => intro y4 y5 hf; exact absurd hf (by simp [fX5_periodAt_12])
    | succ n ih =>
      intro y4 y5 hf H locs ls X hl
      rw [fX5_periodAt_12] at hf
      refine lv_iload hx hb dX5_periodAt_12 (lv_at hl 3 rfl) ?_
      refine lv_aload_n hx hb dX5_periodAt_14 rfl (lv_at hl 1 rfl) ?_
      refine xb hf (fun v3 hv hf => ?_)
      refine xc_V1 (rest := [.int y5]) ⟨hx, hb, hml, hown, hts⟩ (mX4_size ht3 hv) (cwV 0 hts gzX5_periodAt_X4_size rfl rfl rfl hqX4_size ⟨Nat.le_of_ble_eq_true rfl, Nat.le_of_ble_eq_true rfl⟩) X (va_recv X.1 X.2.1 (ci := 0) (q0 := t3) rfl (wlC_t ht3)) rfl hl.1 rfl (Nat.le_of_ble_eq_true rfl) dX5_periodAt_15 ⟨Nat.zero_le _, Nat.zero_le _⟩ (fun H locs X => ?_)
      refine xr_icmp_gt (tgt := 48) hx hb dX5_periodAt_18 rfl hf (fun hf => ?_) (fun hf => ?_)
      · cases hf
      · refine lv_aload_n hx hb dX5_periodAt_21 rfl (lv_at hl 1 rfl) ?_
        refine lv_iload hx hb dX5_periodAt_22 (lv_at hl 3 rfl) ?_
        refine xb hf (fun v4 hv hf => ?_)
        refine xc_V1 (rest := []) ⟨hx, hb, hml, hown, hts⟩ (mX4_hasPeriod ht3 hv) (cwV 1 hts gzX5_periodAt_X4_hasPeriod rfl rfl rfl hqX4_hasPeriod ⟨Nat.le_of_ble_eq_true rfl, Nat.le_of_ble_eq_true rfl⟩) X (va_recv X.1 X.2.1 (ci := 0) (q0 := t3) rfl (wlC_t ht3)) rfl hl.1 rfl (Nat.le_of_ble_eq_true rfl) dX5_periodAt_24 ⟨Nat.zero_le _, Nat.zero_le _⟩ (fun H locs X => ?_)
        refine xr_if_eq (tgt := 42) hx hb dX5_periodAt_27 rfl hf (fun hf => ?_) (fun hf => ?_)
        · refine lv_iinc (v := (y5 + 1)) (lv' := [(5, .int (y5 + 1)), (2, .int y2), (3, .ref (ad t3)), (4, .int y4)]) hx hb dX5_periodAt_42 hl (k := 3) rfl ii_1 (by decide) rfl (fun ls hl => ?_)
          refine lv_goto (tgt := 12) hx hb dX5_periodAt_45 rfl ?_
          exact ih y4 (y5 + 1) hf _ _ _ X (lv_sub hl [1, 2, 3, 0] rfl)
        · refine lv_iload hx hb dX5_periodAt_30 (lv_at hl 2 rfl) ?_
          refine lv_iload_n hx hb dX5_periodAt_32 rfl (lv_at hl 0 rfl) ?_
          refine xr_icmp_ne (tgt := 39) hx hb dX5_periodAt_33 rfl hf (fun hf => ?_) (fun hf => ?_)
          · refine lv_iinc (v := (y4 + 1)) (lv' := [(4, .int (y4 + 1)), (2, .int y2), (3, .ref (ad t3)), (5, .int y5)]) hx hb dX5_periodAt_39 hl (k := 2) rfl ii_1 (by decide) rfl (fun ls hl => ?_)
            refine lv_iinc (v := (y5 + 1)) (lv' := [(5, .int (y5 + 1)), (4, .int (y4 + 1)), (2, .int y2), (3, .ref (ad t3))]) hx hb dX5_periodAt_42 hl (k := 3) rfl ii_1 (by decide) rfl (fun ls hl => ?_)
            refine lv_goto (tgt := 12) hx hb dX5_periodAt_45 rfl ?_
            exact ih (y4 + 1) (y5 + 1) hf _ _ _ X (lv_sub hl [2, 3, 1, 0] rfl)
          · refine lv_iload hx hb dX5_periodAt_36 (lv_at hl 3 rfl) ?_
            cases hf
            exact xe_i hx hb hr hlocks X dX5_periodAt_38
  rw [fX5_periodAt] at hf
  refine lv_aload_n hx hb dX5_periodAt_0 rfl (lv_at hl 0 rfl) ?_
  refine lv_iload_n hx hb dX5_periodAt_1 rfl (lv_at hl 1 rfl) ?_
  refine xb hf (fun v1 hv1 hf => ?_)
  refine exb_c hf (fun e9 h9 hf => ?_) (fun r2 h9 hf => ?_)
  · cases hf
  · have hr2 : r2 < 7 := fX5_textOf_lt (exo_s hv1 h9)
    refine xc_V1 (rest := []) ⟨hx, hb, hml, hown, hts⟩ (mX5_textOf (exo_s hv1 h9)) (cwV 1 hts gzX5_periodAt_X5_textOf rfl rfl rfl hqX5_textOf ⟨Nat.le_of_ble_eq_true rfl, Nat.le_of_ble_eq_true rfl⟩) X (va_recv X.1 X.2.1 (ci := 1) (q0 := 14) rfl wlC_14) rfl hl.1 rfl (Nat.le_of_ble_eq_true rfl) dX5_periodAt_2 ⟨Nat.zero_le _, Nat.zero_le _⟩ (fun H locs X => ?_)
    refine lv_astore_n (lv' := [(3, .ref (ad r2)), (0, .ref (ad 14)), (1, .int x1), (2, .int x2)]) hx hb dX5_periodAt_5 rfl hl (by decide) rfl (fun ls hl => ?_)
    refine lv_iconst (v := (0 : Int32)) hx hb dX5_periodAt_6 rfl ?_
    refine lv_istore (lv' := [(4, .int (0 : Int32)), (3, .ref (ad r2)), (0, .ref (ad 14)), (1, .int x1), (2, .int x2)]) hx hb dX5_periodAt_7 hl (by decide) rfl (fun ls hl => ?_)
    refine lv_iconst (v := (1 : Int32)) hx hb dX5_periodAt_9 rfl ?_
    refine lv_istore (lv' := [(5, .int (1 : Int32)), (4, .int (0 : Int32)), (3, .ref (ad r2)), (0, .ref (ad 14)), (1, .int x1), (2, .int x2)]) hx hb dX5_periodAt_10 hl (by decide) rfl (fun ls hl => ?_)
    exact w12 x2 r2 hr2 fu (0 : Int32) (1 : Int32) hf _ _ _ X (lv_sub hl [5, 2, 1, 0] rfl)
set_option maxRecDepth 100000 in
set_option maxHeartbeats 4000000 in
theorem ezX5_periodAt {l : Launch} {dd : va_G} {cy : Nat → ClassId} {ad : Nat → Nat} {A : Nat → Prop} {fu : Nat} {ts : Nat → Int32} {tc : Nat → Nat → Int32} {rk : Nat → Int32} {pl : Nat → Int32} {ru : Nat → Int64} {sl : Nat → Int32} {bg : Nat → Int32} {kn : Nat → Int64} {rm : Int32} {ol : Nat → Int64} {od : Nat → UInt64} {x1 : Int32} {x2 : Int32} {E9 : String} (htr : l.stackTraces = false) (hf : fX5_periodAt fu ts tc x1 x2 = some (.error E9)) : vx_Met l yX5_periodAt wzX5_periodAt { frames := 7, cells := 1, slots := 6, locals := 121 } (va_Pc [.ref (ad 14), .int x1, .int x2] (IT dd cy A (wlC ad cy ts tc rk pl ru sl bg kn rm ol od))) (fun _ _ _ _ => False) (XE dd cy A E9 (wlC ad cy ts tc rk pl ru sl bg kn rm ol od)) 1 6 A := by
  refine vx_ofW (cc := cX5_periodAt) (maxL := 6) (ret := some .int) (by decide) rfl ?_
  intro p e s m args below meth c s₁ B hml hexc hv
  obtain ⟨hav, hI, hT⟩ := hv
  have hx := B.exec
  have hb := B.bytes
  have hr := B.returns
  have hts := atoms_spec (ws := wzX5_periodAt) B.pre
  have hown : s.vm.findClass RX5 = some m.cls := findClass_of_methodNamed B.named
  have hlocks := B.notSynchronized
  have X := XW.of hI
  refine xe_in hav (Nat.le_of_ble_eq_true rfl) rfl (fun ls hl => ?_)
  have w12 : ∀ (y2 : Int32) (t3 : Nat) (ht3 : t3 < 7) (n : Nat) (y4 : Int32) (y5 : Int32), fX5_periodAt_12 fu ts tc y2 t3 n y4 y5 = some (.error E9) → ∀ (H : Heap) (locs : List Loc) (ls : Array Slot), XW dd cy A s (wlC ad cy ts tc rk pl ru sl bg kn rm ol od) H locs → lv_has ls 6 [(2, .int y2), (3, .ref (ad t3)), (4, .int y4), (5, .int y5)] → W p l e (headSpec wzX5_periodAt { frames := 7, cells := 1, slots := 6, locals := 121 }).room s m args below meth c H locs 0 0 (vx_MQ below (fun _ _ _ _ => False) (XE dd cy A E9 (wlC ad cy ts tc rk pl ru sl bg kn rm ol od)) args s 1 6 A) (F0 m 12 ls []) := by
    intro y2 t3 ht3 n
    induction n with
    | zero => intro y4 y5 hf; exact absurd hf (by simp [fX5_periodAt_12])
    | succ n ih =>
      intro y4 y5 hf H locs ls X hl
      rw [fX5_periodAt_12] at hf
      refine lv_iload hx hb dX5_periodAt_12 (lv_at hl 3 rfl) ?_
      refine lv_aload_n hx hb dX5_periodAt_14 rfl (lv_at hl 1 rfl) ?_
      refine xb hf (fun v3 hv hf => ?_)
      refine xc_V1 (rest := [.int y5]) ⟨hx, hb, hml, hown, hts⟩ (mX4_size ht3 hv) (cwV 0 hts gzX5_periodAt_X4_size rfl rfl rfl hqX4_size ⟨Nat.le_of_ble_eq_true rfl, Nat.le_of_ble_eq_true rfl⟩) X (va_recv X.1 X.2.1 (ci := 0) (q0 := t3) rfl (wlC_t ht3)) rfl hl.1 rfl (Nat.le_of_ble_eq_true rfl) dX5_periodAt_15 ⟨Nat.zero_le _, Nat.zero_le _⟩ (fun H locs X => ?_)
      refine xr_icmp_gt (tgt := 48) hx hb dX5_periodAt_18 rfl hf (fun hf => ?_) (fun hf => ?_)
      · cases hf
        exact xt_throwN (rest := []) (text := "no such period") hx hb htr hown hts hT X (by decide +kernel) (by decide +kernel) (by decide +kernel) (by decide +kernel) (by decide +kernel) (by decide +kernel) tz_hn_154 tz_hot_150_154 (hl.1.trans hml.symm) dX5_periodAt_48 dX5_periodAt_51 dX5_periodAt_52 dX5_periodAt_54 dX5_periodAt_57 hexc (Nat.le_of_ble_eq_true rfl) (Nat.le_of_ble_eq_true rfl) (Nat.le_of_ble_eq_true rfl) (Nat.le_of_ble_eq_true rfl) hlocks
      · refine lv_aload_n hx hb dX5_periodAt_21 rfl (lv_at hl 1 rfl) ?_
        refine lv_iload hx hb dX5_periodAt_22 (lv_at hl 3 rfl) ?_
        refine xb hf (fun v4 hv hf => ?_)
        refine xc_V1 (rest := []) ⟨hx, hb, hml, hown, hts⟩ (mX4_hasPeriod ht3 hv) (cwV 1 hts gzX5_periodAt_X4_hasPeriod rfl rfl rfl hqX4_hasPeriod ⟨Nat.le_of_ble_eq_true rfl, Nat.le_of_ble_eq_true rfl⟩) X (va_recv X.1 X.2.1 (ci := 0) (q0 := t3) rfl (wlC_t ht3)) rfl hl.1 rfl (Nat.le_of_ble_eq_true rfl) dX5_periodAt_24 ⟨Nat.zero_le _, Nat.zero_le _⟩ (fun H locs X => ?_)
        refine xr_if_eq (tgt := 42) hx hb dX5_periodAt_27 rfl hf (fun hf => ?_) (fun hf => ?_)
        · refine lv_iinc (v := (y5 + 1)) (lv' := [(5, .int (y5 + 1)), (2, .int y2), (3, .ref (ad t3)), (4, .int y4)]) hx hb dX5_periodAt_42 hl (k := 3) rfl ii_1 (by decide) rfl (fun ls hl => ?_)
          refine lv_goto (tgt := 12) hx hb dX5_periodAt_45 rfl ?_
          exact ih y4 (y5 + 1) hf _ _ _ X (lv_sub hl [1, 2, 3, 0] rfl)
        · refine lv_iload hx hb dX5_periodAt_30 (lv_at hl 2 rfl) ?_
          refine lv_iload_n hx hb dX5_periodAt_32 rfl (lv_at hl 0 rfl) ?_
          refine xr_icmp_ne (tgt := 39) hx hb dX5_periodAt_33 rfl hf (fun hf => ?_) (fun hf => ?_)
          · refine lv_iinc (v := (y4 + 1)) (lv' := [(4, .int (y4 + 1)), (2, .int y2), (3, .ref (ad t3)), (5, .int y5)]) hx hb dX5_periodAt_39 hl (k := 2) rfl ii_1 (by decide) rfl (fun ls hl => ?_)
            refine lv_iinc (v := (y5 + 1)) (lv' := [(5, .int (y5 + 1)), (4, .int (y4 + 1)), (2, .int y2), (3, .ref (ad t3))]) hx hb dX5_periodAt_42 hl (k := 3) rfl ii_1 (by decide) rfl (fun ls hl => ?_)
            refine lv_goto (tgt := 12) hx hb dX5_periodAt_45 rfl ?_
            exact ih (y4 + 1) (y5 + 1) hf _ _ _ X (lv_sub hl [2, 3, 1, 0] rfl)
          · refine lv_iload hx hb dX5_periodAt_36 (lv_at hl 3 rfl) ?_
            cases hf
  rw [fX5_periodAt] at hf
  refine lv_aload_n hx hb dX5_periodAt_0 rfl (lv_at hl 0 rfl) ?_
  refine lv_iload_n hx hb dX5_periodAt_1 rfl (lv_at hl 1 rfl) ?_
  refine xb hf (fun v1 hv1 hf => ?_)
  refine exb_c hf (fun e9 h9 hf => ?_) (fun r2 h9 hf => ?_)
  · cases hf
    exact xt_V (rest := []) ⟨hx, hb, hml, hown, hts⟩ (eX5_textOf htr (exo_s hv1 h9)) (cwV 1 hts gzX5_periodAt_X5_textOf rfl rfl rfl hqX5_textOf ⟨Nat.le_of_ble_eq_true rfl, Nat.le_of_ble_eq_true rfl⟩) X hT (va_recv X.1 X.2.1 (ci := 1) (q0 := 14) rfl wlC_14) rfl hl.1 rfl (Nat.le_of_ble_eq_true rfl) dX5_periodAt_2 ⟨Nat.le_of_ble_eq_true rfl, Nat.le_of_ble_eq_true rfl⟩ hexc hlocks
  · have hr2 : r2 < 7 := fX5_textOf_lt (exo_s hv1 h9)
    refine xc_V1 (rest := []) ⟨hx, hb, hml, hown, hts⟩ (mX5_textOf (exo_s hv1 h9)) (cwV 1 hts gzX5_periodAt_X5_textOf rfl rfl rfl hqX5_textOf ⟨Nat.le_of_ble_eq_true rfl, Nat.le_of_ble_eq_true rfl⟩) X (va_recv X.1 X.2.1 (ci := 1) (q0 := 14) rfl wlC_14) rfl hl.1 rfl (Nat.le_of_ble_eq_true rfl) dX5_periodAt_2 ⟨Nat.zero_le _, Nat.zero_le _⟩ (fun H locs X => ?_)
    refine lv_astore_n (lv' := [(3, .ref (ad r2)), (0, .ref (ad 14)), (1, .int x1), (2, .int x2)]) hx hb dX5_periodAt_5 rfl hl (by decide) rfl (fun ls hl => ?_)
    refine lv_iconst (v := (0 : Int32)) hx hb dX5_periodAt_6 rfl ?_
    refine lv_istore (lv' := [(4, .int (0 : Int32)), (3, .ref (ad r2)), (0, .ref (ad 14)), (1, .int x1), (2, .int x2)]) hx hb dX5_periodAt_7 hl (by decide) rfl (fun ls hl => ?_)
    refine lv_iconst (v := (1 : Int32)) hx hb dX5_periodAt_9 rfl ?_
    refine lv_istore (lv' := [(5, .int (1 : Int32)), (4, .int (0 : Int32)), (3, .ref (ad r2)), (0, .ref (ad 14)), (1, .int x1), (2, .int x2)]) hx hb dX5_periodAt_10 hl (by decide) rfl (fun ls hl => ?_)
    exact w12 x2 r2 hr2 fu (0 : Int32) (1 : Int32) hf _ _ _ X (lv_sub hl [5, 2, 1, 0] rfl)
set_option maxRecDepth 100000 in
set_option maxHeartbeats 4000000 in
theorem mzX5_factorAt {l : Launch} {dd : va_G} {cy : Nat → ClassId} {ad : Nat → Nat} {A : Nat → Prop} {fu : Nat} {ts : Nat → Int32} {tc : Nat → Nat → Int32} {rk : Nat → Int32} {pl : Nat → Int32} {ru : Nat → Int64} {sl : Nat → Int32} {bg : Nat → Int32} {kn : Nat → Int64} {rm : Int32} {ol : Nat → Int64} {od : Nat → UInt64} {x1 : Int32} {x2 : Int32} {rv : Int32} (hf : fX5_factorAt fu ts tc x1 x2 = some (.ok rv)) : Met l yX5_factorAt wzX5_factorAt { frames := 3, cells := 0, slots := 0, locals := 67 } (va_Pc [.ref (ad 14), .int x1, .int x2] (IW dd cy A (wlC ad cy ts tc rk pl ru sl bg kn rm ol od))) (QX dd cy A (some (.int rv)) (wlC ad cy ts tc rk pl ru sl bg kn rm ol od)) 0 0 A := by
  refine Met.ofW (cc := cX5_factorAt) (maxL := 5) (ret := some .int) (by decide) rfl ?_
  intro p e s m args below meth c s₁ B hml hv
  obtain ⟨hav, hI⟩ := hv
  have hx := B.exec
  have hb := B.bytes
  have hr := B.returns
  have hts := atoms_spec (ws := wzX5_factorAt) B.pre
  have hown : s.vm.findClass RX5 = some m.cls := findClass_of_methodNamed B.named
  have hlocks := B.notSynchronized
  have X := XW.of hI
  refine xe_in hav (Nat.le_of_ble_eq_true rfl) rfl (fun ls hl => ?_)
  have w22 : ∀ (t3 : Nat) (ht3 : t3 < 7) (s0 : Int32), fX5_factorAt_22 fu ts tc t3 s0 = some (.ok rv) → ∀ (H : Heap) (locs : List Loc) (ls : Array Slot), XW dd cy A s (wlC ad cy ts tc rk pl ru sl bg kn rm ol od) H locs → lv_has ls 5 [(3, .ref (ad t3))] → W p l e (headSpec wzX5_factorAt { frames := 3, cells := 0, slots := 0, locals := 67 }).room s m args below meth c H locs 0 0 (MQ below (QX dd cy A (some (.int rv)) (wlC ad cy ts tc rk pl ru sl bg kn rm ol od)) args s 0 0 A) (F0 m 22 ls [.int s0]) := by
    intro t3 ht3 s0 hf H locs ls X hl
    rw [fX5_factorAt_22] at hf
    refine lv_istore (lv' := [(4, .int s0), (3, .ref (ad t3))]) hx hb dX5_factorAt_22 hl (by decide) rfl (fun ls hl => ?_)
    refine lv_iload hx hb dX5_factorAt_24 (lv_at hl 0 rfl) ?_
    refine lv_aload_n hx hb dX5_factorAt_26 rfl (lv_at hl 1 rfl) ?_
    refine xb hf (fun v4 hv hf => ?_)
    refine xc_V1 (rest := [.int s0]) ⟨hx, hb, hml, hown, hts⟩ (mX4_size ht3 hv) (cwV 0 hts gzX5_factorAt_X4_size rfl rfl rfl hqX4_size ⟨Nat.le_of_ble_eq_true rfl, Nat.le_of_ble_eq_true rfl⟩) X (va_recv X.1 X.2.1 (ci := 0) (q0 := t3) rfl (wlC_t ht3)) rfl hl.1 rfl (Nat.le_of_ble_eq_true rfl) dX5_factorAt_27 ⟨Nat.zero_le _, Nat.zero_le _⟩ (fun H locs X => ?_)
    refine xr_icmp_lt (tgt := 43) hx hb dX5_factorAt_30 rfl hf (fun hf => ?_) (fun hf => ?_)
    · refine lv_iload hx hb dX5_factorAt_43 (lv_at hl 0 rfl) ?_
      cases hf
      exact xe_i hx hb hr hlocks X dX5_factorAt_45
    · cases hf
  rw [fX5_factorAt] at hf
  refine lv_aload_n hx hb dX5_factorAt_0 rfl (lv_at hl 0 rfl) ?_
  refine lv_iload_n hx hb dX5_factorAt_1 rfl (lv_at hl 1 rfl) ?_
  refine xb hf (fun v1 hv1 hf => ?_)
  refine exb_c hf (fun e9 h9 hf => ?_) (fun r2 h9 hf => ?_)
  · cases hf
  · have hr2 : r2 < 7 := fX5_textOf_lt (exo_s hv1 h9)
    refine xc_V1 (rest := []) ⟨hx, hb, hml, hown, hts⟩ (mX5_textOf (exo_s hv1 h9)) (cwV 1 hts gzX5_factorAt_X5_textOf rfl rfl rfl hqX5_textOf ⟨Nat.le_of_ble_eq_true rfl, Nat.le_of_ble_eq_true rfl⟩) X (va_recv X.1 X.2.1 (ci := 1) (q0 := 14) rfl wlC_14) rfl hl.1 rfl (Nat.le_of_ble_eq_true rfl) dX5_factorAt_2 ⟨Nat.zero_le _, Nat.zero_le _⟩ (fun H locs X => ?_)
    refine lv_astore_n (lv' := [(3, .ref (ad r2)), (0, .ref (ad 14)), (1, .int x1), (2, .int x2)]) hx hb dX5_factorAt_5 rfl hl (by decide) rfl (fun ls hl => ?_)
    refine lv_iload_n hx hb dX5_factorAt_6 rfl (lv_at hl 3 rfl) ?_
    refine xr_if_ge (tgt := 17) hx hb dX5_factorAt_7 rfl hf (fun hf => ?_) (fun hf => ?_)
    · refine lv_aload_n hx hb dX5_factorAt_17 rfl (lv_at hl 0 rfl) ?_
      refine lv_iload_n hx hb dX5_factorAt_18 rfl (lv_at hl 3 rfl) ?_
      refine xb hf (fun v3 hv hf => ?_)
      refine xc_S1 (rest := []) ⟨hx, hb, hml, hown, hts⟩ (mX1_beginOf hr2 hv) (va_cwS 2 hts gzX5_factorAt_X1_beginOf rfl rfl rfl hqX1_beginOf ⟨Nat.le_of_ble_eq_true rfl, Nat.le_of_ble_eq_true rfl⟩) X rfl hl.1 rfl (Nat.le_of_ble_eq_true rfl) dX5_factorAt_19 ⟨Nat.zero_le _, Nat.zero_le _⟩ (fun H locs X => ?_)
      exact w22 r2 hr2 v3 hf _ _ _ X (lv_sub hl [0] rfl)
    · refine lv_aload_n hx hb dX5_factorAt_10 rfl (lv_at hl 0 rfl) ?_
      refine xb hf (fun v5 hv hf => ?_)
      refine xc_V1 (rest := []) ⟨hx, hb, hml, hown, hts⟩ (mX4_size hr2 hv) (cwV 0 hts gzX5_factorAt_X4_size rfl rfl rfl hqX4_size ⟨Nat.le_of_ble_eq_true rfl, Nat.le_of_ble_eq_true rfl⟩) X (va_recv X.1 X.2.1 (ci := 0) (q0 := r2) rfl (wlC_t hr2)) rfl hl.1 rfl (Nat.le_of_ble_eq_true rfl) dX5_factorAt_11 ⟨Nat.zero_le _, Nat.zero_le _⟩ (fun H locs X => ?_)
      refine lv_goto (tgt := 22) hx hb dX5_factorAt_14 rfl ?_
      exact w22 r2 hr2 v5 hf _ _ _ X (lv_sub hl [0] rfl)
set_option maxRecDepth 100000 in
set_option maxHeartbeats 4000000 in
theorem ezX5_factorAt {l : Launch} {dd : va_G} {cy : Nat → ClassId} {ad : Nat → Nat} {A : Nat → Prop} {fu : Nat} {ts : Nat → Int32} {tc : Nat → Nat → Int32} {rk : Nat → Int32} {pl : Nat → Int32} {ru : Nat → Int64} {sl : Nat → Int32} {bg : Nat → Int32} {kn : Nat → Int64} {rm : Int32} {ol : Nat → Int64} {od : Nat → UInt64} {x1 : Int32} {x2 : Int32} {E9 : String} (htr : l.stackTraces = false) (hf : fX5_factorAt fu ts tc x1 x2 = some (.error E9)) : vx_Met l yX5_factorAt wzX5_factorAt { frames := 7, cells := 1, slots := 6, locals := 121 } (va_Pc [.ref (ad 14), .int x1, .int x2] (IT dd cy A (wlC ad cy ts tc rk pl ru sl bg kn rm ol od))) (fun _ _ _ _ => False) (XE dd cy A E9 (wlC ad cy ts tc rk pl ru sl bg kn rm ol od)) 1 6 A := by
  refine vx_ofW (cc := cX5_factorAt) (maxL := 5) (ret := some .int) (by decide) rfl ?_
  intro p e s m args below meth c s₁ B hml hexc hv
  obtain ⟨hav, hI, hT⟩ := hv
  have hx := B.exec
  have hb := B.bytes
  have hr := B.returns
  have hts := atoms_spec (ws := wzX5_factorAt) B.pre
  have hown : s.vm.findClass RX5 = some m.cls := findClass_of_methodNamed B.named
  have hlocks := B.notSynchronized
  have X := XW.of hI
  refine xe_in hav (Nat.le_of_ble_eq_true rfl) rfl (fun ls hl => ?_)
  have w22 : ∀ (t3 : Nat) (ht3 : t3 < 7) (s0 : Int32), fX5_factorAt_22 fu ts tc t3 s0 = some (.error E9) → ∀ (H : Heap) (locs : List Loc) (ls : Array Slot), XW dd cy A s (wlC ad cy ts tc rk pl ru sl bg kn rm ol od) H locs → lv_has ls 5 [(3, .ref (ad t3))] → W p l e (headSpec wzX5_factorAt { frames := 7, cells := 1, slots := 6, locals := 121 }).room s m args below meth c H locs 0 0 (vx_MQ below (fun _ _ _ _ => False) (XE dd cy A E9 (wlC ad cy ts tc rk pl ru sl bg kn rm ol od)) args s 1 6 A) (F0 m 22 ls [.int s0]) := by
    intro t3 ht3 s0 hf H locs ls X hl
    rw [fX5_factorAt_22] at hf
    refine lv_istore (lv' := [(4, .int s0), (3, .ref (ad t3))]) hx hb dX5_factorAt_22 hl (by decide) rfl (fun ls hl => ?_)
    refine lv_iload hx hb dX5_factorAt_24 (lv_at hl 0 rfl) ?_
    refine lv_aload_n hx hb dX5_factorAt_26 rfl (lv_at hl 1 rfl) ?_
    refine xb hf (fun v4 hv hf => ?_)
    refine xc_V1 (rest := [.int s0]) ⟨hx, hb, hml, hown, hts⟩ (mX4_size ht3 hv) (cwV 0 hts gzX5_factorAt_X4_size rfl rfl rfl hqX4_size ⟨Nat.le_of_ble_eq_true rfl, Nat.le_of_ble_eq_true rfl⟩) X (va_recv X.1 X.2.1 (ci := 0) (q0 := t3) rfl (wlC_t ht3)) rfl hl.1 rfl (Nat.le_of_ble_eq_true rfl) dX5_factorAt_27 ⟨Nat.zero_le _, Nat.zero_le _⟩ (fun H locs X => ?_)
    refine xr_icmp_lt (tgt := 43) hx hb dX5_factorAt_30 rfl hf (fun hf => ?_) (fun hf => ?_)
    · refine lv_iload hx hb dX5_factorAt_43 (lv_at hl 0 rfl) ?_
      cases hf
    · cases hf
      exact xt_throwN (rest := []) (text := "no such factor") hx hb htr hown hts hT X (by decide +kernel) (by decide +kernel) (by decide +kernel) (by decide +kernel) (by decide +kernel) (by decide +kernel) tz_hn_154 tz_hot_150_154 (hl.1.trans hml.symm) dX5_factorAt_33 dX5_factorAt_36 dX5_factorAt_37 dX5_factorAt_39 dX5_factorAt_42 hexc (Nat.le_of_ble_eq_true rfl) (Nat.le_of_ble_eq_true rfl) (Nat.le_of_ble_eq_true rfl) (Nat.le_of_ble_eq_true rfl) hlocks
  rw [fX5_factorAt] at hf
  refine lv_aload_n hx hb dX5_factorAt_0 rfl (lv_at hl 0 rfl) ?_
  refine lv_iload_n hx hb dX5_factorAt_1 rfl (lv_at hl 1 rfl) ?_
  refine xb hf (fun v1 hv1 hf => ?_)
  refine exb_c hf (fun e9 h9 hf => ?_) (fun r2 h9 hf => ?_)
  · cases hf
    exact xt_V (rest := []) ⟨hx, hb, hml, hown, hts⟩ (eX5_textOf htr (exo_s hv1 h9)) (cwV 1 hts gzX5_factorAt_X5_textOf rfl rfl rfl hqX5_textOf ⟨Nat.le_of_ble_eq_true rfl, Nat.le_of_ble_eq_true rfl⟩) X hT (va_recv X.1 X.2.1 (ci := 1) (q0 := 14) rfl wlC_14) rfl hl.1 rfl (Nat.le_of_ble_eq_true rfl) dX5_factorAt_2 ⟨Nat.le_of_ble_eq_true rfl, Nat.le_of_ble_eq_true rfl⟩ hexc hlocks
  · have hr2 : r2 < 7 := fX5_textOf_lt (exo_s hv1 h9)
    refine xc_V1 (rest := []) ⟨hx, hb, hml, hown, hts⟩ (mX5_textOf (exo_s hv1 h9)) (cwV 1 hts gzX5_factorAt_X5_textOf rfl rfl rfl hqX5_textOf ⟨Nat.le_of_ble_eq_true rfl, Nat.le_of_ble_eq_true rfl⟩) X (va_recv X.1 X.2.1 (ci := 1) (q0 := 14) rfl wlC_14) rfl hl.1 rfl (Nat.le_of_ble_eq_true rfl) dX5_factorAt_2 ⟨Nat.zero_le _, Nat.zero_le _⟩ (fun H locs X => ?_)
    refine lv_astore_n (lv' := [(3, .ref (ad r2)), (0, .ref (ad 14)), (1, .int x1), (2, .int x2)]) hx hb dX5_factorAt_5 rfl hl (by decide) rfl (fun ls hl => ?_)
    refine lv_iload_n hx hb dX5_factorAt_6 rfl (lv_at hl 3 rfl) ?_
    refine xr_if_ge (tgt := 17) hx hb dX5_factorAt_7 rfl hf (fun hf => ?_) (fun hf => ?_)
    · refine lv_aload_n hx hb dX5_factorAt_17 rfl (lv_at hl 0 rfl) ?_
      refine lv_iload_n hx hb dX5_factorAt_18 rfl (lv_at hl 3 rfl) ?_
      refine xb hf (fun v3 hv hf => ?_)
      refine xc_S1 (rest := []) ⟨hx, hb, hml, hown, hts⟩ (mX1_beginOf hr2 hv) (va_cwS 2 hts gzX5_factorAt_X1_beginOf rfl rfl rfl hqX1_beginOf ⟨Nat.le_of_ble_eq_true rfl, Nat.le_of_ble_eq_true rfl⟩) X rfl hl.1 rfl (Nat.le_of_ble_eq_true rfl) dX5_factorAt_19 ⟨Nat.zero_le _, Nat.zero_le _⟩ (fun H locs X => ?_)
      exact w22 r2 hr2 v3 hf _ _ _ X (lv_sub hl [0] rfl)
    · refine lv_aload_n hx hb dX5_factorAt_10 rfl (lv_at hl 0 rfl) ?_
      refine xb hf (fun v5 hv hf => ?_)
      refine xc_V1 (rest := []) ⟨hx, hb, hml, hown, hts⟩ (mX4_size hr2 hv) (cwV 0 hts gzX5_factorAt_X4_size rfl rfl rfl hqX4_size ⟨Nat.le_of_ble_eq_true rfl, Nat.le_of_ble_eq_true rfl⟩) X (va_recv X.1 X.2.1 (ci := 0) (q0 := r2) rfl (wlC_t hr2)) rfl hl.1 rfl (Nat.le_of_ble_eq_true rfl) dX5_factorAt_11 ⟨Nat.zero_le _, Nat.zero_le _⟩ (fun H locs X => ?_)
      refine lv_goto (tgt := 22) hx hb dX5_factorAt_14 rfl ?_
      exact w22 r2 hr2 v5 hf _ _ _ X (lv_sub hl [0] rfl)
set_option maxRecDepth 100000 in
set_option maxHeartbeats 4000000 in
theorem mzX5_endAt {l : Launch} {dd : va_G} {cy : Nat → ClassId} {ad : Nat → Nat} {A : Nat → Prop} {fu : Nat} {ts : Nat → Int32} {tc : Nat → Nat → Int32} {rk : Nat → Int32} {pl : Nat → Int32} {ru : Nat → Int64} {sl : Nat → Int32} {bg : Nat → Int32} {kn : Nat → Int64} {rm : Int32} {ol : Nat → Int64} {od : Nat → UInt64} {x1 : Int32} {x2 : Int32} {rv : Int32} {rko : Nat → Int32} {plo : Nat → Int32} (hf : fX5_endAt fu ts tc rk pl x1 x2 = some (.ok rv, rko, plo)) : Met l yX5_endAt wzX5_endAt { frames := 4, cells := 0, slots := 0, locals := 95 } (va_Pc [.ref (ad 14), .int x1, .int x2] (IW dd cy A (wlC ad cy ts tc rk pl ru sl bg kn rm ol od))) (QX dd cy A (some (.int rv)) (wlC ad cy ts tc rko plo ru sl bg kn rm ol od)) 0 0 A := by
  refine Met.ofW (cc := cX5_endAt) (maxL := 4) (ret := some .int) (by decide) rfl ?_
  intro p e s m args below meth c s₁ B hml hv
  obtain ⟨hav, hI⟩ := hv
  have hx := B.exec
  have hb := B.bytes
  have hr := B.returns
  have hts := atoms_spec (ws := wzX5_endAt) B.pre
  have hown : s.vm.findClass RX5 = some m.cls := findClass_of_methodNamed B.named
  have hlocks := B.notSynchronized
  have X := XW.of hI
  have h5 : ∀ w ∈ wsX50, w ∈ wzX5_endAt := by decide +kernel
  refine xe_in hav (Nat.le_of_ble_eq_true rfl) rfl (fun ls hl => ?_)
  rw [fX5_endAt] at hf
  refine lv_aload_n hx hb dX5_endAt_0 rfl (lv_at hl 0 rfl) ?_
  refine lv_iload_n hx hb dX5_endAt_1 rfl (lv_at hl 1 rfl) ?_
  refine xb hf (fun v1 hv1 hf => ?_)
  refine exb_c hf (fun e9 h9 hf => ?_) (fun r2 h9 hf => ?_)
  · cases hf
  · have hr2 : r2 < 7 := fX5_textOf_lt (exo_s hv1 h9)
    refine xc_V1 (rest := []) ⟨hx, hb, hml, hown, hts⟩ (mX5_textOf (exo_s hv1 h9)) (cwV 1 hts gzX5_endAt_X5_textOf rfl rfl rfl hqX5_textOf ⟨Nat.le_of_ble_eq_true rfl, Nat.le_of_ble_eq_true rfl⟩) X (va_recv X.1 X.2.1 (ci := 1) (q0 := 14) rfl wlC_14) rfl hl.1 rfl (Nat.le_of_ble_eq_true rfl) dX5_endAt_2 ⟨Nat.zero_le _, Nat.zero_le _⟩ (fun H locs X => ?_)
    refine lv_astore_n (lv' := [(3, .ref (ad r2)), (0, .ref (ad 14)), (1, .int x1), (2, .int x2)]) hx hb dX5_endAt_5 rfl hl (by decide) rfl (fun ls hl => ?_)
    refine lv_iload_n hx hb dX5_endAt_6 rfl (lv_at hl 3 rfl) ?_
    refine xr_if_lt (tgt := 18) hx hb dX5_endAt_7 rfl hf (fun hf => ?_) (fun hf => ?_)
    · cases hf
    · refine lv_iload_n hx hb dX5_endAt_10 rfl (lv_at hl 3 rfl) ?_
      refine lv_aload_n hx hb dX5_endAt_11 rfl (lv_at hl 0 rfl) ?_
      refine xb hf (fun v3 hv hf => ?_)
      refine xc_V1 (rest := [.int x2]) ⟨hx, hb, hml, hown, hts⟩ (mX4_size hr2 hv) (cwV 0 hts gzX5_endAt_X4_size rfl rfl rfl hqX4_size ⟨Nat.le_of_ble_eq_true rfl, Nat.le_of_ble_eq_true rfl⟩) X (va_recv X.1 X.2.1 (ci := 0) (q0 := r2) rfl (wlC_t hr2)) rfl hl.1 rfl (Nat.le_of_ble_eq_true rfl) dX5_endAt_12 ⟨Nat.zero_le _, Nat.zero_le _⟩ (fun H locs X => ?_)
      refine xr_icmp_lt (tgt := 28) hx hb dX5_endAt_15 rfl hf (fun hf => ?_) (fun hf => ?_)
      · refine lv_aload_n hx hb dX5_endAt_28 rfl (lv_at hl 1 rfl) ?_
        refine xg_f hx hb hts hown X h5 14 wlC_14 rfl 2 (by decide) (by decide +kernel) (v := .ref (ad 16)) rfl dX5_endAt_29 ?_
        refine lv_aload_n hx hb dX5_endAt_32 rfl (lv_at hl 0 rfl) ?_
        refine xb hf (fun v4 hv hf => ?_)
        refine xc_V0 (rest := []) ⟨hx, hb, hml, hown, hts⟩ (mX0_arrange hr2 hv) (cwV 1 hts gzX5_endAt_X0_arrange rfl rfl rfl hqX0_arrange ⟨Nat.le_of_ble_eq_true rfl, Nat.le_of_ble_eq_true rfl⟩) X (va_recv X.1 X.2.1 (ci := 2) (q0 := 16) rfl wlC_16) rfl hl.1 rfl (Nat.le_of_ble_eq_true rfl) dX5_endAt_33 ⟨Nat.zero_le _, Nat.zero_le _⟩ (fun H locs X => ?_)
        refine lv_aload_n hx hb dX5_endAt_36 rfl (lv_at hl 1 rfl) ?_
        refine xg_f hx hb hts hown X h5 14 wlC_14 rfl 2 (by decide) (by decide +kernel) (v := .ref (ad 16)) rfl dX5_endAt_37 ?_
        refine lv_iload_n hx hb dX5_endAt_40 rfl (lv_at hl 3 rfl) ?_
        refine xb hf (fun v5 hv hf => ?_)
        refine xc_V1 (rest := []) ⟨hx, hb, hml, hown, hts⟩ (mX0_placeBy hv) (cwV 1 hts gzX5_endAt_X0_placeBy rfl rfl rfl hqX0_placeBy ⟨Nat.le_of_ble_eq_true rfl, Nat.le_of_ble_eq_true rfl⟩) X (va_recv X.1 X.2.1 (ci := 2) (q0 := 16) rfl wlC_16) rfl hl.1 rfl (Nat.le_of_ble_eq_true rfl) dX5_endAt_41 ⟨Nat.zero_le _, Nat.zero_le _⟩ (fun H locs X => ?_)
        cases hf
        exact xe_i hx hb hr hlocks X dX5_endAt_44
      · cases hf
set_option maxRecDepth 100000 in
set_option maxHeartbeats 4000000 in
theorem ezX5_endAt {l : Launch} {dd : va_G} {cy : Nat → ClassId} {ad : Nat → Nat} {A : Nat → Prop} {fu : Nat} {ts : Nat → Int32} {tc : Nat → Nat → Int32} {rk : Nat → Int32} {pl : Nat → Int32} {ru : Nat → Int64} {sl : Nat → Int32} {bg : Nat → Int32} {kn : Nat → Int64} {rm : Int32} {ol : Nat → Int64} {od : Nat → UInt64} {x1 : Int32} {x2 : Int32} {E9 : String} {rko : Nat → Int32} {plo : Nat → Int32} (htr : l.stackTraces = false) (hf : fX5_endAt fu ts tc rk pl x1 x2 = some (.error E9, rko, plo)) : vx_Met l yX5_endAt wzX5_endAt { frames := 7, cells := 1, slots := 6, locals := 121 } (va_Pc [.ref (ad 14), .int x1, .int x2] (IT dd cy A (wlC ad cy ts tc rk pl ru sl bg kn rm ol od))) (fun _ _ _ _ => False) (XE dd cy A E9 (wlC ad cy ts tc rko plo ru sl bg kn rm ol od)) 1 6 A := by
  refine vx_ofW (cc := cX5_endAt) (maxL := 4) (ret := some .int) (by decide) rfl ?_
  intro p e s m args below meth c s₁ B hml hexc hv
  obtain ⟨hav, hI, hT⟩ := hv
  have hx := B.exec
  have hb := B.bytes
  have hr := B.returns
  have hts := atoms_spec (ws := wzX5_endAt) B.pre
  have hown : s.vm.findClass RX5 = some m.cls := findClass_of_methodNamed B.named
  have hlocks := B.notSynchronized
  have X := XW.of hI
  have h5 : ∀ w ∈ wsX50, w ∈ wzX5_endAt := by decide +kernel
  refine xe_in hav (Nat.le_of_ble_eq_true rfl) rfl (fun ls hl => ?_)
  rw [fX5_endAt] at hf
  refine lv_aload_n hx hb dX5_endAt_0 rfl (lv_at hl 0 rfl) ?_
  refine lv_iload_n hx hb dX5_endAt_1 rfl (lv_at hl 1 rfl) ?_
  refine xb hf (fun v1 hv1 hf => ?_)
  refine exb_c hf (fun e9 h9 hf => ?_) (fun r2 h9 hf => ?_)
  · cases hf
    exact xt_V (rest := []) ⟨hx, hb, hml, hown, hts⟩ (eX5_textOf htr (exo_s hv1 h9)) (cwV 1 hts gzX5_endAt_X5_textOf rfl rfl rfl hqX5_textOf ⟨Nat.le_of_ble_eq_true rfl, Nat.le_of_ble_eq_true rfl⟩) X hT (va_recv X.1 X.2.1 (ci := 1) (q0 := 14) rfl wlC_14) rfl hl.1 rfl (Nat.le_of_ble_eq_true rfl) dX5_endAt_2 ⟨Nat.le_of_ble_eq_true rfl, Nat.le_of_ble_eq_true rfl⟩ hexc hlocks
  · have hr2 : r2 < 7 := fX5_textOf_lt (exo_s hv1 h9)
    refine xc_V1 (rest := []) ⟨hx, hb, hml, hown, hts⟩ (mX5_textOf (exo_s hv1 h9)) (cwV 1 hts gzX5_endAt_X5_textOf rfl rfl rfl hqX5_textOf ⟨Nat.le_of_ble_eq_true rfl, Nat.le_of_ble_eq_true rfl⟩) X (va_recv X.1 X.2.1 (ci := 1) (q0 := 14) rfl wlC_14) rfl hl.1 rfl (Nat.le_of_ble_eq_true rfl) dX5_endAt_2 ⟨Nat.zero_le _, Nat.zero_le _⟩ (fun H locs X => ?_)
    refine lv_astore_n (lv' := [(3, .ref (ad r2)), (0, .ref (ad 14)), (1, .int x1), (2, .int x2)]) hx hb dX5_endAt_5 rfl hl (by decide) rfl (fun ls hl => ?_)
    refine lv_iload_n hx hb dX5_endAt_6 rfl (lv_at hl 3 rfl) ?_
    refine xr_if_lt (tgt := 18) hx hb dX5_endAt_7 rfl hf (fun hf => ?_) (fun hf => ?_)
    · cases hf
      exact xt_throwN (rest := []) (text := "no such end") hx hb htr hown hts hT X (by decide +kernel) (by decide +kernel) (by decide +kernel) (by decide +kernel) (by decide +kernel) (by decide +kernel) tz_hn_154 tz_hot_150_154 (hl.1.trans hml.symm) dX5_endAt_18 dX5_endAt_21 dX5_endAt_22 dX5_endAt_24 dX5_endAt_27 hexc (Nat.le_of_ble_eq_true rfl) (Nat.le_of_ble_eq_true rfl) (Nat.le_of_ble_eq_true rfl) (Nat.le_of_ble_eq_true rfl) hlocks
    · refine lv_iload_n hx hb dX5_endAt_10 rfl (lv_at hl 3 rfl) ?_
      refine lv_aload_n hx hb dX5_endAt_11 rfl (lv_at hl 0 rfl) ?_
      refine xb hf (fun v3 hv hf => ?_)
      refine xc_V1 (rest := [.int x2]) ⟨hx, hb, hml, hown, hts⟩ (mX4_size hr2 hv) (cwV 0 hts gzX5_endAt_X4_size rfl rfl rfl hqX4_size ⟨Nat.le_of_ble_eq_true rfl, Nat.le_of_ble_eq_true rfl⟩) X (va_recv X.1 X.2.1 (ci := 0) (q0 := r2) rfl (wlC_t hr2)) rfl hl.1 rfl (Nat.le_of_ble_eq_true rfl) dX5_endAt_12 ⟨Nat.zero_le _, Nat.zero_le _⟩ (fun H locs X => ?_)
      refine xr_icmp_lt (tgt := 28) hx hb dX5_endAt_15 rfl hf (fun hf => ?_) (fun hf => ?_)
      · refine lv_aload_n hx hb dX5_endAt_28 rfl (lv_at hl 1 rfl) ?_
        refine xg_f hx hb hts hown X h5 14 wlC_14 rfl 2 (by decide) (by decide +kernel) (v := .ref (ad 16)) rfl dX5_endAt_29 ?_
        refine lv_aload_n hx hb dX5_endAt_32 rfl (lv_at hl 0 rfl) ?_
        refine xb hf (fun v4 hv hf => ?_)
        refine xc_V0 (rest := []) ⟨hx, hb, hml, hown, hts⟩ (mX0_arrange hr2 hv) (cwV 1 hts gzX5_endAt_X0_arrange rfl rfl rfl hqX0_arrange ⟨Nat.le_of_ble_eq_true rfl, Nat.le_of_ble_eq_true rfl⟩) X (va_recv X.1 X.2.1 (ci := 2) (q0 := 16) rfl wlC_16) rfl hl.1 rfl (Nat.le_of_ble_eq_true rfl) dX5_endAt_33 ⟨Nat.zero_le _, Nat.zero_le _⟩ (fun H locs X => ?_)
        refine lv_aload_n hx hb dX5_endAt_36 rfl (lv_at hl 1 rfl) ?_
        refine xg_f hx hb hts hown X h5 14 wlC_14 rfl 2 (by decide) (by decide +kernel) (v := .ref (ad 16)) rfl dX5_endAt_37 ?_
        refine lv_iload_n hx hb dX5_endAt_40 rfl (lv_at hl 3 rfl) ?_
        refine xb hf (fun v5 hv hf => ?_)
        refine xc_V1 (rest := []) ⟨hx, hb, hml, hown, hts⟩ (mX0_placeBy hv) (cwV 1 hts gzX5_endAt_X0_placeBy rfl rfl rfl hqX0_placeBy ⟨Nat.le_of_ble_eq_true rfl, Nat.le_of_ble_eq_true rfl⟩) X (va_recv X.1 X.2.1 (ci := 2) (q0 := 16) rfl wlC_16) rfl hl.1 rfl (Nat.le_of_ble_eq_true rfl) dX5_endAt_41 ⟨Nat.zero_le _, Nat.zero_le _⟩ (fun H locs X => ?_)
        cases hf
      · cases hf
        exact xt_throwN (rest := []) (text := "no such end") hx hb htr hown hts hT X (by decide +kernel) (by decide +kernel) (by decide +kernel) (by decide +kernel) (by decide +kernel) (by decide +kernel) tz_hn_154 tz_hot_150_154 (hl.1.trans hml.symm) dX5_endAt_18 dX5_endAt_21 dX5_endAt_22 dX5_endAt_24 dX5_endAt_27 hexc (Nat.le_of_ble_eq_true rfl) (Nat.le_of_ble_eq_true rfl) (Nat.le_of_ble_eq_true rfl) (Nat.le_of_ble_eq_true rfl) hlocks
set_option maxRecDepth 100000 in
set_option maxHeartbeats 4000000 in
theorem mzL_periodAt {l : Launch} {dd : va_G} {cy : Nat → ClassId} {ad : Nat → Nat} {A : Nat → Prop} {fu : Nat} {ts : Nat → Int32} {tc : Nat → Nat → Int32} {rk : Nat → Int32} {pl : Nat → Int32} {ru : Nat → Int64} {sl : Nat → Int32} {bg : Nat → Int32} {kn : Nat → Int64} {rm : Int32} {ol : Nat → Int64} {od : Nat → UInt64} {x1 : Int32} {x2 : Int32} {rv : Int32} {olo : Nat → Int64} (htr : l.stackTraces = false) (hf : fL_periodAt fu ts tc ol x1 x2 = some (rv, olo)) : Met l yL_periodAt wzL_periodAt { frames := 8, cells := 1, slots := 6, locals := 146 } (va_Pc [.ref (ad 14), .int x1, .int x2, .ref (ad 24)] (IT dd cy A (wlC ad cy ts tc rk pl ru sl bg kn rm ol od))) (QX dd cy A (some (.int rv)) (wlC ad cy ts tc rk pl ru sl bg kn rm olo od)) 1 6 A := by
  refine va_MetW (cc := cL_periodAt) (maxL := 5) (ret := some .int) (by decide) rfl ?_
  intro p e s m args below meth c s₁ B hml hv
  obtain ⟨hav, hI, hT⟩ := hv
  have hx := B.exec
  have hb := B.bytes
  have hr := B.returns
  have hts := atoms_spec (ws := wzL_periodAt) B.pre
  have hown : s.vm.findClass RL = some m.cls := findClass_of_methodNamed B.named
  have hlocks := B.notSynchronized
  have X := XW.of hI
  have htab : c.exceptionTable.toList = tableOf [(0, 10, 13, 13), (0, 10, 17, 95)] := vx_table (x := yL_periodAt) B (hts (.codeWith yL_periodAt cL_periodAt 5 (some .int) [(0, 10, 13, 13), (0, 10, 17, 95)]) List.mem_cons_self)
  refine xe_in hav (Nat.le_of_ble_eq_true rfl) rfl (fun ls hl => ?_)
  rw [fL_periodAt] at hf
  refine lv_aload_n hx hb dL_periodAt_0 rfl (lv_at hl 3 rfl) ?_
  refine lv_iconst (v := (0 : Int32)) hx hb dL_periodAt_1 rfl ?_
  refine lv_aload_n hx hb dL_periodAt_2 rfl (lv_at hl 0 rfl) ?_
  refine lv_iload_n hx hb dL_periodAt_3 rfl (lv_at hl 1 rfl) ?_
  refine lv_iload_n hx hb dL_periodAt_4 rfl (lv_at hl 2 rfl) ?_
  refine xb hf (fun v1 hv1 hf => ?_)
  refine exb_c hf (fun e9 h9 hf => ?_) (fun r2 h9 hf => ?_)
  · refine xr_str hf (fun he hf => ?_) (fun hf => ?_)
    · subst he
      refine xt_VC (rest := [.int (0 : Int32), .ref (ad 24)]) ⟨hx, hb, hml, hown, hts⟩ (ezX5_periodAt htr (exo_s hv1 h9)) (cwV 2 hts gzL_periodAt_X5_periodAt rfl rfl rfl hqX5_periodAt ⟨Nat.le_of_ble_eq_true rfl, Nat.le_of_ble_eq_true rfl⟩) X hT (va_recv X.1 X.2.1 (ci := 1) (q0 := 14) rfl wlC_14) rfl hl.1 rfl (Nat.le_of_ble_eq_true rfl) dL_periodAt_5 ⟨Nat.le_of_ble_eq_true rfl, Nat.le_of_ble_eq_true rfl⟩ [] ⟨0, 10, 13, 13⟩ [⟨0, 10, 17, 95⟩] htab xt_p0 (by decide) (by decide) (by decide +kernel) (by decide +kernel) (fun q9 H locs X => ?_)
      refine lv_astore (lv' := [(4, .ref q9), (0, .ref (ad 14)), (1, .int x1), (2, .int x2), (3, .ref (ad 24))]) hx hb dL_periodAt_13 hl (by decide) rfl (fun ls hl => ?_)
      refine lv_iconst (v := (1 : Int32)) hx hb dL_periodAt_15 rfl ?_
      cases hf
      exact xe_i6 hx hb hr hlocks X dL_periodAt_16
    refine xr_str hf (fun he hf => ?_) (fun hf => ?_)
    · subst he
      refine xt_VC (rest := [.int (0 : Int32), .ref (ad 24)]) ⟨hx, hb, hml, hown, hts⟩ (ezX5_periodAt htr (exo_s hv1 h9)) (cwV 2 hts gzL_periodAt_X5_periodAt rfl rfl rfl hqX5_periodAt ⟨Nat.le_of_ble_eq_true rfl, Nat.le_of_ble_eq_true rfl⟩) X hT (va_recv X.1 X.2.1 (ci := 1) (q0 := 14) rfl wlC_14) rfl hl.1 rfl (Nat.le_of_ble_eq_true rfl) dL_periodAt_5 ⟨Nat.le_of_ble_eq_true rfl, Nat.le_of_ble_eq_true rfl⟩ [⟨0, 10, 13, 13⟩] ⟨0, 10, 17, 95⟩ [] htab (xt_p1 hts hT (nm := "java/lang/IndexOutOfBoundsException") (by decide) (by decide +kernel) (by decide +kernel) xt_p0) (by decide) (by decide) (by decide +kernel) (by decide +kernel) (fun q9 H locs X => ?_)
      refine lv_astore (lv' := [(4, .ref q9), (0, .ref (ad 14)), (1, .int x1), (2, .int x2), (3, .ref (ad 24))]) hx hb dL_periodAt_17 hl (by decide) rfl (fun ls hl => ?_)
      refine lv_iconst (v := (2 : Int32)) hx hb dL_periodAt_19 rfl ?_
      cases hf
      exact xe_i6 hx hb hr hlocks X dL_periodAt_20
    cases hf
  · refine xc_V1 (rest := [.int (0 : Int32), .ref (ad 24)]) ⟨hx, hb, hml, hown, hts⟩ (mzX5_periodAt (exo_s hv1 h9)) (cwV 2 hts gzL_periodAt_X5_periodAt rfl rfl rfl hqX5_periodAt ⟨Nat.le_of_ble_eq_true rfl, Nat.le_of_ble_eq_true rfl⟩) X (va_recv X.1 X.2.1 (ci := 1) (q0 := 14) rfl wlC_14) rfl hl.1 rfl (Nat.le_of_ble_eq_true rfl) dL_periodAt_5 ⟨Nat.zero_le _, Nat.zero_le _⟩ (fun H locs X => ?_)
    refine lv_i2l (v := (r2.toInt64)) hx hb dL_periodAt_8 rfl ?_
    refine xa_last hx hb X 24 wlC_24 wlC_s_ol dL_periodAt_9 hf (fun g3 H locs hf X => ?_)
    refine lv_goto (tgt := 21) hx hb dL_periodAt_10 rfl ?_
    refine lv_iconst (v := (0 : Int32)) hx hb dL_periodAt_21 rfl ?_
    cases hf
    refine W.widen (k := 1) (n := 6) (by decide) (by decide) ?_
    exact xe_i6 hx hb hr hlocks X dL_periodAt_22
set_option maxRecDepth 100000 in
set_option maxHeartbeats 4000000 in
theorem mzL_factorAt {l : Launch} {dd : va_G} {cy : Nat → ClassId} {ad : Nat → Nat} {A : Nat → Prop} {fu : Nat} {ts : Nat → Int32} {tc : Nat → Nat → Int32} {rk : Nat → Int32} {pl : Nat → Int32} {ru : Nat → Int64} {sl : Nat → Int32} {bg : Nat → Int32} {kn : Nat → Int64} {rm : Int32} {ol : Nat → Int64} {od : Nat → UInt64} {x1 : Int32} {x2 : Int32} {rv : Int32} {olo : Nat → Int64} (htr : l.stackTraces = false) (hf : fL_factorAt fu ts tc ol x1 x2 = some (rv, olo)) : Met l yL_factorAt wzL_factorAt { frames := 8, cells := 1, slots := 6, locals := 145 } (va_Pc [.ref (ad 14), .int x1, .int x2, .ref (ad 24)] (IT dd cy A (wlC ad cy ts tc rk pl ru sl bg kn rm ol od))) (QX dd cy A (some (.int rv)) (wlC ad cy ts tc rk pl ru sl bg kn rm olo od)) 1 6 A := by
  refine va_MetW (cc := cL_factorAt) (maxL := 5) (ret := some .int) (by decide) rfl ?_
  intro p e s m args below meth c s₁ B hml hv
  obtain ⟨hav, hI, hT⟩ := hv
  have hx := B.exec
  have hb := B.bytes
  have hr := B.returns
  have hts := atoms_spec (ws := wzL_factorAt) B.pre
  have hown : s.vm.findClass RL = some m.cls := findClass_of_methodNamed B.named
  have hlocks := B.notSynchronized
  have X := XW.of hI
  have htab : c.exceptionTable.toList = tableOf [(0, 10, 13, 13), (0, 10, 17, 95)] := vx_table (x := yL_factorAt) B (hts (.codeWith yL_factorAt cL_factorAt 5 (some .int) [(0, 10, 13, 13), (0, 10, 17, 95)]) List.mem_cons_self)
  refine xe_in hav (Nat.le_of_ble_eq_true rfl) rfl (fun ls hl => ?_)
  rw [fL_factorAt] at hf
  refine lv_aload_n hx hb dL_factorAt_0 rfl (lv_at hl 3 rfl) ?_
  refine lv_iconst (v := (0 : Int32)) hx hb dL_factorAt_1 rfl ?_
  refine lv_aload_n hx hb dL_factorAt_2 rfl (lv_at hl 0 rfl) ?_
  refine lv_iload_n hx hb dL_factorAt_3 rfl (lv_at hl 1 rfl) ?_
  refine lv_iload_n hx hb dL_factorAt_4 rfl (lv_at hl 2 rfl) ?_
  refine xb hf (fun v1 hv1 hf => ?_)
  refine exb_c hf (fun e9 h9 hf => ?_) (fun r2 h9 hf => ?_)
  · refine xr_str hf (fun he hf => ?_) (fun hf => ?_)
    · subst he
      refine xt_VC (rest := [.int (0 : Int32), .ref (ad 24)]) ⟨hx, hb, hml, hown, hts⟩ (ezX5_factorAt htr (exo_s hv1 h9)) (cwV 2 hts gzL_factorAt_X5_factorAt rfl rfl rfl hqX5_factorAt ⟨Nat.le_of_ble_eq_true rfl, Nat.le_of_ble_eq_true rfl⟩) X hT (va_recv X.1 X.2.1 (ci := 1) (q0 := 14) rfl wlC_14) rfl hl.1 rfl (Nat.le_of_ble_eq_true rfl) dL_factorAt_5 ⟨Nat.le_of_ble_eq_true rfl, Nat.le_of_ble_eq_true rfl⟩ [] ⟨0, 10, 13, 13⟩ [⟨0, 10, 17, 95⟩] htab xt_p0 (by decide) (by decide) (by decide +kernel) (by decide +kernel) (fun q9 H locs X => ?_)
      refine lv_astore (lv' := [(4, .ref q9), (0, .ref (ad 14)), (1, .int x1), (2, .int x2), (3, .ref (ad 24))]) hx hb dL_factorAt_13 hl (by decide) rfl (fun ls hl => ?_)
      refine lv_iconst (v := (1 : Int32)) hx hb dL_factorAt_15 rfl ?_
      cases hf
      exact xe_i6 hx hb hr hlocks X dL_factorAt_16
    refine xr_str hf (fun he hf => ?_) (fun hf => ?_)
    · subst he
      refine xt_VC (rest := [.int (0 : Int32), .ref (ad 24)]) ⟨hx, hb, hml, hown, hts⟩ (ezX5_factorAt htr (exo_s hv1 h9)) (cwV 2 hts gzL_factorAt_X5_factorAt rfl rfl rfl hqX5_factorAt ⟨Nat.le_of_ble_eq_true rfl, Nat.le_of_ble_eq_true rfl⟩) X hT (va_recv X.1 X.2.1 (ci := 1) (q0 := 14) rfl wlC_14) rfl hl.1 rfl (Nat.le_of_ble_eq_true rfl) dL_factorAt_5 ⟨Nat.le_of_ble_eq_true rfl, Nat.le_of_ble_eq_true rfl⟩ [⟨0, 10, 13, 13⟩] ⟨0, 10, 17, 95⟩ [] htab (xt_p1 hts hT (nm := "java/lang/IndexOutOfBoundsException") (by decide) (by decide +kernel) (by decide +kernel) xt_p0) (by decide) (by decide) (by decide +kernel) (by decide +kernel) (fun q9 H locs X => ?_)
      refine lv_astore (lv' := [(4, .ref q9), (0, .ref (ad 14)), (1, .int x1), (2, .int x2), (3, .ref (ad 24))]) hx hb dL_factorAt_17 hl (by decide) rfl (fun ls hl => ?_)
      refine lv_iconst (v := (2 : Int32)) hx hb dL_factorAt_19 rfl ?_
      cases hf
      exact xe_i6 hx hb hr hlocks X dL_factorAt_20
    cases hf
  · refine xc_V1 (rest := [.int (0 : Int32), .ref (ad 24)]) ⟨hx, hb, hml, hown, hts⟩ (mzX5_factorAt (exo_s hv1 h9)) (cwV 2 hts gzL_factorAt_X5_factorAt rfl rfl rfl hqX5_factorAt ⟨Nat.le_of_ble_eq_true rfl, Nat.le_of_ble_eq_true rfl⟩) X (va_recv X.1 X.2.1 (ci := 1) (q0 := 14) rfl wlC_14) rfl hl.1 rfl (Nat.le_of_ble_eq_true rfl) dL_factorAt_5 ⟨Nat.zero_le _, Nat.zero_le _⟩ (fun H locs X => ?_)
    refine lv_i2l (v := (r2.toInt64)) hx hb dL_factorAt_8 rfl ?_
    refine xa_last hx hb X 24 wlC_24 wlC_s_ol dL_factorAt_9 hf (fun g3 H locs hf X => ?_)
    refine lv_goto (tgt := 21) hx hb dL_factorAt_10 rfl ?_
    refine lv_iconst (v := (0 : Int32)) hx hb dL_factorAt_21 rfl ?_
    cases hf
    refine W.widen (k := 1) (n := 6) (by decide) (by decide) ?_
    exact xe_i6 hx hb hr hlocks X dL_factorAt_22
set_option maxRecDepth 100000 in
set_option maxHeartbeats 4000000 in
theorem mzL_endAt {l : Launch} {dd : va_G} {cy : Nat → ClassId} {ad : Nat → Nat} {A : Nat → Prop} {fu : Nat} {ts : Nat → Int32} {tc : Nat → Nat → Int32} {rk : Nat → Int32} {pl : Nat → Int32} {ru : Nat → Int64} {sl : Nat → Int32} {bg : Nat → Int32} {kn : Nat → Int64} {rm : Int32} {ol : Nat → Int64} {od : Nat → UInt64} {x1 : Int32} {x2 : Int32} {rv : Int32} {rko : Nat → Int32} {plo : Nat → Int32} {olo : Nat → Int64} (htr : l.stackTraces = false) (hf : fL_endAt fu ts tc rk pl ol x1 x2 = some (rv, rko, plo, olo)) : Met l yL_endAt wzL_endAt { frames := 8, cells := 1, slots := 6, locals := 144 } (va_Pc [.ref (ad 14), .int x1, .int x2, .ref (ad 24)] (IT dd cy A (wlC ad cy ts tc rk pl ru sl bg kn rm ol od))) (QX dd cy A (some (.int rv)) (wlC ad cy ts tc rko plo ru sl bg kn rm olo od)) 1 6 A := by
  refine va_MetW (cc := cL_endAt) (maxL := 5) (ret := some .int) (by decide) rfl ?_
  intro p e s m args below meth c s₁ B hml hv
  obtain ⟨hav, hI, hT⟩ := hv
  have hx := B.exec
  have hb := B.bytes
  have hr := B.returns
  have hts := atoms_spec (ws := wzL_endAt) B.pre
  have hown : s.vm.findClass RL = some m.cls := findClass_of_methodNamed B.named
  have hlocks := B.notSynchronized
  have X := XW.of hI
  have htab : c.exceptionTable.toList = tableOf [(0, 10, 13, 13), (0, 10, 17, 95)] := vx_table (x := yL_endAt) B (hts (.codeWith yL_endAt cL_endAt 5 (some .int) [(0, 10, 13, 13), (0, 10, 17, 95)]) List.mem_cons_self)
  refine xe_in hav (Nat.le_of_ble_eq_true rfl) rfl (fun ls hl => ?_)
  rw [fL_endAt] at hf
  refine lv_aload_n hx hb dL_endAt_0 rfl (lv_at hl 3 rfl) ?_
  refine lv_iconst (v := (0 : Int32)) hx hb dL_endAt_1 rfl ?_
  refine lv_aload_n hx hb dL_endAt_2 rfl (lv_at hl 0 rfl) ?_
  refine lv_iload_n hx hb dL_endAt_3 rfl (lv_at hl 1 rfl) ?_
  refine lv_iload_n hx hb dL_endAt_4 rfl (lv_at hl 2 rfl) ?_
  refine xb hf (fun v1 hv1 hf => ?_)
  refine exb_c hf (fun e9 h9 hf => ?_) (fun r2 h9 hf => ?_)
  · refine xr_str hf (fun he hf => ?_) (fun hf => ?_)
    · subst he
      refine xt_VC (rest := [.int (0 : Int32), .ref (ad 24)]) ⟨hx, hb, hml, hown, hts⟩ (ezX5_endAt htr (exo_p hv1 h9)) (cwV 2 hts gzL_endAt_X5_endAt rfl rfl rfl hqX5_endAt ⟨Nat.le_of_ble_eq_true rfl, Nat.le_of_ble_eq_true rfl⟩) X hT (va_recv X.1 X.2.1 (ci := 1) (q0 := 14) rfl wlC_14) rfl hl.1 rfl (Nat.le_of_ble_eq_true rfl) dL_endAt_5 ⟨Nat.le_of_ble_eq_true rfl, Nat.le_of_ble_eq_true rfl⟩ [] ⟨0, 10, 13, 13⟩ [⟨0, 10, 17, 95⟩] htab xt_p0 (by decide) (by decide) (by decide +kernel) (by decide +kernel) (fun q9 H locs X => ?_)
      refine lv_astore (lv' := [(4, .ref q9), (0, .ref (ad 14)), (1, .int x1), (2, .int x2), (3, .ref (ad 24))]) hx hb dL_endAt_13 hl (by decide) rfl (fun ls hl => ?_)
      refine lv_iconst (v := (1 : Int32)) hx hb dL_endAt_15 rfl ?_
      cases hf
      exact xe_i6 hx hb hr hlocks X dL_endAt_16
    refine xr_str hf (fun he hf => ?_) (fun hf => ?_)
    · subst he
      refine xt_VC (rest := [.int (0 : Int32), .ref (ad 24)]) ⟨hx, hb, hml, hown, hts⟩ (ezX5_endAt htr (exo_p hv1 h9)) (cwV 2 hts gzL_endAt_X5_endAt rfl rfl rfl hqX5_endAt ⟨Nat.le_of_ble_eq_true rfl, Nat.le_of_ble_eq_true rfl⟩) X hT (va_recv X.1 X.2.1 (ci := 1) (q0 := 14) rfl wlC_14) rfl hl.1 rfl (Nat.le_of_ble_eq_true rfl) dL_endAt_5 ⟨Nat.le_of_ble_eq_true rfl, Nat.le_of_ble_eq_true rfl⟩ [⟨0, 10, 13, 13⟩] ⟨0, 10, 17, 95⟩ [] htab (xt_p1 hts hT (nm := "java/lang/IndexOutOfBoundsException") (by decide) (by decide +kernel) (by decide +kernel) xt_p0) (by decide) (by decide) (by decide +kernel) (by decide +kernel) (fun q9 H locs X => ?_)
      refine lv_astore (lv' := [(4, .ref q9), (0, .ref (ad 14)), (1, .int x1), (2, .int x2), (3, .ref (ad 24))]) hx hb dL_endAt_17 hl (by decide) rfl (fun ls hl => ?_)
      refine lv_iconst (v := (2 : Int32)) hx hb dL_endAt_19 rfl ?_
      cases hf
      exact xe_i6 hx hb hr hlocks X dL_endAt_20
    cases hf
  · refine xc_V1 (rest := [.int (0 : Int32), .ref (ad 24)]) ⟨hx, hb, hml, hown, hts⟩ (mzX5_endAt (exo_p hv1 h9)) (cwV 2 hts gzL_endAt_X5_endAt rfl rfl rfl hqX5_endAt ⟨Nat.le_of_ble_eq_true rfl, Nat.le_of_ble_eq_true rfl⟩) X (va_recv X.1 X.2.1 (ci := 1) (q0 := 14) rfl wlC_14) rfl hl.1 rfl (Nat.le_of_ble_eq_true rfl) dL_endAt_5 ⟨Nat.zero_le _, Nat.zero_le _⟩ (fun H locs X => ?_)
    refine lv_i2l (v := (r2.toInt64)) hx hb dL_endAt_8 rfl ?_
    refine xa_last hx hb X 24 wlC_24 wlC_s_ol dL_endAt_9 hf (fun g3 H locs hf X => ?_)
    refine lv_goto (tgt := 21) hx hb dL_endAt_10 rfl ?_
    refine lv_iconst (v := (0 : Int32)) hx hb dL_endAt_21 rfl ?_
    cases hf
    refine W.widen (k := 1) (n := 6) (by decide) (by decide) ?_
    exact xe_i6 hx hb hr hlocks X dL_endAt_22
