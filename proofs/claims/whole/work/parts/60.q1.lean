/-! THE COMPARISONS, call by call: the class's answer (as the law's catching wrapper gives it) is the model's, and both hold the same texts again -/
theorem st0 {α : Type} {f : Nat → α} {v : α} : stA f 1 (0 : Int32) v = some (updL f 0 v) := stA_nI (k := 0) (by decide) (by decide)
theorem sn_20 : ("java/lang/IllegalStateException" = "java/lang/IndexOutOfBoundsException") = False := eq_false (by decide +kernel)
theorem sn_21 : ("java/lang/IllegalStateException" = "java/lang/IllegalArgumentException") = False := eq_false (by decide +kernel)
theorem sn_10 : ("java/lang/IllegalArgumentException" = "java/lang/IndexOutOfBoundsException") = False := eq_false (by decide +kernel)
theorem sn_30 : ("java/lang/UnsupportedOperationException" = "java/lang/IndexOutOfBoundsException") = False := eq_false (by decide +kernel)
theorem sn_23 : ("java/lang/IllegalStateException" = "java/lang/UnsupportedOperationException") = False := eq_false (by decide +kernel)
theorem sn_40 : ("java/util/NoSuchElementException" = "java/lang/IndexOutOfBoundsException") = False := eq_false (by decide +kernel)
theorem sn_50 : ("java/lang/ArithmeticException" = "java/lang/IndexOutOfBoundsException") = False := eq_false (by decide +kernel)
theorem kI_add (a b : Nat) : nI a + nI b = nI (a + b) := by
  have h := nI_add a b
  rw [h]
theorem kI_1 (a : Nat) : nI a + 1 = nI (a + 1) := by
  have h := nI_1 a
  rw [h]
theorem j_60 : (60 : Int32) = nI 60 := by decide
theorem j_360 : (360 : Int32) = nI 360 := by decide
theorem j_490 : (490 : Int32) = nI 490 := by decide
theorem j_620 : (620 : Int32) = nI 620 := by decide
theorem j_1 : (1 : Int32) = nI 1 := by decide
theorem le60 {a : Nat} (h : a < 2 ^ 31) : nI a ≤ 60 ↔ a ≤ 60 := by
  rw [j_60]
  exact nI_leI h (by decide)
theorem ch_i2c {v : Int32} (h : isCh v) : (v.toUInt32 % 65536).toInt32 = v := by
  have := nar_ch h
  rw [show vp_nar .char v = (v.toUInt32 % 65536).toInt32 from by simp [vp_nar, narrow]] at this
  exact this
theorem i2c_ch (v : Int32) : isCh (v.toUInt32 % 65536).toInt32 := pk_nc v
theorem roomI {a : Nat} (h : a < 2 ^ 31) : fX5_requireRoom (nI a).toInt64 = if a ≤ 60 then some (.ok ()) else some (.error "java/lang/IllegalStateException") := by
  have key : lg_cmp (nI a).toInt64 60 ≤ 0 ↔ a ≤ 60 := by
    rw [lgc_le, i64_ge, nI_toInt h, show (60 : Int64).toInt = 60 from rfl]
    exact ⟨fun q => by omega, fun q => by omega⟩
  unfold fX5_requireRoom
  by_cases q : a ≤ 60
  · rw [if_pos (key.mpr q), if_pos q]
  · rw [if_neg (fun z => q (key.mp z)), if_neg q]
theorem mo_isInS (x : Int32) {n : Nat} (hn : n ≤ 60) : fX6_isIn x.toInt64 0 (nI n - 1).toInt64 = some (bI (decide (0 ≤ x.toInt ∧ x.toInt < (n : Int)))) := by
  have h2 : (nI n - 1).toInt = (n : Int) - 1 := by
    have := pk_sub_toInt (a := n) (b := 1) (by omega) (by omega)
    exact this
  rw [mo_isIn]
  have key : ((0 : Int64) ≤ x.toInt64 ∧ x.toInt64 ≤ (nI n - 1).toInt64) ↔ (0 ≤ x.toInt ∧ x.toInt < (n : Int)) := by
    rw [i64_le, Int64.le_iff_toInt_le, Int32.toInt_toInt64, Int32.toInt_toInt64, h2, show (0 : Int64).toInt = 0 from rfl]
    exact ⟨fun q => ⟨q.1, by omega⟩, fun q => ⟨q.1, by omega⟩⟩
  rw [decide_eq_decide.mpr key]
theorem mo_place_bad {sz : Nat → Int32} {n j : Nat} {x : Int32} (th : Int32) (hj : j < 6) (hs : ldA sz 6 (nI j) = some (nI n)) (hn : n ≤ 60) (h : ¬ (0 ≤ x.toInt ∧ x.toInt < (n : Int))) : fX6_isNoPlace th sz (nI j) x = some (1, 1) := by
  unfold fX6_isNoPlace
  rw [sl_no hj]
  simp only [Option.bind_some, hs]
  rw [if_pos trivial, mo_isInS x hn, decide_eq_false h, bI_f]
  simp only [Option.bind_some]
  rw [if_pos trivial, fX6_isNoPlace_32, mo_thrown1]
  simp only [Option.bind_some]
  rw [if_neg i32_10]
theorem mo_place_ok {sz : Nat → Int32} {n j : Nat} {x : Int32} (th : Int32) (hj : j < 6) (hs : ldA sz 6 (nI j) = some (nI n)) (hn : n ≤ 60) (h : 0 ≤ x.toInt ∧ x.toInt < (n : Int)) : fX6_isNoPlace th sz (nI j) x = some (0, 0) := by
  unfold fX6_isNoPlace
  rw [sl_no hj]
  simp only [Option.bind_some, hs]
  rw [if_pos trivial, mo_isInS x hn, decide_eq_true h, bI_t]
  simp only [Option.bind_some]
  rw [if_neg i32_10, fX6_isNoPlace_32, mo_thrown0]
  rfl
/-- a place of a text, or none, on both sides -/
theorem places {ts : Nat → Int32} {tc : Nat → Nat → Int32} {ce sz : Nat → Int32} {N : Nat → Nat} {j : Nat} (I : INV ts tc ce sz N) (hj : j < 6) (x : Int32) : (∃ k : Nat, k < N j ∧ x = nI k ∧ fX5_requirePlace ts j (nI k) = some (.ok ()) ∧ ∀ th, fX6_isNoPlace th sz (nI j) (nI k) = some (0, 0)) ∨ (fX5_requirePlace ts j x = some (.error "java/lang/IndexOutOfBoundsException") ∧ ∀ th, fX6_isNoPlace th sz (nI j) x = some (1, 1)) := by
  have hN := (I.1 j (by omega)).2.1
  rcases pk_ix x (n := N j) (by omega) with h | h | ⟨k, hk, rfl⟩
  · refine Or.inr ⟨by simp [fX5_requirePlace, h], fun th => mo_place_bad th hj (I.2.1.len hj) hN ?_⟩
    rw [Int32.lt_iff_toInt_lt, show (0 : Int32).toInt = 0 from rfl] at h; omega
  · have h' := h
    rw [Int32.le_iff_toInt_le, nI_toInt (by omega)] at h
    have e2 : ¬ x < 0 := fun q => by rw [Int32.lt_iff_toInt_lt, show (0 : Int32).toInt = 0 from rfl] at q; omega
    have e3 : ¬ x < nI (N j) := fun q => by rw [Int32.lt_iff_toInt_lt, nI_toInt (by omega)] at q; omega
    exact Or.inr ⟨by simp [fX5_requirePlace, e2, tx_size I.1 (show j < 7 by omega), e3], fun th => mo_place_bad th hj (I.2.1.len hj) hN (by omega)⟩
  · refine Or.inl ⟨k, hk, rfl, ?_, fun th => mo_place_ok th hj (I.2.1.len hj) hN (by rw [nI_toInt (by omega)]; omega)⟩
    simp [fX5_requirePlace, nI_pos (show k < 2 ^ 31 by omega), tx_size I.1 (show j < 7 by omega), (nI_ltI (show k < 2 ^ 31 by omega) (show N j < 2 ^ 31 by omega)).mpr hk]
theorem inv_ce {ts : Nat → Int32} {tc : Nat → Nat → Int32} {ce ce' sz : Nat → Int32} {N : Nat → Nat} (I : INV ts tc ce sz N) (h : ∀ j, j < 360 → ce' j = ce j) : INV ts tc ce' sz N := ⟨I.1, I.2.1.keep h, I.2.2⟩
theorem inv_erase {ts : Nat → Int32} {tc : Nat → Nat → Int32} {ce sz : Nat → Int32} {N : Nat → Nat} {j : Nat} (I : INV ts tc ce sz N) (hj : j < 6) : INV (updL ts j 0) tc ce (updL sz j 0) (updL N j 0) := by
  refine ⟨fun i hi => ?_, fun i hi => ?_, fun i hi k hk => ?_⟩
  · by_cases e : i = j
    · subst e; rw [upd_s, upd_s]; exact ⟨rfl, by omega, (I.1 i hi).2.2⟩
    · rw [upd_n e, upd_n e]; exact I.1 i hi
  · by_cases e : i = j
    · subst e; rw [upd_s, upd_s]; exact ⟨rfl, by omega, fun k hk => by omega⟩
    · rw [upd_n e, upd_n e]; exact I.2.1 i hi
  · by_cases e : i = j
    · subst e; rw [upd_s] at hk; omega
    · rw [upd_n e] at hk; exact I.2.2 i hi k hk
theorem q_length {fu : Nat} {ts : Nat → Int32} {tc : Nat → Nat → Int32} {ol : Nat → Int64} {ce : Nat → Int32} {sz : Nat → Int32} {th : Int32} {N : Nat → Nat} (I : INV ts tc ce sz N) (hfu : 1000 ≤ fu) (x1 : Int32) : ∃ (k : Int32) (g : Nat → Int64) (b : Int32) (t : Int32), fL_length ts ol x1 = some (k, g) ∧ fX6_length th sz x1 = some (b, t) ∧ t = k ∧ (k = 0 → g 0 = b.toInt64) ∧ ∃ N', INV ts tc ce sz N' := by
  rcases slots x1 with ⟨j1, h1, rfl⟩ | ⟨b1, b2⟩
  · exact ⟨0, updL ol 0 (nI (N j1)).toInt64, nI (N j1), 0, by simp [fL_length, fX5_length, sl_ok h1, exb, tx_size I.1 (show j1 < 7 by omega), st0], by simp [fX6_length, sl_no h1, I.2.1.len h1], rfl, fun _ => upd_s, N, I⟩
  · exact ⟨1, ol, 0, 1, by simp [fL_length, fX5_length, b1, exb], by simp [fX6_length, fX6_isNoOf, fX6_isNoOfAll, fX6_isNoPlace, b2], rfl, fun h => absurd h (by decide), N, I⟩
theorem q_erase {fu : Nat} {ts : Nat → Int32} {tc : Nat → Nat → Int32} {ol : Nat → Int64} {ce : Nat → Int32} {sz : Nat → Int32} {th : Int32} {N : Nat → Nat} (I : INV ts tc ce sz N) (hfu : 1000 ≤ fu) (x1 : Int32) : ∃ (k : Int32) (ts' : Nat → Int32) (g : Nat → Int64) (b : Int32) (t : Int32) (sz' : Nat → Int32), fL_erase ts ol x1 = some (k, ts', g) ∧ fX6_erase th sz x1 = some (b, t, sz') ∧ t = k ∧ (k = 0 → g 0 = b.toInt64) ∧ ∃ N', INV ts' tc ce sz' N' := by
  rcases slots x1 with ⟨j1, h1, rfl⟩ | ⟨b1, b2⟩
  · exact ⟨0, updL ts j1 0, updL ol 0 (nI (N j1)).toInt64, nI (N j1), 0, updL sz j1 0, by simp [fL_erase, fX5_erase, sl_ok h1, exb, tx_size I.1 (show j1 < 7 by omega), fX4_clear, st0], by simp [fX6_erase, sl_no h1, I.2.1.len h1, stA_nI h1], rfl, fun _ => upd_s, _, inv_erase I h1⟩
  · exact ⟨1, ts, ol, 0, 1, sz, by simp [fL_erase, fX5_erase, b1, exb], by simp [fX6_erase, fX6_isNoOf, fX6_isNoOfAll, fX6_isNoPlace, b2], rfl, fun h => absurd h (by decide), N, I⟩
theorem q_signAt {fu : Nat} {ts : Nat → Int32} {tc : Nat → Nat → Int32} {ol : Nat → Int64} {ce : Nat → Int32} {sz : Nat → Int32} {th : Int32} {N : Nat → Nat} (I : INV ts tc ce sz N) (hfu : 1000 ≤ fu) (x1 x2 : Int32) : ∃ (k : Int32) (g : Nat → Int64) (b : Int32) (t : Int32), fL_signAt ts tc ol x1 x2 = some (k, g) ∧ fX6_signAt th ce sz x1 x2 = some (b, t) ∧ t = k ∧ (k = 0 → g 0 = b.toInt64) ∧ ∃ N', INV ts tc ce sz N' := by
  rcases slots x1 with ⟨j1, h1, rfl⟩ | ⟨b1, b2⟩
  · have hN := (I.1 j1 (by omega)).2.1
    rcases places I h1 x2 with ⟨k, hk, rfl, e1, e2⟩ | ⟨e1, e2⟩
    · have hch := (I.1 j1 (by omega)).2.2 k (by omega)
      refine ⟨0, updL ol 0 (tc j1 k).toInt64, tc j1 k, 0, ?_, ?_, rfl, fun _ => upd_s, N, I⟩
      · simp [fL_signAt, fX5_signAt, sl_ok h1, exb, e1, tx_sign I.1 (show j1 < 7 by omega) hk, ckC_ch hch, st0]
      · simp [fX6_signAt, e2, rm_base, kI_add, (I.2.1.rw h1).ld hk, ch_i2c hch, ckC_ch hch]
    · refine ⟨1, ol, 32, 1, ?_, ?_, rfl, fun h => absurd h (by decide), N, I⟩
      · simp [fL_signAt, fX5_signAt, sl_ok h1, exb, e1]
      · simp [fX6_signAt, e2, ckC_ch (show isCh 32 from rfl)]
  · exact ⟨1, ol, 32, 1, by simp [fL_signAt, fX5_signAt, b1, exb], by simp [fX6_signAt, fX6_isNoOf, fX6_isNoOfAll, fX6_isNoPlace, ckC_ch (show isCh 32 from rfl), b2], rfl, fun h => absurd h (by decide), N, I⟩
theorem q_join {fu : Nat} {ts : Nat → Int32} {tc : Nat → Nat → Int32} {ol : Nat → Int64} {ce : Nat → Int32} {sz : Nat → Int32} {th : Int32} {N : Nat → Nat} (I : INV ts tc ce sz N) (hfu : 1000 ≤ fu) (x1 x2 x3 : Int32) : ∃ (k : Int32) (ts' : Nat → Int32) (tc' : Nat → Nat → Int32) (g : Nat → Int64) (b : Int32) (t : Int32) (ce' : Nat → Int32) (sz' : Nat → Int32), fL_join fu ts tc ol x1 x2 x3 = some (k, ts', tc', g) ∧ fX6_join fu th ce sz x1 x2 x3 = some (b, t, ce', sz') ∧ t = k ∧ (k = 0 → g 0 = b.toInt64) ∧ ∃ N', INV ts' tc' ce' sz' N' := by
  rcases slots x1 with ⟨j1, h1, rfl⟩ | ⟨b1, b2⟩
  · rcases slots x2 with ⟨j2, h2, rfl⟩ | ⟨b1, b2⟩
    · rcases slots x3 with ⟨j3, h3, rfl⟩ | ⟨b1, b2⟩
      · have hN2 := (I.1 j2 (by omega)).2.1
        have hN3 := (I.1 j3 (by omega)).2.1
        by_cases hr : N j2 + N j3 ≤ 60
        · obtain ⟨c1, c2⟩ := bt_clear (F := catF (tc j2) (N j2) (tc j3)) I.1
          obtain ⟨t1, t2, a1, a2⟩ := bt_all (fu := fu) c2 h2 hN2 (by omega) (fun k hk => by simp [catF, hk]) hfu
          rw [Nat.zero_add] at a2
          obtain ⟨t3, t4, d1, d2⟩ := bt_all (fu := fu) a2 h3 hN3 hr (fun k hk => by simp only [catF]; rw [if_neg (by omega), show N j2 + k - N j2 = k by omega]) (by omega)
          obtain ⟨t5, t6, e1, e2⟩ := bt_become d2 h1 hr
          obtain ⟨ca, m1, m2, m3⟩ := rm_lays (fu := fu) (o := 360) I.2.1 h2 h3 (Nat.le_refl 360) (Nat.le_of_ble_eq_true rfl) hfu
          obtain ⟨cb, m4, m5⟩ := rm_becomeR (fu := fu) (I.2.1.keep (fun j hj => m3 j (by omega))) h1 m2 hr (by omega) hfu
          refine ⟨0, t5, t6, updL ol 0 (nI (N j2 + N j3)).toInt64, nI (N j2 + N j3), 0, cb, updL sz j1 (nI (N j2 + N j3)), ?_, ?_, rfl, fun _ => upd_s, inv_new I h1 e2 m5 (fun k hk => ?_)⟩
          · have hro := roomI (show N j2 + N j3 < 2 ^ 31 by omega)
            rw [if_pos hr] at hro
            simp only [fL_join, fX5_join, sl_ok h1, sl_ok h2, sl_ok h3, exb, tx_size I.1 (show j2 < 7 by omega), tx_size I.1 (show j3 < 7 by omega), kI_add, hro, c1, a1, d1, e1, st0, Option.bind_some]
          · simp [fX6_join, fX6_isNoOfAll, sl_no h1, sl_no h2, sl_no h3, I.2.1.len h2, I.2.1.len h3, kI_add, le60 (show N j2 + N j3 < 2 ^ 31 by omega), hr, fX6_join_34, mo_thrown0, j_360, m1, m4]
          · unfold catF
            split
            · next q => exact I.2.2 j2 h2 k q
            · exact I.2.2 j3 h3 _ (by omega)
        · refine ⟨2, ts, tc, ol, 0, 2, ce, sz, ?_, ?_, rfl, fun h => absurd h (by decide), N, I⟩
          · have hro := roomI (show N j2 + N j3 < 2 ^ 31 by omega)
            rw [if_neg hr] at hro
            simp only [sn_20, fL_join, fX5_join, sl_ok h1, sl_ok h2, sl_ok h3, exb, tx_size I.1 (show j2 < 7 by omega), tx_size I.1 (show j3 < 7 by omega), kI_add, hro, Option.bind_some, if_false, if_true]
          · simp [fX6_join, fX6_isNoOfAll, sl_no h1, sl_no h2, sl_no h3, I.2.1.len h2, I.2.1.len h3, kI_add, le60 (show N j2 + N j3 < 2 ^ 31 by omega), hr, fX6_join_34, mo_thrown1]
      · exact ⟨1, ts, tc, ol, 0, 1, ce, sz, by simp [fL_join, fX5_join, sl_ok h1, sl_ok h2, b1, exb], by simp [fX6_join, fX6_isNoOf, fX6_isNoOfAll, fX6_isNoPlace, sl_no h1, sl_no h2, b2], rfl, fun h => absurd h (by decide), N, I⟩
    · exact ⟨1, ts, tc, ol, 0, 1, ce, sz, by simp [fL_join, fX5_join, sl_ok h1, b1, exb], by simp [fX6_join, fX6_isNoOf, fX6_isNoOfAll, fX6_isNoPlace, sl_no h1, b2], rfl, fun h => absurd h (by decide), N, I⟩
  · exact ⟨1, ts, tc, ol, 0, 1, ce, sz, by simp [fL_join, fX5_join, b1, exb], by simp [fX6_join, fX6_isNoOf, fX6_isNoOfAll, fX6_isNoPlace, b2], rfl, fun h => absurd h (by decide), N, I⟩
