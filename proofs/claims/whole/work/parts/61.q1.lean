/-! THE COMPARISONS, call by call: the class's answer (as the law's catching wrapper gives it) is the model's, and both hold the same texts again -/
theorem lt7 {j : Nat} (h : j < 6) : j < 7 := Nat.lt_succ_of_lt h
theorem j_60 : (60 : Int32) = nI 60 := by decide
theorem j_360 : (360 : Int32) = nI 360 := by decide
theorem le60 {a : Nat} (h : a < 2 ^ 31) : nI a ≤ 60 ↔ a ≤ 60 := by
  rw [j_60]
  exact nI_leI h (by decide)
theorem add60 {a b : Nat} (h : a + b < 2 ^ 31) : nI a + nI b ≤ 60 ↔ a + b ≤ 60 := by
  rw [nI_add]
  exact le60 h
theorem ch_i2c {v : Int32} (h : isCh v) : (v.toUInt32 % 65536).toInt32 = v := by
  have := nar_ch h
  rw [show vp_nar .char v = (v.toUInt32 % 65536).toInt32 from by simp [vp_nar, narrow]] at this
  exact this
theorem i2c_ch (v : Int32) : isCh (v.toUInt32 % 65536).toInt32 := pk_nc v
theorem room64 (x : Int64) (a : Nat) (h : x.toInt = (a : Int)) : fX5_requireRoom x = if a ≤ 60 then some (.ok ()) else some (.error "java/lang/IllegalStateException") := by
  have key : lg_cmp x 60 ≤ 0 ↔ a ≤ 60 := by
    rw [lgc_le, Int64.le_iff_toInt_le, h, show (60 : Int64).toInt = 60 from rfl]
    exact ⟨fun q => by omega, fun q => by omega⟩
  unfold fX5_requireRoom
  by_cases q : a ≤ 60
  · rw [if_pos (key.mpr q), if_pos q]
  · rw [if_neg (fun z => q (key.mp z)), if_neg q]
theorem roomI {a : Nat} (h : a < 2 ^ 31) : fX5_requireRoom (nI a).toInt64 = if a ≤ 60 then some (.ok ()) else some (.error "java/lang/IllegalStateException") := room64 _ a (by rw [Int32.toInt_toInt64, nI_toInt h])
theorem room_y {x : Int64} {a : Nat} (h : fX5_requireRoom x = if a ≤ 60 then some (.ok ()) else some (.error "java/lang/IllegalStateException")) (q : a ≤ 60) : fX5_requireRoom x = some (.ok ()) := h.trans (if_pos q)
theorem room_n {x : Int64} {a : Nat} (h : fX5_requireRoom x = if a ≤ 60 then some (.ok ()) else some (.error "java/lang/IllegalStateException")) (q : ¬ a ≤ 60) : fX5_requireRoom x = some (.error "java/lang/IllegalStateException") := h.trans (if_neg q)
theorem roomA {a b : Nat} (h : a + b < 2 ^ 31) : fX5_requireRoom (nI a + nI b).toInt64 = if a + b ≤ 60 then some (.ok ()) else some (.error "java/lang/IllegalStateException") := by
  rw [nI_add]
  exact roomI h
theorem mo_isInS (x : Int32) {n : Nat} (hn : n ≤ 60) : fX6_isIn x.toInt64 0 (nI n - 1).toInt64 = some (bI (decide (0 ≤ x.toInt ∧ x.toInt < (n : Int)))) := by
  have h2 : (nI n - 1).toInt = (n : Int) - 1 := by
    have := pk_sub_toInt (a := n) (b := 1) (by omega) (by omega)
    exact this
  rw [mo_isIn]
  have key : ((0 : Int64) ≤ x.toInt64 ∧ x.toInt64 ≤ (nI n - 1).toInt64) ↔ (0 ≤ x.toInt ∧ x.toInt < (n : Int)) := by
    rw [i64_le, Int64.le_iff_toInt_le, Int32.toInt_toInt64, Int32.toInt_toInt64, h2, show (0 : Int64).toInt = 0 from rfl]
    exact ⟨fun q => ⟨q.1, by omega⟩, fun q => ⟨q.1, by omega⟩⟩
  rw [decide_eq_decide.mpr key]
theorem mo_isInN (x : Int32) {n : Nat} (hn : n < 2 ^ 31) : fX6_isIn x.toInt64 0 (nI n).toInt64 = some (bI (decide (0 ≤ x.toInt ∧ x.toInt ≤ (n : Int)))) := by
  rw [mo_isIn]
  have key : ((0 : Int64) ≤ x.toInt64 ∧ x.toInt64 ≤ (nI n).toInt64) ↔ (0 ≤ x.toInt ∧ x.toInt ≤ (n : Int)) := by
    rw [i64_le, Int64.le_iff_toInt_le, Int32.toInt_toInt64, Int32.toInt_toInt64, nI_toInt hn, show (0 : Int64).toInt = 0 from rfl]
  rw [decide_eq_decide.mpr key]
theorem mo_place_bad {sz : Nat → Int32} {n j : Nat} {x : Int32} (th : Int32) (hj : j < 6) (hs : ldA sz 6 (nI j) = some (nI n)) (hn : n ≤ 60) (h : ¬ (0 ≤ x.toInt ∧ x.toInt < (n : Int))) : fX6_isNoPlace th sz (nI j) x = some (1, 1) := by
  have e := mo_isInS x hn
  rw [decide_eq_false h] at e
  exact bs (sl_no hj _) (ps rfl (bs hs (bs e (ps rfl (bs (mo_thrown1 _ _) (ns i32_10 rfl))))))
theorem mo_place_ok {sz : Nat → Int32} {n j : Nat} {x : Int32} (th : Int32) (hj : j < 6) (hs : ldA sz 6 (nI j) = some (nI n)) (hn : n ≤ 60) (h : 0 ≤ x.toInt ∧ x.toInt < (n : Int)) : fX6_isNoPlace th sz (nI j) x = some (0, 0) := by
  have e := mo_isInS x hn
  rw [decide_eq_true h] at e
  exact bs (sl_no hj _) (ps rfl (bs hs (bs e (ns i32_10 (bs (mo_thrown0 _ _) (ps rfl rfl))))))
/-- a place of a text, or none, on both sides -/
theorem places {ts : Nat → Int32} {tc : Nat → Nat → Int32} {ce sz : Nat → Int32} {N : Nat → Nat} {j : Nat} (I : INV ts tc ce sz N) (hj : j < 6) (x : Int32) : (∃ k : Nat, k < N j ∧ x = nI k ∧ fX5_requirePlace ts j (nI k) = some (.ok ()) ∧ ∀ th, fX6_isNoPlace th sz (nI j) (nI k) = some (0, 0)) ∨ (fX5_requirePlace ts j x = some (.error "java/lang/IndexOutOfBoundsException") ∧ ∀ th, fX6_isNoPlace th sz (nI j) x = some (1, 1)) := by
  have hN := (I.1 j (by omega)).2.1
  rcases pk_ix x (n := N j) (by omega) with h | h | ⟨k, hk, rfl⟩
  · refine Or.inr ⟨ps h rfl, fun th => mo_place_bad th hj (I.2.1.len hj) hN ?_⟩
    rw [Int32.lt_iff_toInt_lt, show (0 : Int32).toInt = 0 from rfl] at h; omega
  · rw [Int32.le_iff_toInt_le, nI_toInt (by omega)] at h
    have e2 : ¬ x < 0 := fun q => by rw [Int32.lt_iff_toInt_lt, show (0 : Int32).toInt = 0 from rfl] at q; omega
    have e3 : ¬ x < nI (N j) := fun q => by rw [Int32.lt_iff_toInt_lt, nI_toInt (by omega)] at q; omega
    exact Or.inr ⟨ns e2 (bs (tx_size I.1 (lt7 hj)) (ns e3 rfl)), fun th => mo_place_bad th hj (I.2.1.len hj) hN (by omega)⟩
  · refine Or.inl ⟨k, hk, rfl, ns (nI_pos (by omega)) (bs (tx_size I.1 (lt7 hj)) (ps ((nI_ltI (by omega) (by omega)).mpr hk) rfl)), fun th => mo_place_ok th hj (I.2.1.len hj) hN (by rw [nI_toInt (by omega)]; omega)⟩
theorem inv_ce {ts : Nat → Int32} {tc : Nat → Nat → Int32} {ce ce' sz : Nat → Int32} {N : Nat → Nat} (I : INV ts tc ce sz N) (h : ∀ j, j < 360 → ce' j = ce j) : INV ts tc ce' sz N := ⟨I.1, I.2.1.keep h, I.2.2⟩
theorem inv_erase {ts : Nat → Int32} {tc : Nat → Nat → Int32} {ce sz : Nat → Int32} {N : Nat → Nat} {j : Nat} (I : INV ts tc ce sz N) (hj : j < 6) : INV (updL ts j 0) tc ce (updL sz j 0) (updL N j 0) := by
  refine ⟨fun i hi => ?_, fun i hi => ?_, fun i hi k hk => ?_⟩
  · by_cases e : i = j
    · subst e; rw [upd_s, upd_s]; exact ⟨rfl, by omega, (I.1 i hi).2.2⟩
    · rw [upd_n e, upd_n e]; exact I.1 i hi
  · by_cases e : i = j
    · subst e; rw [upd_s, upd_s]; exact ⟨rfl, by omega, fun k hk => by omega⟩
    · rw [upd_n e, upd_n e]; exact I.2.1 i hi
  · by_cases e : i = j
    · subst e; rw [upd_s] at hk; omega
    · rw [upd_n e] at hk; exact I.2.2 i hi k hk
/-- an int that is not below nothing, as a counted number -/
theorem i32_nat {x : Int32} (h : 0 ≤ x) : ∃ k : Nat, k < 2 ^ 31 ∧ x = nI k := by
  rw [Int32.le_iff_toInt_le, show (0 : Int32).toInt = 0 from rfl] at h
  have hlt := Int32.toInt_lt x
  refine ⟨x.toInt.toNat, by omega, ?_⟩
  apply Int32.toInt_inj.mp
  rw [nI_toInt (by omega)]
  omega
theorem q_length {fu : Nat} {ts : Nat → Int32} {tc : Nat → Nat → Int32} {ol : Nat → Int64} {ce : Nat → Int32} {sz : Nat → Int32} {th : Int32} {N : Nat → Nat} (I : INV ts tc ce sz N) (hfu : 2000 ≤ fu) (x1 : Int32) : ∃ (k : Int32) (g : Nat → Int64) (b : Int32) (t : Int32), fL_length ts ol x1 = some (k, g) ∧ fX6_length th sz x1 = some (b, t) ∧ t = k ∧ (k = 0 → g 0 = b.toInt64) ∧ ∃ N', INV ts tc ce sz N' := by
  rcases slots x1 with ⟨j1, h1, rfl⟩ | ⟨b1, b2⟩
  · exact ⟨0, updL ol 0 (nI (N j1)).toInt64, nI (N j1), 0, wo_length (bs (sl_ok h1) (es (bs (tx_size I.1 (lt7 h1)) (rfl)))), bs (sl_no h1 _) (ps (rfl) (bs (I.2.1.len h1) (rfl))), rfl, fun _ => upd_s, N, I⟩
  · exact ⟨1, ol, 0, 1, we_length_1 (bs (b1) (er (rfl))), by simp [fX6_length, fX6_isNoOf, fX6_isNoOfAll, fX6_isNoPlace, b2], rfl, fun h => absurd h (by decide), N, I⟩
theorem q_erase {fu : Nat} {ts : Nat → Int32} {tc : Nat → Nat → Int32} {ol : Nat → Int64} {ce : Nat → Int32} {sz : Nat → Int32} {th : Int32} {N : Nat → Nat} (I : INV ts tc ce sz N) (hfu : 2000 ≤ fu) (x1 : Int32) : ∃ (k : Int32) (ts' : Nat → Int32) (g : Nat → Int64) (b : Int32) (t : Int32) (sz' : Nat → Int32), fL_erase ts ol x1 = some (k, ts', g) ∧ fX6_erase th sz x1 = some (b, t, sz') ∧ t = k ∧ (k = 0 → g 0 = b.toInt64) ∧ ∃ N', INV ts' tc ce sz' N' := by
  rcases slots x1 with ⟨j1, h1, rfl⟩ | ⟨b1, b2⟩
  · exact ⟨0, updL ts j1 0, updL ol 0 (nI (N j1)).toInt64, nI (N j1), 0, updL sz j1 0, wo_erase (bs (sl_ok h1) (es (bs (tx_size I.1 (lt7 h1)) (rfl)))), bs (sl_no h1 _) (ps (rfl) (bs (I.2.1.len h1) (bs (stA_nI h1 (by decide)) (rfl)))), rfl, fun _ => upd_s, _, inv_erase I h1⟩
  · exact ⟨1, ts, ol, 0, 1, sz, we_erase_1 (bs (b1) (er (rfl))), by simp [fX6_erase, fX6_isNoOf, fX6_isNoOfAll, fX6_isNoPlace, b2], rfl, fun h => absurd h (by decide), N, I⟩
theorem q_signAt {fu : Nat} {ts : Nat → Int32} {tc : Nat → Nat → Int32} {ol : Nat → Int64} {ce : Nat → Int32} {sz : Nat → Int32} {th : Int32} {N : Nat → Nat} (I : INV ts tc ce sz N) (hfu : 2000 ≤ fu) (x1 x2 : Int32) : ∃ (k : Int32) (g : Nat → Int64) (b : Int32) (t : Int32), fL_signAt ts tc ol x1 x2 = some (k, g) ∧ fX6_signAt th ce sz x1 x2 = some (b, t) ∧ t = k ∧ (k = 0 → g 0 = b.toInt64) ∧ ∃ N', INV ts tc ce sz N' := by
  rcases slots x1 with ⟨j1, h1, rfl⟩ | ⟨b1, b2⟩
  · rcases places I h1 x2 with ⟨k, hk, rfl, e1, e2⟩ | ⟨e1, e2⟩
    · have hN := (I.1 j1 (by omega)).2.1
      have hch := (I.1 j1 (by omega)).2.2 k (by omega)
      have hld := (I.2.1.rw h1).ld hk
      rw [← nI_add] at hld
      have hck : ckC ((tc j1 k).toUInt32 % 65536).toInt32 = some (tc j1 k) := by rw [ch_i2c hch]; exact ckC_ch hch
      exact ⟨0, updL ol 0 (tc j1 k).toInt64, tc j1 k, 0, wo_signAt (bs (sl_ok h1) (es (bs (e1) (es (bs (tx_sign I.1 (lt7 h1) hk) (bs (ckC_ch hch) (rfl))))))), bs (e2 _) (ps (rfl) (bs (rm_base) (bs (hld) (bs (hck) (rfl))))), rfl, fun _ => upd_s, N, I⟩
    · exact ⟨1, ol, 32, 1, we_signAt_1 (bs (sl_ok h1) (es (bs (e1) (er (rfl))))), bs (e2 _) (ns (i32_10) (bs (ckC_ch (show isCh 32 from rfl)) (rfl))), rfl, fun h => absurd h (by decide), N, I⟩
  · exact ⟨1, ol, 32, 1, we_signAt_1 (bs (b1) (er (rfl))), by simp [fX6_signAt, fX6_isNoOf, fX6_isNoOfAll, fX6_isNoPlace, ckC_ch (show isCh 32 from rfl), b2], rfl, fun h => absurd h (by decide), N, I⟩
theorem q_join {fu : Nat} {ts : Nat → Int32} {tc : Nat → Nat → Int32} {ol : Nat → Int64} {ce : Nat → Int32} {sz : Nat → Int32} {th : Int32} {N : Nat → Nat} (I : INV ts tc ce sz N) (hfu : 2000 ≤ fu) (x1 x2 x3 : Int32) : ∃ (k : Int32) (ts' : Nat → Int32) (tc' : Nat → Nat → Int32) (g : Nat → Int64) (b : Int32) (t : Int32) (ce' : Nat → Int32) (sz' : Nat → Int32), fL_join fu ts tc ol x1 x2 x3 = some (k, ts', tc', g) ∧ fX6_join fu th ce sz x1 x2 x3 = some (b, t, ce', sz') ∧ t = k ∧ (k = 0 → g 0 = b.toInt64) ∧ ∃ N', INV ts' tc' ce' sz' N' := by
  rcases slots x1 with ⟨j1, h1, rfl⟩ | ⟨b1, b2⟩
  · rcases slots x2 with ⟨j2, h2, rfl⟩ | ⟨b1, b2⟩
    · rcases slots x3 with ⟨j3, h3, rfl⟩ | ⟨b1, b2⟩
      · have hN2 := (I.1 j2 (by omega)).2.1
        have hN3 := (I.1 j3 (by omega)).2.1
        have hro := roomA (show N j2 + N j3 < 2 ^ 31 by omega)
        have h60 := add60 (show N j2 + N j3 < 2 ^ 31 by omega)
        by_cases hr : N j2 + N j3 ≤ 60
        · obtain ⟨c1, c2⟩ := bt_clear (F := catF (tc j2) (N j2) (tc j3)) I.1
          obtain ⟨t1, t2, a1, a2⟩ := bt_all (fu := fu) c2 h2 hN2 (by omega) (fun k hk => by simp [catF, hk]) (by omega)
          rw [Nat.zero_add] at a2
          obtain ⟨t3, t4, d1, d2⟩ := bt_all (fu := fu) a2 h3 hN3 hr (fun k hk => by simp only [catF]; rw [if_neg (by omega), show N j2 + k - N j2 = k by omega]) (by omega)
          obtain ⟨t5, t6, e1, e2⟩ := bt_become (fu := fu) d2 h1 hr (by omega)
          obtain ⟨ca, m1, m2, m3⟩ := rm_lays (fu := fu) (o := 360) I.2.1 h2 h3 (Nat.le_refl 360) (Nat.le_of_ble_eq_true rfl) (by omega)
          obtain ⟨cb, m4, m5⟩ := rm_becomeR (fu := fu) (I.2.1.keep (fun j hj => m3 j (by omega))) h1 m2 hr (by omega) (by omega)
          have m4' : fX6_become fu ca sz (nI j1) 360 (nI (N j2) + nI (N j3)) = some (nI (N j2 + N j3), cb, updL sz j1 (nI (N j2 + N j3))) := by rw [nI_add]; exact m4
          refine ⟨0, t5, t6, updL ol 0 (nI (N j2 + N j3)).toInt64, nI (N j2 + N j3), 0, cb, updL sz j1 (nI (N j2 + N j3)), wo_join (bs (sl_ok h1) (es (bs (sl_ok h2) (es (bs (sl_ok h3) (es (bs (tx_size I.1 (lt7 h2)) (bs (tx_size I.1 (lt7 h3)) (bs (room_y hro hr) (es (bs (c1) (bs (a1) (bs (d1) (bs (e1) (rfl))))))))))))))), bs (no3_ok h1 h2 h3 _) (ps (rfl) (bs (I.2.1.len h2) (bs (I.2.1.len h3) (ps (h60.mpr hr) (bs (mo_thrown0 _ _) (ps (rfl) (bs (m1) (bs (I.2.1.len h2) (bs (I.2.1.len h3) (bs (m4') (rfl))))))))))), rfl, fun _ => upd_s, inv_new I h1 e2 m5 (fun k hk => ?_)⟩
          unfold catF
          split
          · next q => exact I.2.2 j2 h2 k q
          · exact I.2.2 j3 h3 _ (by omega)
        · exact ⟨2, ts, tc, ol, 0, 2, ce, sz, we_join_2 (bs (sl_ok h1) (es (bs (sl_ok h2) (es (bs (sl_ok h3) (es (bs (tx_size I.1 (lt7 h2)) (bs (tx_size I.1 (lt7 h3)) (bs (room_n hro hr) (er (rfl))))))))))), bs (no3_ok h1 h2 h3 _) (ps (rfl) (bs (I.2.1.len h2) (bs (I.2.1.len h3) (ns (fun z => hr (h60.mp z)) (bs (mo_thrown1 _ _) (ns (i32_10) (rfl))))))), rfl, fun h => absurd h (by decide), N, I⟩
      · exact ⟨1, ts, tc, ol, 0, 1, ce, sz, we_join_1 (bs (sl_ok h1) (es (bs (sl_ok h2) (es (bs (b1) (er (rfl))))))), by simp [fX6_join, fX6_isNoOf, fX6_isNoOfAll, fX6_isNoPlace, sl_no h1, sl_no h2, b2], rfl, fun h => absurd h (by decide), N, I⟩
    · exact ⟨1, ts, tc, ol, 0, 1, ce, sz, we_join_1 (bs (sl_ok h1) (es (bs (b1) (er (rfl))))), by simp [fX6_join, fX6_isNoOf, fX6_isNoOfAll, fX6_isNoPlace, sl_no h1, b2], rfl, fun h => absurd h (by decide), N, I⟩
  · exact ⟨1, ts, tc, ol, 0, 1, ce, sz, we_join_1 (bs (b1) (er (rfl))), by simp [fX6_join, fX6_isNoOf, fX6_isNoOfAll, fX6_isNoPlace, b2], rfl, fun h => absurd h (by decide), N, I⟩
