/-! THE COMPARISONS that search: first, last, many -/
section QC
variable {ts : Nat → Int32} {tc : Nat → Nat → Int32} {ce sz : Nat → Int32} {N : Nat → Nat} {i j fu : Nat} {th : Int32}
/-- the highest below k that has it, or none -/
def srd (P : Nat → Bool) : Nat → Int32
  | 0 => -1
  | p + 1 => if P p = true then nI p else srd P p
theorem srd_cut {P : Nat → Bool} {a : Nat} : ∀ (d : Nat), (∀ p, a ≤ p → p < a + d → P p = false) → srd P (a + d) = srd P a := by
  intro d
  induction d with
  | zero => intro _; rfl
  | succ d ih =>
    intro h
    show (if P (a + d) = true then nI (a + d) else srd P (a + d)) = srd P a
    rw [h (a + d) (by omega) (by omega), if_neg (by decide)]
    exact ih (fun p h1 h2 => h p h1 (by omega))
theorem stands_no {f g : Nat → Int32} {n m p : Nat} (h : n < p + m) : stands f n g m p = false := by
  cases e : stands f n g m p
  · rfl
  · have := (stands_iff.mp e).1
    omega
theorem bI_n0 {b : Bool} (h : b = true) : ¬ bI b = 0 := by rw [h]; decide
theorem rm_st (I : INV ts tc ce sz N) (hi : i < 6) (hj : j < 6) {p : Nat} (hp : p ≤ 60) (hfu : 1000 ≤ fu) : fX6_standsAt fu ce (nI (60 * i)) (nI (N i)) (nI (60 * j)) (nI (N j)) (nI p) = some (bI (stands (tc i) (N i) (tc j) (N j) p)) := rm_stands (I.2.1.rw hi) (I.2.1.rw hj) (by omega) hfu
def fstR (P : Nat → Bool) (n d p : Nat) : Int32 := if srch P d p ≤ n then nI (srch P d p) else -1
theorem fs_C (I : INV ts tc ce sz N) (hi : i < 6) (hj : j < 6) (hfu : 1000 ≤ fu) : ∀ (d p q : Nat), p + d = N i + 1 → d < q → fX5_first_42 fu ts tc i j (nI (N i) - nI (N j)) q (nI p) = some (.ok (fstR (stands (tc i) (N i) (tc j) (N j)) (N i) d p)) := by
  intro d
  induction d with
  | zero =>
    intro p q hp hq
    obtain ⟨q, rfl⟩ : ∃ k, q = k + 1 := ⟨q - 1, by omega⟩
    have hNi := (I.1 i (lt7 hi)).2.1
    have hNj := (I.1 j (lt7 hj)).2.1
    have e : fstR (stands (tc i) (N i) (tc j) (N j)) (N i) 0 p = -1 := if_neg (by show ¬ p ≤ N i; omega)
    rw [e, fX5_first_42]
    exact ps (by rw [Int32.lt_iff_toInt_lt, pk_sub_toInt (by omega) (by omega), nI_toInt (by omega)]; omega) rfl
  | succ d ih =>
    intro p q hp hq
    obtain ⟨q, rfl⟩ : ∃ k, q = k + 1 := ⟨q - 1, by omega⟩
    have hNi := (I.1 i (lt7 hi)).2.1
    have hNj := (I.1 j (lt7 hj)).2.1
    have key : (nI (N i) - nI (N j) < nI p) ↔ N i < p + N j := by
      rw [Int32.lt_iff_toInt_lt, pk_sub_toInt (by omega) (by omega), nI_toInt (by omega)]
      omega
    rw [fX5_first_42]
    by_cases h : N i < p + N j
    · have e : srch (stands (tc i) (N i) (tc j) (N j)) (d + 1) p = N i + 1 := srch_is (by omega) (by omega) (fun k h1 h2 => stands_no (by omega)) (fun z => by omega)
      have e2 : fstR (stands (tc i) (N i) (tc j) (N j)) (N i) (d + 1) p = -1 := if_neg (by rw [e]; omega)
      rw [e2]
      exact ps (key.mpr h) rfl
    · by_cases b : stands (tc i) (N i) (tc j) (N j) p = true
      · have e : srch (stands (tc i) (N i) (tc j) (N j)) (d + 1) p = p := by rw [srch, if_pos b]
        have e2 : fstR (stands (tc i) (N i) (tc j) (N j)) (N i) (d + 1) p = nI p := by
          unfold fstR
          rw [e, if_pos (by omega)]
        rw [e2]
        exact ns (fun z => h (key.mp z)) (bs (tx_hasAt I.1 (lt7 hi) (lt7 hj) (by omega) hfu) (ns (bI_n0 b) rfl))
      · have e : srch (stands (tc i) (N i) (tc j) (N j)) (d + 1) p = srch (stands (tc i) (N i) (tc j) (N j)) d (p + 1) := by rw [srch, if_neg b]
        have h2 := ih (p + 1) q (by omega) (by omega)
        unfold fstR at h2 ⊢
        rw [e]
        rw [← nI_1] at h2
        exact ns (fun z => h (key.mp z)) (bs (tx_hasAt I.1 (lt7 hi) (lt7 hj) (by omega) hfu) (ps (bI_0.mpr (Bool.eq_false_iff.mpr b)) h2))
theorem fs_M (I : INV ts tc ce sz N) (hi : i < 6) (hj : j < 6) (hfu : 1000 ≤ fu) : ∀ (d p q : Nat), p + d = N i + 1 → d < q → fX6_first_41 fu ce sz (nI i) (nI j) q (nI p) th = some (fstR (stands (tc i) (N i) (tc j) (N j)) (N i) d p, th) := by
  intro d
  induction d with
  | zero =>
    intro p q hp hq
    obtain ⟨q, rfl⟩ : ∃ k, q = k + 1 := ⟨q - 1, by omega⟩
    have hNi := (I.1 i (lt7 hi)).2.1
    have e : fstR (stands (tc i) (N i) (tc j) (N j)) (N i) 0 p = -1 := if_neg (by show ¬ p ≤ N i; omega)
    rw [e, fX6_first_41]
    exact bs (I.2.1.len hi) (ps ((nI_ltI (by omega) (by omega)).mpr (by omega)) (bs (I.2.1.len hi) (ns (fun z => by have := (nI_leI (by omega) (by omega)).mp z; omega) rfl)))
  | succ d ih =>
    intro p q hp hq
    obtain ⟨q, rfl⟩ : ∃ k, q = k + 1 := ⟨q - 1, by omega⟩
    have hNi := (I.1 i (lt7 hi)).2.1
    have h0 : ¬ nI (N i) < nI p := fun z => by have := (nI_ltI (by omega) (by omega)).mp z; omega
    rw [fX6_first_41]
    by_cases b : stands (tc i) (N i) (tc j) (N j) p = true
    · have e : srch (stands (tc i) (N i) (tc j) (N j)) (d + 1) p = p := by rw [srch, if_pos b]
      have e2 : fstR (stands (tc i) (N i) (tc j) (N j)) (N i) (d + 1) p = nI p := by
        unfold fstR
        rw [e, if_pos (by omega)]
      rw [e2]
      exact bs (I.2.1.len hi) (ns h0 (bs rm_base (bs (I.2.1.len hi) (bs rm_base (bs (I.2.1.len hj) (bs (rm_st I hi hj (by omega) hfu) (ns (bI_n0 b) (show fX6_first_87 fu ce sz (nI i) (nI p) th = _ from bs (I.2.1.len hi) (ps ((nI_leI (by omega) (by omega)).mpr (by omega)) rfl)))))))))
    · have e : srch (stands (tc i) (N i) (tc j) (N j)) (d + 1) p = srch (stands (tc i) (N i) (tc j) (N j)) d (p + 1) := by rw [srch, if_neg b]
      have h2 := ih (p + 1) q (by omega) (by omega)
      unfold fstR at h2 ⊢
      rw [e]
      rw [← nI_1] at h2
      exact bs (I.2.1.len hi) (ns h0 (bs rm_base (bs (I.2.1.len hi) (bs rm_base (bs (I.2.1.len hj) (bs (rm_st I hi hj (by omega) hfu) (ps (bI_0.mpr (Bool.eq_false_iff.mpr b)) h2)))))))
theorem ls_C (I : INV ts tc ce sz N) (hi : i < 6) (hj : j < 6) (hfu : 1000 ≤ fu) : ∀ (d q : Nat), d ≤ N i + 1 → d < q → fX5_last_31 fu ts tc i j q (nI d - 1) = some (.ok (srd (stands (tc i) (N i) (tc j) (N j)) d)) := by
  intro d
  induction d with
  | zero =>
    intro q hp hq
    obtain ⟨q, rfl⟩ : ∃ k, q = k + 1 := ⟨q - 1, by omega⟩
    rw [fX5_last_31]
    exact ps nI_z1 rfl
  | succ d ih =>
    intro q hp hq
    obtain ⟨q, rfl⟩ : ∃ k, q = k + 1 := ⟨q - 1, by omega⟩
    have hNi := (I.1 i (lt7 hi)).2.1
    have h2 := ih q (by omega) (by omega)
    rw [nI_s1, fX5_last_31, srd]
    rw [← nI_n1] at h2
    by_cases b : stands (tc i) (N i) (tc j) (N j) d = true
    · rw [if_pos b]
      exact ns (nI_pos (by omega)) (bs (tx_hasAt I.1 (lt7 hi) (lt7 hj) (by omega) hfu) (ns (bI_n0 b) rfl))
    · rw [if_neg b]
      exact ns (nI_pos (by omega)) (bs (tx_hasAt I.1 (lt7 hi) (lt7 hj) (by omega) hfu) (ps (bI_0.mpr (Bool.eq_false_iff.mpr b)) h2))
theorem ls_M (I : INV ts tc ce sz N) (hi : i < 6) (hj : j < 6) (hfu : 1000 ≤ fu) : ∀ (d q : Nat), d ≤ N i + 1 → d < q → fX6_last_33 fu ce sz (nI i) (nI j) q (nI d - 1) th = some (srd (stands (tc i) (N i) (tc j) (N j)) d, th) := by
  intro d
  induction d with
  | zero =>
    intro q hp hq
    obtain ⟨q, rfl⟩ : ∃ k, q = k + 1 := ⟨q - 1, by omega⟩
    rw [fX6_last_33]
    exact ps nI_z1 (ns (by decide) rfl)
  | succ d ih =>
    intro q hp hq
    obtain ⟨q, rfl⟩ : ∃ k, q = k + 1 := ⟨q - 1, by omega⟩
    have hNi := (I.1 i (lt7 hi)).2.1
    have h2 := ih q (by omega) (by omega)
    rw [nI_s1, fX6_last_33, srd]
    rw [← nI_n1] at h2
    by_cases b : stands (tc i) (N i) (tc j) (N j) d = true
    · rw [if_pos b]
      exact ns (nI_pos (by omega)) (bs rm_base (bs (I.2.1.len hi) (bs rm_base (bs (I.2.1.len hj) (bs (rm_st I hi hj (by omega) hfu) (ns (bI_n0 b) (ps (nI_pos' (by omega)) rfl)))))))
    · rw [if_neg b]
      exact ns (nI_pos (by omega)) (bs rm_base (bs (I.2.1.len hi) (bs rm_base (bs (I.2.1.len hj) (bs (rm_st I hi hj (by omega) hfu) (ps (bI_0.mpr (Bool.eq_false_iff.mpr b)) h2))))))
theorem mi_neg {x y : Int32} (h : x < 0 ∨ y < 0) : miI x y < 0 := by
  unfold miI
  rcases h with h | h
  · split
    · next q => rw [Int32.lt_iff_toInt_lt] at *; omega
    · exact h
  · split
    · exact h
    · next q => rw [Int32.lt_iff_toInt_lt] at *; omega
end QC
theorem q_first {fu : Nat} {ts : Nat → Int32} {tc : Nat → Nat → Int32} {ol : Nat → Int64} {ce : Nat → Int32} {sz : Nat → Int32} {th : Int32} {N : Nat → Nat} (I : INV ts tc ce sz N) (hfu : 2000 ≤ fu) (x1 x2 x3 : Int32) : ∃ (k : Int32) (g : Nat → Int64) (b : Int32) (t : Int32), fL_first fu ts tc ol x1 x2 x3 = some (k, g) ∧ fX6_first fu th ce sz x1 x2 x3 = some (b, t) ∧ t = k ∧ (k = 0 → g 0 = b.toInt64) ∧ ∃ N', INV ts tc ce sz N' := by
  rcases slots x1 with ⟨j1, h1, rfl⟩ | ⟨b1, b2⟩
  · rcases slots x2 with ⟨j2, h2, rfl⟩ | ⟨b1, b2⟩
    · have hN1 := (I.1 j1 (by omega)).2.1
      have key : ∃ a, a ≤ N j1 ∧ mxI 0 (miI x3 (nI (N j1))) = nI a ∧ (∀ r, fX6_first_41 fu ce sz (nI j1) (nI j2) fu (nI a) 0 = r → fX6_first fu th ce sz (nI j1) (nI j2) x3 = r) := by
        by_cases hx : 0 ≤ x3
        · obtain ⟨b, hb, rfl⟩ := i32_nat hx
          have hle := nI_leI hb (show N j1 < 2 ^ 31 by omega)
          by_cases hr : b ≤ N j1
          · refine ⟨b, hr, ?_, fun r h => bs (no2_ok h1 h2 _) (ps (rfl) (ps (hx) (bs (I.2.1.len h1) (ps (hle.mpr hr) (h)))))⟩
            rw [miI_nI hb (by omega), i_0, mxI_nI (by omega) (by omega)]
            congr 1; omega
          · refine ⟨N j1, Nat.le_refl _, ?_, fun r h => bs (no2_ok h1 h2 _) (ps (rfl) (ps (hx) (bs (I.2.1.len h1) (ns (fun z => hr (hle.mp z)) (bs (I.2.1.len h1) (h))))))⟩
            rw [miI_nI hb (by omega), i_0, mxI_nI (by omega) (by omega)]
            congr 1; omega
        · refine ⟨0, by omega, ?_, fun r h => bs (no2_ok h1 h2 _) (ps (rfl) (ns (hx) (h)))⟩
          have h3 : miI x3 (nI (N j1)) < 0 := mi_neg (Or.inl (by rw [Int32.le_iff_toInt_le] at hx; rw [Int32.lt_iff_toInt_lt]; omega))
          unfold mxI
          rw [Int32.lt_iff_toInt_lt, show (0 : Int32).toInt = 0 from rfl] at h3
          split
          · next q => rw [Int32.lt_iff_toInt_lt, show (0 : Int32).toInt = 0 from rfl] at q; omega
          · rfl
      obtain ⟨a, ha, e1, e2⟩ := key
      have c1 := fs_C (fu := fu) I h1 h2 (by omega) (N j1 + 1 - a) a fu (by omega) (by omega)
      have c2 := fs_M (fu := fu) (th := 0) I h1 h2 (by omega) (N j1 + 1 - a) a fu (by omega) (by omega)
      rw [← e1] at c1
      exact ⟨0, _, _, 0, wo_first (bs (sl_ok h1) (es (bs (sl_ok h2) (es (bs (tx_size I.1 (lt7 h1)) (bs (tx_size I.1 (lt7 h2)) (bs (tx_size I.1 (lt7 h1)) (c1)))))))), e2 _ c2, rfl, fun _ => upd_s, N, I⟩
    · exact ⟨1, ol, 0, 1, we_first_1 (bs (sl_ok h1) (es (bs (b1) (er (rfl))))), by simp [fX6_first, fX6_isNoOf, fX6_isNoOfAll, fX6_isNoPlace, sl_no h1, b2], rfl, fun h => absurd h (by decide), N, I⟩
  · exact ⟨1, ol, 0, 1, we_first_1 (bs (b1) (er (rfl))), by simp [fX6_first, fX6_isNoOf, fX6_isNoOfAll, fX6_isNoPlace, b2], rfl, fun h => absurd h (by decide), N, I⟩
theorem q_last {fu : Nat} {ts : Nat → Int32} {tc : Nat → Nat → Int32} {ol : Nat → Int64} {ce : Nat → Int32} {sz : Nat → Int32} {th : Int32} {N : Nat → Nat} (I : INV ts tc ce sz N) (hfu : 2000 ≤ fu) (x1 x2 x3 : Int32) : ∃ (k : Int32) (g : Nat → Int64) (b : Int32) (t : Int32), fL_last fu ts tc ol x1 x2 x3 = some (k, g) ∧ fX6_last fu th ce sz x1 x2 x3 = some (b, t) ∧ t = k ∧ (k = 0 → g 0 = b.toInt64) ∧ ∃ N', INV ts tc ce sz N' := by
  rcases slots x1 with ⟨j1, h1, rfl⟩ | ⟨b1, b2⟩
  · rcases slots x2 with ⟨j2, h2, rfl⟩ | ⟨b1, b2⟩
    · have hN1 := (I.1 j1 (by omega)).2.1
      have hN2 := (I.1 j2 (by omega)).2.1
      have cutall : ∀ d, N j1 < N j2 → srd (stands (tc j1) (N j1) (tc j2) (N j2)) d = -1 := fun d hlt => by
        have := srd_cut (P := stands (tc j1) (N j1) (tc j2) (N j2)) (a := 0) d (fun p _ _ => stands_no (by omega))
        rw [Nat.zero_add] at this
        exact this
      have negC : ∀ y : Int32, y < 0 → fX5_last_31 fu ts tc j1 j2 fu y = some (.ok (-1)) := fun y hy => by
        obtain ⟨f2, rfl⟩ : ∃ k, fu = k + 1 := ⟨fu - 1, by omega⟩
        rw [fX5_last_31]
        exact ps hy rfl
      have negM : ∀ y : Int32, y < 0 → fX6_last_33 fu ce sz (nI j1) (nI j2) fu y 0 = some (-1, 0) := fun y hy => by
        obtain ⟨f2, rfl⟩ : ∃ k, fu = k + 1 := ⟨fu - 1, by omega⟩
        rw [fX6_last_33]
        exact ps hy (ns (fun z => by rw [Int32.le_iff_toInt_le] at z; rw [Int32.lt_iff_toInt_lt] at hy; omega) rfl)
      have key : ∃ v, fX5_last_31 fu ts tc j1 j2 fu (miI x3 (nI (N j1) - nI (N j2))) = some (.ok v) ∧ fX6_last fu th ce sz (nI j1) (nI j2) x3 = some (v, 0) := by
        by_cases hx : 0 ≤ x3
        · obtain ⟨b, hb, rfl⟩ := i32_nat hx
          have hle := nI_leI (show N j1 < 2 ^ 31 by omega) hb
          have hM : fX6_last fu th ce sz (nI j1) (nI j2) (nI b) = some (srd (stands (tc j1) (N j1) (tc j2) (N j2)) (min b (N j1) + 1), 0) := by
            have c2 := ls_M (fu := fu) (th := 0) I h1 h2 (by omega) (min b (N j1) + 1) fu (by omega) (by omega)
            rw [nI_s1] at c2
            by_cases hr : N j1 ≤ b
            · rw [Nat.min_eq_right hr] at c2 ⊢
              exact bs (no2_ok h1 h2 _) (ps (rfl) (bs (I.2.1.len h1) (ps (hle.mpr hr) (bs (I.2.1.len h1) (c2)))))
            · rw [Nat.min_eq_left (by omega)] at c2 ⊢
              exact bs (no2_ok h1 h2 _) (ps (rfl) (bs (I.2.1.len h1) (ns (fun z => hr (hle.mp z)) (c2))))
          refine ⟨_, ?_, hM⟩
          by_cases hlt : N j1 < N j2
          · rw [cutall _ hlt]
            exact negC _ (mi_neg (Or.inr (by rw [Int32.lt_iff_toInt_lt, pk_sub_toInt (by omega) (by omega), show (0 : Int32).toInt = 0 from rfl]; omega)))
          · rw [nI_sub (by omega), miI_nI hb (by omega)]
            have c1 := ls_C (fu := fu) I h1 h2 (by omega) (min b (N j1 - N j2) + 1) fu (by omega) (by omega)
            rw [nI_s1] at c1
            rw [c1]
            have := srd_cut (P := stands (tc j1) (N j1) (tc j2) (N j2)) (a := min b (N j1 - N j2) + 1) (min b (N j1) - min b (N j1 - N j2)) (fun p _ _ => stands_no (by omega))
            rw [show min b (N j1 - N j2) + 1 + (min b (N j1) - min b (N j1 - N j2)) = min b (N j1) + 1 by omega] at this
            rw [this]
        · have h3 : x3 < 0 := by rw [Int32.le_iff_toInt_le] at hx; rw [Int32.lt_iff_toInt_lt]; omega
          have h4 : ¬ nI (N j1) ≤ x3 := fun z => by
            rw [Int32.le_iff_toInt_le, nI_toInt (by omega)] at z
            rw [Int32.lt_iff_toInt_lt, show (0 : Int32).toInt = 0 from rfl] at h3
            omega
          exact ⟨-1, negC _ (mi_neg (Or.inl h3)), bs (no2_ok h1 h2 _) (ps (rfl) (bs (I.2.1.len h1) (ns (h4) (negM _ h3))))⟩
      obtain ⟨v, c1, c2⟩ := key
      exact ⟨0, _, _, 0, wo_last (bs (sl_ok h1) (es (bs (sl_ok h2) (es (bs (tx_size I.1 (lt7 h1)) (bs (tx_size I.1 (lt7 h2)) (c1))))))), c2, rfl, fun _ => upd_s, N, I⟩
    · exact ⟨1, ol, 0, 1, we_last_1 (bs (sl_ok h1) (es (bs (b1) (er (rfl))))), by simp [fX6_last, fX6_isNoOf, fX6_isNoOfAll, fX6_isNoPlace, sl_no h1, b2], rfl, fun h => absurd h (by decide), N, I⟩
  · exact ⟨1, ol, 0, 1, we_last_1 (bs (b1) (er (rfl))), by simp [fX6_last, fX6_isNoOf, fX6_isNoOfAll, fX6_isNoPlace, b2], rfl, fun h => absurd h (by decide), N, I⟩
