/-! SLOTS: which are none, on both sides; what is thrown -/
def E_io : String := "java/lang/IndexOutOfBoundsException"
theorem lgc_pos {a b : Int64} : 0 < lg_cmp a b ↔ b < a := by
  unfold lg_cmp
  by_cases h : a > b
  · rw [if_pos h]; exact ⟨fun _ => h, fun _ => by decide⟩
  · rw [if_neg h]
    by_cases h2 : a = b
    · rw [if_pos h2]; subst h2; exact ⟨fun q => absurd q (by decide), fun q => absurd q h⟩
    · rw [if_neg h2]; exact ⟨fun q => absurd q (by decide), fun q => absurd q h⟩
theorem lgc_le {a b : Int64} : lg_cmp a b ≤ 0 ↔ a ≤ b := by
  unfold lg_cmp
  by_cases h : a > b
  · rw [if_pos h]
    exact ⟨fun q => absurd q (by decide), fun q => absurd q (by simp only [gt_iff_lt, Int64.lt_iff_toInt_lt, Int64.le_iff_toInt_le] at *; omega)⟩
  · rw [if_neg h]
    have h3 : a ≤ b := by simp only [gt_iff_lt, Int64.lt_iff_toInt_lt, Int64.le_iff_toInt_le] at *; omega
    by_cases h2 : a = b
    · rw [if_pos h2]; exact ⟨fun _ => h3, fun _ => by decide⟩
    · rw [if_neg h2]; exact ⟨fun _ => h3, fun _ => by decide⟩
theorem mo_isIn (x lo hi : Int64) : fX6_isIn x lo hi = some (bI (decide (lo ≤ x ∧ x ≤ hi))) := by
  unfold fX6_isIn
  by_cases h1 : x < lo
  · rw [if_pos (lgc_pos.mpr h1)]
    have : ¬ (lo ≤ x ∧ x ≤ hi) := fun q => by simp only [Int64.lt_iff_toInt_lt, Int64.le_iff_toInt_le] at *; omega
    simp [this, bI]
  · rw [if_neg (fun q => h1 (lgc_pos.mp q))]
    by_cases h2 : hi < x
    · rw [if_pos (lgc_pos.mpr h2)]
      have : ¬ (lo ≤ x ∧ x ≤ hi) := fun q => by simp only [Int64.lt_iff_toInt_lt, Int64.le_iff_toInt_le] at *; omega
      simp [this, bI]
    · rw [if_neg (fun q => h2 (lgc_pos.mp q))]
      have : lo ≤ x ∧ x ≤ hi := by simp only [Int64.lt_iff_toInt_lt, Int64.le_iff_toInt_le] at *; omega
      simp [this, bI]
theorem i64_le (x : Int32) (a : Int64) : (a ≤ x.toInt64) ↔ a.toInt ≤ x.toInt := by rw [Int64.le_iff_toInt_le, Int32.toInt_toInt64]
theorem i64_ge (x : Int32) (a : Int64) : (x.toInt64 ≤ a) ↔ x.toInt ≤ a.toInt := by rw [Int64.le_iff_toInt_le, Int32.toInt_toInt64]
theorem mo_isInI (x : Int32) (lo hi : Int64) : fX6_isIn x.toInt64 lo hi = some (bI (decide (lo.toInt ≤ x.toInt ∧ x.toInt ≤ hi.toInt))) := by
  rw [mo_isIn]
  simp only [i64_le, i64_ge]
theorem mo_thrown (th k : Int32) (b : Bool) : fX6_isThrown th (bI b) k = some (bI b, if b = true then k else 0) := by
  unfold fX6_isThrown
  cases b
  · rw [if_pos (by decide), ckZ_b]; rfl
  · rw [if_neg (by decide), ckZ_b]; rfl
theorem mo_thrown0 (th k : Int32) : fX6_isThrown th 0 k = some (0, 0) := mo_thrown th k false
theorem mo_thrown1 (th k : Int32) : fX6_isThrown th 1 k = some (1, k) := mo_thrown th k true
theorem sl_ok {j : Nat} (h : j < 6) : fX5_textOf (nI j) = some (.ok j) := by
  unfold fX5_textOf
  rw [if_neg (nI_pos (by omega)), i_6, if_pos ((nI_ltI (by omega) (by omega)).mpr h), ldA_nI h (by decide)]
  rfl
theorem sl_no {j : Nat} (h : j < 6) (th : Int32) : fX6_isNo th (nI j) = some (0, 0) := by
  unfold fX6_isNo
  rw [mo_isInI, nI_toInt (by omega)]
  have : (0 : Int64).toInt ≤ (j : Int) ∧ (j : Int) ≤ (5 : Int64).toInt := by
    rw [show (0 : Int64).toInt = 0 from rfl, show (5 : Int64).toInt = 5 from rfl]; omega
  simp only [Option.bind_some, decide_eq_true this, bI_t]
  rw [if_neg i32_10, mo_thrown0]
  simp only [Option.bind_some, ckZ_0]
theorem slots (x : Int32) : (∃ j : Nat, j < 6 ∧ x = nI j) ∨ (fX5_textOf x = some (.error "java/lang/IndexOutOfBoundsException") ∧ ∀ th, fX6_isNo th x = some (1, 1)) := by
  have key : ¬ (0 ≤ x.toInt ∧ x.toInt ≤ 5) → ∀ th, fX6_isNo th x = some (1, 1) := by
    intro h th
    unfold fX6_isNo
    rw [mo_isInI]
    have : ¬ ((0 : Int64).toInt ≤ x.toInt ∧ x.toInt ≤ (5 : Int64).toInt) := by
      rw [show (0 : Int64).toInt = 0 from rfl, show (5 : Int64).toInt = 5 from rfl]; exact h
    simp only [Option.bind_some, decide_eq_false this, bI_f]
    rw [if_pos trivial, mo_thrown1]
    simp only [Option.bind_some, ckZ_1]
  rcases pk_ix x (n := 6) (by decide) with h | h | h
  · refine Or.inr ⟨?_, key ?_⟩
    · unfold fX5_textOf; rw [if_pos h]
    · rw [Int32.lt_iff_toInt_lt] at h
      have : (0 : Int32).toInt = 0 := rfl
      omega
  · refine Or.inr ⟨?_, key ?_⟩
    · have h6 : (nI 6).toInt = 6 := rfl
      rw [Int32.le_iff_toInt_le, h6] at h
      unfold fX5_textOf
      rw [if_neg (fun q => by rw [Int32.lt_iff_toInt_lt] at q; have : (0 : Int32).toInt = 0 := rfl; omega), if_neg (fun q => by rw [Int32.lt_iff_toInt_lt] at q; have : (6 : Int32).toInt = 6 := rfl; omega)]
    · have h6 : (nI 6).toInt = 6 := rfl
      rw [Int32.le_iff_toInt_le, h6] at h
      omega
  · exact Or.inl h
theorem no2_ok {j k : Nat} (hj : j < 6) (hk : k < 6) (th : Int32) : fX6_isNoOf th (nI j) (nI k) = some (0, 0) := by
  unfold fX6_isNoOf
  rw [sl_no hj]
  simp only [Option.bind_some]
  rw [if_pos trivial, sl_no hk]
  rfl
theorem no2_bad {x y : Int32} (th : Int32) (h : (∀ th, fX6_isNo th x = some (1, 1)) ∨ ((∃ j : Nat, j < 6 ∧ x = nI j) ∧ ∀ th, fX6_isNo th y = some (1, 1))) : fX6_isNoOf th x y = some (1, 1) := by
  unfold fX6_isNoOf
  rcases h with h | ⟨⟨j, hj, rfl⟩, h⟩
  · rw [h]
    simp only [Option.bind_some]
    rw [if_neg i32_10]
  · rw [sl_no hj]
    simp only [Option.bind_some]
    rw [if_pos trivial, h]
    simp only [Option.bind_some]
    rw [if_neg i32_10]
theorem no3_ok {j k i : Nat} (hj : j < 6) (hk : k < 6) (hi : i < 6) (th : Int32) : fX6_isNoOfAll th (nI j) (nI k) (nI i) = some (0, 0) := by
  unfold fX6_isNoOfAll
  rw [sl_no hj]
  simp only [Option.bind_some]
  rw [if_pos trivial, sl_no hk]
  simp only [Option.bind_some]
  rw [if_pos trivial, sl_no hi]
  rfl
theorem no3_bad {x y z : Int32} (th : Int32) (h : (∀ th, fX6_isNo th x = some (1, 1)) ∨ ((∃ j : Nat, j < 6 ∧ x = nI j) ∧ ((∀ th, fX6_isNo th y = some (1, 1)) ∨ ((∃ j : Nat, j < 6 ∧ y = nI j) ∧ ∀ th, fX6_isNo th z = some (1, 1))))) : fX6_isNoOfAll th x y z = some (1, 1) := by
  unfold fX6_isNoOfAll
  rcases h with h | ⟨⟨j, hj, rfl⟩, h | ⟨⟨k, hk, rfl⟩, h⟩⟩
  · rw [h]
    simp only [Option.bind_some]
    rw [if_neg i32_10]
  · rw [sl_no hj]
    simp only [Option.bind_some]
    rw [if_pos trivial, h]
    simp only [Option.bind_some]
    rw [if_neg i32_10]
  · rw [sl_no hj]
    simp only [Option.bind_some]
    rw [if_pos trivial, sl_no hk]
    simp only [Option.bind_some]
    rw [if_pos trivial, h]
    simp only [Option.bind_some]
    rw [if_neg i32_10]
