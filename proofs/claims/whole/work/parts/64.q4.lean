/-! THE COMPARISONS of two texts and of hashes -/
section QD
variable {ts : Nat → Int32} {tc : Nat → Nat → Int32} {ce sz : Nat → Int32} {N : Nat → Nat} {i j fu : Nat} {th : Int32} {f g : Nat → Int32}
theorem sub0 {a b : Int32} : a - b = 0 ↔ a = b := by
  rw [← Int32.toInt_inj, ← Int32.toInt_inj, Int32.toInt_sub, show (0 : Int32).toInt = 0 from rfl]
  have h1 := Int32.le_toInt a
  have h2 := Int32.toInt_lt a
  have h3 := Int32.le_toInt b
  have h4 := Int32.toInt_lt b
  constructor
  · intro h
    rw [Int.bmod_eq_iff (by decide)] at h
    omega
  · intro h
    rw [h, Int.sub_self]
    rfl
theorem tx_cmp (h : TC ts tc N) (hi : i < 7) (hj : j < 7) (hfu : 1000 ≤ fu) : fX4_compareWith fu ts tc i j = some (ordI (tc i) (N i) (tc j) (N j)) := by
  have hNi := (h i hi).2.1
  have hNj := (h j hj).2.1
  have a1 := tx_alike (fu := fu) (a := 0) (b := 0) h hi hj (by omega) (by omega) (by omega)
  have hl := lcp_le (f := tc i) (g := tc j) (a := 0) (b := 0) (m := min (N i) (N j))
  rw [Nat.sub_zero, Nat.sub_zero, ← i_0] at a1
  have ei := (h i hi).1
  have ej := (h j hj).1
  unfold ordI fX4_compareWith
  rw [ei, ej]
  by_cases c : lcp (tc i) 0 (tc j) 0 (min (N i) (N j)) < min (N i) (N j)
  · rw [if_pos c]
    exact bs a1 (ns (fun z => by have := (nI_leI (by omega) (by omega)).mp z; omega) (ns (fun z => by have := (nI_leI (by omega) (by omega)).mp z; omega) (bs (tx_sign h hi (by omega)) (bs (tx_sign h hj (by omega)) rfl))))
  · rw [if_neg c]
    by_cases c2 : N i ≤ lcp (tc i) 0 (tc j) 0 (min (N i) (N j))
    · exact bs a1 (ps ((nI_leI (by omega) (by omega)).mpr c2) rfl)
    · exact bs a1 (ns (fun z => c2 ((nI_leI (by omega) (by omega)).mp z)) (ps ((nI_leI (by omega) (by omega)).mpr (by omega)) rfl))
theorem ord0 {n m : Nat} (hn : n ≤ 60) (hm : m ≤ 60) : ordI f n g m = 0 ↔ (decide (n = m) && alk f 0 g 0 m) = true := by
  have hl := lcp_le (f := f) (g := g) (a := 0) (b := 0) (m := min n m)
  rw [Bool.and_eq_true, decide_eq_true_iff]
  unfold ordI
  by_cases c : lcp f 0 g 0 (min n m) < min n m
  · rw [if_pos c, sub0]
    have ne := lcp_ne c
    rw [Nat.zero_add] at ne
    constructor
    · intro h; exact absurd h ne
    · rintro ⟨h1, h2⟩
      subst h1
      have := alk_iff.mp h2 _ (show lcp f 0 g 0 (min n n) < n by omega)
      rw [Nat.zero_add] at this
      exact this
  · rw [if_neg c, sub0, nI_eq (by omega) (by omega)]
    constructor
    · intro h
      subst h
      rw [Nat.min_self] at c hl
      exact ⟨rfl, alk_lcp.mp (by omega)⟩
    · intro h; exact h.1
theorem ae_C (I : INV ts tc ce sz N) (hi : i < 6) (hj : j < 6) : ∀ (d c q : Nat), c + d = min (N i) (N j) → d < q → fX4_alikeAtEnd_14 fu ts tc i j (nI (min (N i) (N j))) q (nI c) = some (nI (c + lcp (backF (tc i) (N i)) c (backF (tc j) (N j)) c d)) := by
  intro d
  have hNi := (I.1 i (lt7 hi)).2.1
  have hNj := (I.1 j (lt7 hj)).2.1
  have ei := (I.1 i (lt7 hi)).1
  have ej := (I.1 j (lt7 hj)).1
  induction d with
  | zero =>
    intro c q hc hq
    obtain ⟨q, rfl⟩ : ∃ k, q = k + 1 := ⟨q - 1, by omega⟩
    rw [fX4_alikeAtEnd_14]
    exact ps ((nI_leI (by omega) (by omega)).mpr (by omega)) rfl
  | succ d ih =>
    intro c q hc hq
    obtain ⟨q, rfl⟩ : ∃ k, q = k + 1 := ⟨q - 1, by omega⟩
    have s1 : fX4_signOn ts tc i (ts i - 1 - nI c) = some (backF (tc i) (N i) c) := by
      rw [ei, i_1, nI_sub (by omega), nI_sub (by omega)]
      exact tx_sign I.1 (lt7 hi) (by omega)
    have s2 : fX4_signOn ts tc j (ts j - 1 - nI c) = some (backF (tc j) (N j) c) := by
      rw [ej, i_1, nI_sub (by omega), nI_sub (by omega)]
      exact tx_sign I.1 (lt7 hj) (by omega)
    have h2 := ih (c + 1) q (by omega) (by omega)
    rw [← nI_1] at h2
    rw [fX4_alikeAtEnd_14]
    have hnle : ¬ nI (min (N i) (N j)) ≤ nI c := fun z => by have := (nI_leI (by omega) (by omega)).mp z; omega
    by_cases e : backF (tc i) (N i) c = backF (tc j) (N j) c
    · have e2 : c + lcp (backF (tc i) (N i)) c (backF (tc j) (N j)) c (d + 1) = c + 1 + lcp (backF (tc i) (N i)) (c + 1) (backF (tc j) (N j)) (c + 1) d := by
        rw [lcp, if_pos e]
        omega
      rw [e2]
      exact ns hnle (bs s1 (bs s2 (ps e h2)))
    · have e2 : c + lcp (backF (tc i) (N i)) c (backF (tc j) (N j)) c (d + 1) = c := by rw [lcp, if_neg e]; rfl
      rw [e2]
      exact ns hnle (bs s1 (bs s2 (ns e rfl)))
/-- the hash of d signs from p on, behind the hash h -/
def hs (f : Nat → Int32) : Nat → Nat → Int32 → Int32
  | 0, _, h => h
  | d + 1, p, h => hs f d (p + 1) (h * 31 + f p)
theorem hs_C (I : INV ts tc ce sz N) (hi : i < 6) : ∀ (d p q : Nat) (h : Int32), p + d = N i → d < q → fX4_hashFrom_4 fu ts tc i q h (nI p) = some (hs (tc i) d p h) := by
  intro d
  have hNi := (I.1 i (lt7 hi)).2.1
  have ei := (I.1 i (lt7 hi)).1
  induction d with
  | zero =>
    intro p q h hc hq
    obtain ⟨q, rfl⟩ : ∃ k, q = k + 1 := ⟨q - 1, by omega⟩
    rw [fX4_hashFrom_4, ei]
    exact ps ((nI_leI (by omega) (by omega)).mpr (by omega)) rfl
  | succ d ih =>
    intro p q h hc hq
    obtain ⟨q, rfl⟩ : ∃ k, q = k + 1 := ⟨q - 1, by omega⟩
    have h2 := ih (p + 1) q (h * 31 + tc i p) (by omega) (by omega)
    rw [← nI_1] at h2
    rw [fX4_hashFrom_4, ei, hs]
    exact ns (fun z => by have := (nI_leI (by omega) (by omega)).mp z; omega) (bs (tx_sign I.1 (lt7 hi) (by omega)) h2)
theorem hs_M (I : INV ts tc ce sz N) (hi : i < 6) : ∀ (d p q : Nat) (h : Int32), p + d = N i → d < q → fX6_behind_5 fu ce sz (nI i) q h (nI p) = some (hs (tc i) d p h) := by
  intro d
  have hNi := (I.1 i (lt7 hi)).2.1
  induction d with
  | zero =>
    intro p q h hc hq
    obtain ⟨q, rfl⟩ : ∃ k, q = k + 1 := ⟨q - 1, by omega⟩
    rw [fX6_behind_5]
    exact bs (I.2.1.len hi) (ps ((nI_leI (by omega) (by omega)).mpr (by omega)) rfl)
  | succ d ih =>
    intro p q h hc hq
    obtain ⟨q, rfl⟩ : ∃ k, q = k + 1 := ⟨q - 1, by omega⟩
    have h2 := ih (p + 1) q (h * 31 + tc i p) (by omega) (by omega)
    rw [← nI_1, Int32.mul_comm] at h2
    have hld := (I.2.1.rw hi).ld (show p < N i by omega)
    rw [← nI_add] at hld
    rw [fX6_behind_5, hs]
    rw [Int32.mul_comm h 31]
    exact bs (I.2.1.len hi) (ns (fun z => by have := (nI_leI (by omega) (by omega)).mp z; omega) (bs rm_base (bs hld h2)))
theorem tx_hash (I : INV ts tc ce sz N) (hi : i < 6) (hfu : 1000 ≤ fu) (h : Int32) : fX4_hashFrom fu ts tc i h = some (hs (tc i) (N i) 0 h) := hs_C I hi (N i) 0 fu h (by omega) (by have := (I.1 i (lt7 hi)).2.1; omega)
theorem rm_hash (I : INV ts tc ce sz N) (hi : i < 6) (hfu : 1000 ≤ fu) (h : Int32) : fX6_behind fu ce sz h (nI i) = some (hs (tc i) (N i) 0 h) := hs_M I hi (N i) 0 fu h (by omega) (by have := (I.1 i (lt7 hi)).2.1; omega)
def pw : Nat → Int32
  | 0 => 1
  | d + 1 => 31 * pw d
theorem hs_pw : ∀ (d p : Nat) (h : Int32), hs f d p h = h * pw d + hs f d p 0 := by
  intro d
  induction d with
  | zero => intro p h; show h = h * 1 + 0; rw [Int32.mul_one, Int32.add_zero]
  | succ d ih =>
    intro p h
    rw [hs, hs, ih (p + 1) (h * 31 + f p), ih (p + 1) (0 * 31 + f p), pw, Int32.zero_mul, Int32.zero_add, Int32.add_mul, Int32.mul_assoc, Int32.add_assoc]
theorem fac_C (I : INV ts tc ce sz N) (hi : i < 6) : ∀ (d p q : Nat) (h : Int32), p + d = N i → d < q → fX4_hashFactor_4 fu ts i q h (nI p) = some (h * pw d) := by
  intro d
  have hNi := (I.1 i (lt7 hi)).2.1
  have ei := (I.1 i (lt7 hi)).1
  induction d with
  | zero =>
    intro p q h hc hq
    obtain ⟨q, rfl⟩ : ∃ k, q = k + 1 := ⟨q - 1, by omega⟩
    rw [fX4_hashFactor_4, ei, pw, Int32.mul_one]
    exact ps ((nI_leI (by omega) (by omega)).mpr (by omega)) rfl
  | succ d ih =>
    intro p q h hc hq
    obtain ⟨q, rfl⟩ : ∃ k, q = k + 1 := ⟨q - 1, by omega⟩
    have h2 := ih (p + 1) q (h * 31) (by omega) (by omega)
    rw [← nI_1] at h2
    rw [fX4_hashFactor_4, ei, pw, ← Int32.mul_assoc]
    exact ns (fun z => by have := (nI_leI (by omega) (by omega)).mp z; omega) h2
def hrep (a b : Int32) : Nat → Int32 → Int32
  | 0, h => h
  | d + 1, h => hrep a b d (h * b + a)
theorem hr_C {k : Nat} {a b : Int32} (hk : k < 2 ^ 31) : ∀ (d c q : Nat) (h : Int32), c + d = k → d < q → fX5_hashRepeated_46 fu ts tc (nI k) a b q h (nI c) = some (.ok (hrep a b d h)) := by
  intro d
  induction d with
  | zero =>
    intro c q h hc hq
    obtain ⟨q, rfl⟩ : ∃ k, q = k + 1 := ⟨q - 1, by omega⟩
    rw [fX5_hashRepeated_46]
    exact ps ((nI_leI (by omega) (by omega)).mpr (by omega)) rfl
  | succ d ih =>
    intro c q h hc hq
    obtain ⟨q, rfl⟩ : ∃ k, q = k + 1 := ⟨q - 1, by omega⟩
    have h2 := ih (c + 1) q (h * b + a) (by omega) (by omega)
    rw [← nI_1] at h2
    rw [fX5_hashRepeated_46]
    exact ns (fun z => by have := (nI_leI (by omega) (by omega)).mp z; omega) h2
theorem hr_M {k : Nat} (I : INV ts tc ce sz N) (hi : i < 6) (hfu : 1000 ≤ fu) (hk : k < 2 ^ 31) : ∀ (d c q : Nat) (h : Int32), c + d = k → d < q → fX6_hashRepeated_40 fu ce sz (nI i) (nI k) q h (nI c) th = some (hrep (hs (tc i) (N i) 0 0) (pw (N i)) d h, th) := by
  intro d
  induction d with
  | zero =>
    intro c q h hc hq
    obtain ⟨q, rfl⟩ : ∃ k, q = k + 1 := ⟨q - 1, by omega⟩
    rw [fX6_hashRepeated_40]
    exact ps ((nI_leI (by omega) (by omega)).mpr (by omega)) rfl
  | succ d ih =>
    intro c q h hc hq
    obtain ⟨q, rfl⟩ : ∃ k, q = k + 1 := ⟨q - 1, by omega⟩
    have h2 := ih (c + 1) q (hs (tc i) (N i) 0 h) (by omega) (by omega)
    rw [← nI_1] at h2
    rw [fX6_hashRepeated_40, hrep, ← hs_pw]
    exact ns (fun z => by have := (nI_leI (by omega) (by omega)).mp z; omega) (bs (rm_hash I hi hfu h) h2)
end QD
theorem q_isSame {fu : Nat} {ts : Nat → Int32} {tc : Nat → Nat → Int32} {ol : Nat → Int64} {ce : Nat → Int32} {sz : Nat → Int32} {th : Int32} {N : Nat → Nat} (I : INV ts tc ce sz N) (hfu : 2000 ≤ fu) (x1 x2 : Int32) : ∃ (k : Int32) (g : Nat → Int64) (b : Int32) (t : Int32), fL_isSame fu ts tc ol x1 x2 = some (k, g) ∧ fX6_isSame fu th ce sz x1 x2 = some (b, t) ∧ t = k ∧ (k = 0 → (b = 0 ∧ g 0 = 0) ∨ (¬ b = 0 ∧ g 0 = 1)) ∧ ∃ N', INV ts tc ce sz N' := by
  rcases slots x1 with ⟨j1, h1, rfl⟩ | ⟨b1, b2⟩
  · rcases slots x2 with ⟨j2, h2, rfl⟩ | ⟨b1, b2⟩
    · have hN1 := (I.1 j1 (by omega)).2.1
      have hN2 := (I.1 j2 (by omega)).2.1
      have m1 := rm_same (fu := fu) (I.2.1.rw h1) (I.2.1.rw h2) (by omega)
      have c1 := tx_cmp (fu := fu) I.1 (lt7 h1) (lt7 h2) (by omega)
      have h0 := ord0 (f := tc j1) (g := tc j2) hN1 hN2
      cases e : (decide (N j1 = N j2) && alk (tc j1) 0 (tc j2) 0 (N j2)) with
      | false =>
        rw [e] at h0 m1
        exact ⟨0, _, 0, 0, wo_isSame (bs (sl_ok h1) (es (bs (sl_ok h2) (es (bs (c1) (ns (fun z => absurd (h0.mp z) (by decide)) (rfl))))))), bs (no2_ok h1 h2 _) (ps (rfl) (bs (rm_base) (bs (I.2.1.len h1) (bs (rm_base) (bs (I.2.1.len h2) (bs (m1) (ps (rfl) (rfl)))))))), rfl, fun _ => Or.inl ⟨rfl, upd_s⟩, N, I⟩
      | true =>
        rw [e] at h0 m1
        exact ⟨0, _, 1, 0, wo_isSame (bs (sl_ok h1) (es (bs (sl_ok h2) (es (bs (c1) (ps (h0.mpr rfl) (rfl))))))), bs (no2_ok h1 h2 _) (ps (rfl) (bs (rm_base) (bs (I.2.1.len h1) (bs (rm_base) (bs (I.2.1.len h2) (bs (m1) (ns (i32_10) (rfl)))))))), rfl, fun _ => Or.inr ⟨i32_10, upd_s⟩, N, I⟩
    · exact ⟨1, ol, 0, 1, we_isSame_1 (bs (sl_ok h1) (es (bs (b1) (er (rfl))))), by simp [fX6_isSame, fX6_isNoOf, fX6_isNoOfAll, fX6_isNoPlace, sl_no h1, b2], rfl, fun h => absurd h (by decide), N, I⟩
  · exact ⟨1, ol, 0, 1, we_isSame_1 (bs (b1) (er (rfl))), by simp [fX6_isSame, fX6_isNoOf, fX6_isNoOfAll, fX6_isNoPlace, b2], rfl, fun h => absurd h (by decide), N, I⟩
theorem q_compare {fu : Nat} {ts : Nat → Int32} {tc : Nat → Nat → Int32} {ol : Nat → Int64} {ce : Nat → Int32} {sz : Nat → Int32} {th : Int32} {N : Nat → Nat} (I : INV ts tc ce sz N) (hfu : 2000 ≤ fu) (x1 x2 : Int32) : ∃ (k : Int32) (g : Nat → Int64) (b : Int32) (t : Int32), fL_compare fu ts tc ol x1 x2 = some (k, g) ∧ fX6_compare fu th ce sz x1 x2 = some (b, t) ∧ t = k ∧ (k = 0 → g 0 = b.toInt64) ∧ ∃ N', INV ts tc ce sz N' := by
  rcases slots x1 with ⟨j1, h1, rfl⟩ | ⟨b1, b2⟩
  · rcases slots x2 with ⟨j2, h2, rfl⟩ | ⟨b1, b2⟩
    · have m1 := rm_order (fu := fu) (I.2.1.rw h1) (I.2.1.rw h2) (by omega)
      have c1 := tx_cmp (fu := fu) I.1 (lt7 h1) (lt7 h2) (by omega)
      exact ⟨0, _, _, 0, wo_compare (bs (sl_ok h1) (es (bs (sl_ok h2) (es (bs (c1) (rfl)))))), bs (no2_ok h1 h2 _) (ps (rfl) (bs (rm_base) (bs (I.2.1.len h1) (bs (rm_base) (bs (I.2.1.len h2) (bs (m1) (rfl))))))), rfl, fun _ => upd_s, N, I⟩
    · exact ⟨1, ol, 0, 1, we_compare_1 (bs (sl_ok h1) (es (bs (b1) (er (rfl))))), by simp [fX6_compare, fX6_isNoOf, fX6_isNoOfAll, fX6_isNoPlace, sl_no h1, b2], rfl, fun h => absurd h (by decide), N, I⟩
  · exact ⟨1, ol, 0, 1, we_compare_1 (bs (b1) (er (rfl))), by simp [fX6_compare, fX6_isNoOf, fX6_isNoOfAll, fX6_isNoPlace, b2], rfl, fun h => absurd h (by decide), N, I⟩
theorem q_common {fu : Nat} {ts : Nat → Int32} {tc : Nat → Nat → Int32} {ol : Nat → Int64} {ce : Nat → Int32} {sz : Nat → Int32} {th : Int32} {N : Nat → Nat} (I : INV ts tc ce sz N) (hfu : 2000 ≤ fu) (x1 x2 : Int32) : ∃ (k : Int32) (g : Nat → Int64) (b : Int32) (t : Int32), fL_common fu ts tc ol x1 x2 = some (k, g) ∧ fX6_common fu th ce sz x1 x2 = some (b, t) ∧ t = k ∧ (k = 0 → g 0 = b.toInt64) ∧ ∃ N', INV ts tc ce sz N' := by
  rcases slots x1 with ⟨j1, h1, rfl⟩ | ⟨b1, b2⟩
  · rcases slots x2 with ⟨j2, h2, rfl⟩ | ⟨b1, b2⟩
    · have m1 := rm_alike (fu := fu) (I.2.1.rw h1) (I.2.1.rw h2) (by omega)
      have c1 := tx_alike (fu := fu) (a := 0) (b := 0) I.1 (lt7 h1) (lt7 h2) (by omega) (by omega) (by omega)
      rw [Nat.sub_zero, Nat.sub_zero, ← i_0] at c1
      exact ⟨0, _, _, 0, wo_common (bs (sl_ok h1) (es (bs (sl_ok h2) (es (bs (c1) (rfl)))))), bs (no2_ok h1 h2 _) (ps (rfl) (bs (rm_base) (bs (I.2.1.len h1) (bs (rm_base) (bs (I.2.1.len h2) (bs (m1) (rfl))))))), rfl, fun _ => upd_s, N, I⟩
    · exact ⟨1, ol, 0, 1, we_common_1 (bs (sl_ok h1) (es (bs (b1) (er (rfl))))), by simp [fX6_common, fX6_isNoOf, fX6_isNoOfAll, fX6_isNoPlace, sl_no h1, b2], rfl, fun h => absurd h (by decide), N, I⟩
  · exact ⟨1, ol, 0, 1, we_common_1 (bs (b1) (er (rfl))), by simp [fX6_common, fX6_isNoOf, fX6_isNoOfAll, fX6_isNoPlace, b2], rfl, fun h => absurd h (by decide), N, I⟩
theorem q_commonEnd {fu : Nat} {ts : Nat → Int32} {tc : Nat → Nat → Int32} {ol : Nat → Int64} {ce : Nat → Int32} {sz : Nat → Int32} {th : Int32} {N : Nat → Nat} (I : INV ts tc ce sz N) (hfu : 2000 ≤ fu) (x1 x2 : Int32) : ∃ (k : Int32) (g : Nat → Int64) (b : Int32) (t : Int32) (ce' : Nat → Int32), fL_commonEnd fu ts tc ol x1 x2 = some (k, g) ∧ fX6_commonEnd fu th ce sz x1 x2 = some (b, t, ce') ∧ t = k ∧ (k = 0 → g 0 = b.toInt64) ∧ ∃ N', INV ts tc ce' sz N' := by
  rcases slots x1 with ⟨j1, h1, rfl⟩ | ⟨b1, b2⟩
  · rcases slots x2 with ⟨j2, h2, rfl⟩ | ⟨b1, b2⟩
    · have hN1 := (I.1 j1 (by omega)).2.1
      have hN2 := (I.1 j2 (by omega)).2.1
      obtain ⟨ca, m1, m2, m3⟩ := rm_back (fu := fu) (o := 360) I.2.1 h1 (Nat.le_refl 360) (Nat.le_of_ble_eq_true rfl) (by omega)
      have I2 := inv_ce I (fun j hj => m3 j (Or.inl hj))
      obtain ⟨cb, m4, m5, m6⟩ := rm_back (fu := fu) (o := 490) I2.2.1 h2 (Nat.le_of_ble_eq_true rfl) (Nat.le_of_ble_eq_true rfl) (by omega)
      have m7 := rm_alike (fu := fu) (m2.keep (fun j h1 h2 => m6 j (Or.inl (by omega)))) m5 (by omega)
      have c1 : fX4_alikeAtEnd fu ts tc j1 j2 = some (nI (lcp (backF (tc j1) (N j1)) 0 (backF (tc j2) (N j2)) 0 (min (N j1) (N j2)))) := by
        have := ae_C (fu := fu) I h1 h2 (min (N j1) (N j2)) 0 fu (by omega) (by omega)
        rw [Nat.zero_add] at this
        unfold fX4_alikeAtEnd
        rw [(I.1 j1 (lt7 h1)).1, (I.1 j2 (lt7 h2)).1, miI_nI (by omega) (by omega)]
        exact this
      rw [← i_360] at m1
      rw [← i_490] at m4
      rw [← i_360, ← i_490] at m7
      exact ⟨0, _, _, 0, _, wo_commonEnd (bs (sl_ok h1) (es (bs (sl_ok h2) (es (bs (c1) (rfl)))))), bs (no2_ok h1 h2 _) (ps (rfl) (bs (m1) (bs (m4) (bs (I.2.1.len h1) (bs (I.2.1.len h2) (bs (m7) (rfl))))))), rfl, fun _ => upd_s, N, inv_ce I2 (fun j hj => m6 j (Or.inl (by omega)))⟩
    · exact ⟨1, ol, 0, 1, ce, we_commonEnd_1 (bs (sl_ok h1) (es (bs (b1) (er (rfl))))), by simp [fX6_commonEnd, fX6_isNoOf, fX6_isNoOfAll, fX6_isNoPlace, sl_no h1, b2], rfl, fun h => absurd h (by decide), N, I⟩
  · exact ⟨1, ol, 0, 1, ce, we_commonEnd_1 (bs (b1) (er (rfl))), by simp [fX6_commonEnd, fX6_isNoOf, fX6_isNoOfAll, fX6_isNoPlace, b2], rfl, fun h => absurd h (by decide), N, I⟩
theorem q_hash {fu : Nat} {ts : Nat → Int32} {tc : Nat → Nat → Int32} {ol : Nat → Int64} {ce : Nat → Int32} {sz : Nat → Int32} {th : Int32} {N : Nat → Nat} (I : INV ts tc ce sz N) (hfu : 2000 ≤ fu) (x1 : Int32) : ∃ (k : Int32) (g : Nat → Int64) (b : Int32) (t : Int32), fL_hash fu ts tc ol x1 = some (k, g) ∧ fX6_hash fu th ce sz x1 = some (b, t) ∧ t = k ∧ (k = 0 → g 0 = b.toInt64) ∧ ∃ N', INV ts tc ce sz N' := by
  rcases slots x1 with ⟨j1, h1, rfl⟩ | ⟨b1, b2⟩
  · exact ⟨0, _, _, 0, wo_hash (bs (sl_ok h1) (es (bs (tx_hash I h1 (by omega) 0) (rfl)))), bs (sl_no h1 _) (ps (rfl) (bs (rm_hash I h1 (by omega) 0) (rfl))), rfl, fun _ => upd_s, N, I⟩
  · exact ⟨1, ol, 0, 1, we_hash_1 (bs (b1) (er (rfl))), by simp [fX6_hash, fX6_isNoOf, fX6_isNoOfAll, fX6_isNoPlace, b2], rfl, fun h => absurd h (by decide), N, I⟩
theorem q_hashJoined {fu : Nat} {ts : Nat → Int32} {tc : Nat → Nat → Int32} {ol : Nat → Int64} {ce : Nat → Int32} {sz : Nat → Int32} {th : Int32} {N : Nat → Nat} (I : INV ts tc ce sz N) (hfu : 2000 ≤ fu) (x1 x2 : Int32) : ∃ (k : Int32) (g : Nat → Int64) (b : Int32) (t : Int32), fL_hashJoined fu ts tc ol x1 x2 = some (k, g) ∧ fX6_hashJoined fu th ce sz x1 x2 = some (b, t) ∧ t = k ∧ (k = 0 → g 0 = b.toInt64) ∧ ∃ N', INV ts tc ce sz N' := by
  rcases slots x1 with ⟨j1, h1, rfl⟩ | ⟨b1, b2⟩
  · rcases slots x2 with ⟨j2, h2, rfl⟩ | ⟨b1, b2⟩
    · exact ⟨0, _, _, 0, wo_hashJoined (bs (sl_ok h1) (es (bs (sl_ok h2) (es (bs (tx_hash I h1 (by omega) 0) (bs (tx_hash I h2 (by omega) _) (rfl))))))), bs (no2_ok h1 h2 _) (ps (rfl) (bs (rm_hash I h1 (by omega) 0) (bs (rm_hash I h2 (by omega) _) (rfl)))), rfl, fun _ => upd_s, N, I⟩
    · exact ⟨1, ol, 0, 1, we_hashJoined_1 (bs (sl_ok h1) (es (bs (b1) (er (rfl))))), by simp [fX6_hashJoined, fX6_isNoOf, fX6_isNoOfAll, fX6_isNoPlace, sl_no h1, b2], rfl, fun h => absurd h (by decide), N, I⟩
  · exact ⟨1, ol, 0, 1, we_hashJoined_1 (bs (b1) (er (rfl))), by simp [fX6_hashJoined, fX6_isNoOf, fX6_isNoOfAll, fX6_isNoPlace, b2], rfl, fun h => absurd h (by decide), N, I⟩
theorem q_hashRepeated {fu : Nat} {ts : Nat → Int32} {tc : Nat → Nat → Int32} {ol : Nat → Int64} {ce : Nat → Int32} {sz : Nat → Int32} {th : Int32} {N : Nat → Nat} (I : INV ts tc ce sz N) (hfu : 2000 ≤ fu) (x1 x2 : Int32) : ∃ (k : Int32) (g : Nat → Int64) (b : Int32) (t : Int32), fL_hashRepeated fu ts tc ol x1 x2 = some (k, g) ∧ fX6_hashRepeated fu th ce sz x1 x2 = some (b, t) ∧ t = k ∧ (k = 0 → g 0 = b.toInt64) ∧ ∃ N', INV ts tc ce sz N' := by
  rcases slots x1 with ⟨j1, h1, rfl⟩ | ⟨b1, b2⟩
  · have hin := mo_isInI x2 0 1000
    rw [show (0 : Int64).toInt = 0 from rfl, show (1000 : Int64).toInt = 1000 from by decide +kernel] at hin
    by_cases hx : x2 < 0
    · rw [decide_eq_false (fun z => by rw [Int32.lt_iff_toInt_lt, show (0 : Int32).toInt = 0 from rfl] at hx; omega)] at hin
      exact ⟨2, ol, 0, 2, we_hashRepeated_2 (bs (sl_ok h1) (es (ps (hx) (rfl)))), bs (sl_no h1 _) (ps (rfl) (bs (hin) (ps (rfl) (bs (mo_thrown1 _ _) (ns (i32_10) (rfl)))))), rfl, fun h => absurd h (by decide), N, I⟩
    · have hx' : 0 ≤ x2 := by rw [Int32.lt_iff_toInt_lt] at hx; rw [Int32.le_iff_toInt_le]; omega
      obtain ⟨b, hb, rfl⟩ := i32_nat hx'
      have hle : nI b ≤ 1000 ↔ b ≤ 1000 := by
        rw [Int32.le_iff_toInt_le, nI_toInt hb, show (1000 : Int32).toInt = 1000 from by decide +kernel]
        omega
      rw [nI_toInt hb] at hin
      by_cases hr : b ≤ 1000
      · rw [decide_eq_true (by omega)] at hin
        have hN1 := (I.1 j1 (by omega)).2.1
        have c2 := fac_C (fu := fu) I h1 (N j1) 0 fu 1 (by omega) (by omega)
        rw [Int32.one_mul] at c2
        have c3 := hr_C (fu := fu) (ts := ts) (tc := tc) (a := hs (tc j1) (N j1) 0 0) (b := pw (N j1)) hb b 0 fu 0 (by omega) (by omega)
        have m3 := hr_M (fu := fu) (th := 0) I h1 (by omega) hb b 0 fu 0 (by omega) (by omega)
        exact ⟨0, _, _, 0, wo_hashRepeated (bs (sl_ok h1) (es (ns (hx) (ps (hle.mpr hr) (bs (tx_hash I h1 (by omega) 0) (bs (show fX4_hashFactor fu ts j1 = _ from c2) (c3))))))), bs (sl_no h1 _) (ps (rfl) (bs (hin) (ns (i32_10) (bs (mo_thrown0 _ _) (ps (rfl) (m3)))))), rfl, fun _ => upd_s, N, I⟩
      · rw [decide_eq_false (by omega)] at hin
        exact ⟨2, ol, 0, 2, we_hashRepeated_2 (bs (sl_ok h1) (es (ns (hx) (ns (fun z => hr (hle.mp z)) (rfl))))), bs (sl_no h1 _) (ps (rfl) (bs (hin) (ps (rfl) (bs (mo_thrown1 _ _) (ns (i32_10) (rfl)))))), rfl, fun h => absurd h (by decide), N, I⟩
  · exact ⟨1, ol, 0, 1, we_hashRepeated_1 (bs (b1) (er (rfl))), by simp [fX6_hashRepeated, fX6_isNoOf, fX6_isNoOfAll, fX6_isNoPlace, b2], rfl, fun h => absurd h (by decide), N, I⟩
