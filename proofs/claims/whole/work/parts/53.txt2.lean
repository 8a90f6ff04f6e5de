/-! THE CLASS's TEXTS, more: looked through, periods, numbers -/
theorem nI_eq0 {a : Nat} (h : a < 2 ^ 31) : nI a = 0 ↔ a = 0 := nI_eq h (by decide)
/-- a period: from 1 to n, each sign as that so many places behind -/
def per (f : Nat → Int32) (n p : Nat) : Bool := alk f p f 0 (n - p)
theorem per_iff {f : Nat → Int32} {n p : Nat} : per f n p = true ↔ ∀ k, k + p < n → f (k + p) = f k := by
  unfold per
  rw [alk_iff]
  constructor
  · intro h k hk
    have := h k (by omega)
    rw [Nat.zero_add, Nat.add_comm] at this
    exact this
  · intro h k hk
    have := h k (by omega)
    rw [Nat.zero_add, Nat.add_comm p k]
    exact this
/-- the first place from p on, of d ones, that P says; p + d without one -/
def srch (P : Nat → Bool) : Nat → Nat → Nat
  | 0, p => p
  | d + 1, p => if P p = true then p else srch P d (p + 1)
theorem srch_ge {P : Nat → Bool} {d p : Nat} : p ≤ srch P d p := by
  induction d generalizing p with
  | zero => exact Nat.le_refl p
  | succ d ih => unfold srch; split; exact Nat.le_refl p; have := ih (p := p + 1); omega
theorem srch_le {P : Nat → Bool} {d p : Nat} : srch P d p ≤ p + d := by
  induction d generalizing p with
  | zero => exact Nat.le_refl p
  | succ d ih => unfold srch; split; omega; have := ih (p := p + 1); omega
theorem srch_no {P : Nat → Bool} {d p q : Nat} (h1 : p ≤ q) (h2 : q < srch P d p) : P q = false := by
  induction d generalizing p with
  | zero => unfold srch at h2; omega
  | succ d ih =>
    unfold srch at h2
    split at h2
    · omega
    · next e =>
      by_cases z : q = p
      · subst z; simpa using e
      · exact ih (p := p + 1) (by omega) h2
theorem srch_yes {P : Nat → Bool} {d p : Nat} (h : srch P d p < p + d) : P (srch P d p) = true := by
  induction d generalizing p with
  | zero => unfold srch at h; omega
  | succ d ih =>
    unfold srch at h ⊢
    by_cases e : P p = true
    · rw [if_pos e]; exact e
    · rw [if_neg e] at h ⊢; exact ih (p := p + 1) (by omega)
theorem srch_is {P : Nat → Bool} {d p q : Nat} (h1 : p ≤ q) (h2 : q ≤ p + d) (hn : ∀ k, p ≤ k → k < q → P k = false) (hy : q < p + d → P q = true) : srch P d p = q := by
  rcases Nat.lt_trichotomy (srch P d p) q with h | h | h
  · have := srch_yes (P := P) (d := d) (p := p) (by omega)
    rw [hn _ srch_ge h] at this
    cases this
  · exact h
  · have := srch_no (P := P) h1 h
    rw [hy (by have := srch_le (P := P) (d := d) (p := p); omega)] at this
    cases this
/-- how many of d places from p on P says -/
def cntB (P : Nat → Bool) : Nat → Nat → Nat
  | 0, _ => 0
  | d + 1, p => (if P p = true then 1 else 0) + cntB P d (p + 1)
theorem cntB_le {P : Nat → Bool} {d p : Nat} : cntB P d p ≤ d := by
  induction d generalizing p with
  | zero => exact Nat.le_refl 0
  | succ d ih => unfold cntB; have := ih (p := p + 1); split <;> omega
theorem cntB_congr {P Q : Nat → Bool} {d p : Nat} (h : ∀ k, p ≤ k → k < p + d → P k = Q k) : cntB P d p = cntB Q d p := by
  induction d generalizing p with
  | zero => rfl
  | succ d ih => unfold cntB; rw [h p (by omega) (by omega), ih (fun k h1 h2 => h k (by omega) (by omega))]
theorem srch_congr {P Q : Nat → Bool} {d p : Nat} (h : ∀ k, p ≤ k → k < p + d → P k = Q k) : srch P d p = srch Q d p := by
  induction d generalizing p with
  | zero => rfl
  | succ d ih => unfold srch; rw [h p (by omega) (by omega), ih (fun k h1 h2 => h k (by omega) (by omega))]
/-- the numbers that P says, of d from p on, summed up -/
def sumB (P : Nat → Bool) : Nat → Nat → Nat
  | 0, _ => 0
  | d + 1, p => (if P p = true then p else 0) + sumB P d (p + 1)
theorem sumB_le {P : Nat → Bool} {d p M : Nat} (h : p + d ≤ M + 1) : sumB P d p ≤ d * M := by
  induction d generalizing p with
  | zero => simp [sumB]
  | succ d ih =>
    unfold sumB
    have := ih (p := p + 1) (by omega)
    rw [Nat.succ_mul]
    split <;> omega
/-- a rest of whole numbers is none -/
theorem rmI_nI {a b : Nat} (ha : a < 2 ^ 31) (h0 : 0 < b) (hb : b < 2 ^ 31) : rmI (nI a) (nI b) = some (nI (a % b)) := by
  unfold rmI
  rw [if_neg (nI_ne0 h0 hb), pk_rem ha h0 hb]
theorem dvI_nI {a b : Nat} (ha : a < 2 ^ 31) (h0 : 0 < b) (hb : b < 2 ^ 31) : dvI (nI a) (nI b) = some (nI (a / b)) := by
  unfold dvI
  rw [if_neg (nI_ne0 h0 hb), pk_div ha h0 hb]
/-- how many signs the root has: the first number that divides and is a period -/
def rootN (f : Nat → Int32) (n : Nat) : Nat := srch (fun p => decide (n % p = 0) && per f n p) (n - 1) 1
section TX2
variable {ts : Nat → Int32} {tc : Nat → Nat → Int32} {N : Nat → Nat} {i j fu p n : Nat}
theorem tx_hasAt (h : TC ts tc N) (hi : i < 7) (hj : j < 7) (hp : p ≤ N i) (hfu : 1000 ≤ fu) : fX4_hasAt fu ts tc i (nI p) j = some (bI (stands (tc i) (N i) (tc j) (N j) p)) := by
  have hNi := (h i hi).2.1
  have hNj := (h j hj).2.1
  have hl := lcp_le (f := tc i) (g := tc j) (a := p) (b := 0) (m := min (N i - p) (N j - 0))
  unfold fX4_hasAt
  rw [i_0, tx_alike h hi hj hp (Nat.zero_le _) (by omega)]
  simp only [Option.bind_some]
  rw [(h j hj).1]
  by_cases e : p + N j ≤ N i
  · have em : min (N i - p) (N j - 0) = N j := by omega
    rw [em] at hl ⊢
    unfold stands
    rw [decide_eq_true e, Bool.true_and]
    by_cases e2 : lcp (tc i) p (tc j) 0 (N j) = N j
    · rw [if_pos (by rw [e2]), alk_lcp.mp e2]; rfl
    · rw [if_neg (fun z => e2 ((nI_eq (by omega) (by omega)).mp z))]
      have : alk (tc i) p (tc j) 0 (N j) = false := by
        cases e3 : alk (tc i) p (tc j) 0 (N j)
        · rfl
        · exact absurd (alk_lcp.mpr e3) e2
      rw [this]; rfl
  · rw [if_neg (fun z => by have := (nI_eq (by omega) (by omega)).mp z; omega)]
    unfold stands
    rw [decide_eq_false e]; rfl
theorem tx_per (h : TC ts tc N) (hi : i < 7) (hp : p ≤ N i) (hfu : 1000 ≤ fu) : fX4_hasPeriod fu ts tc i (nI p) = some (bI (per (tc i) (N i) p)) := by
  have hNi := (h i hi).2.1
  have hl := lcp_le (f := tc i) (g := tc i) (a := p) (b := 0) (m := min (N i - p) (N i - 0))
  unfold fX4_hasPeriod
  rw [i_0, tx_alike h hi hi hp (Nat.zero_le _) (by omega)]
  simp only [Option.bind_some]
  rw [(h i hi).1, nI_sub hp]
  have em : min (N i - p) (N i - 0) = N i - p := by omega
  rw [em] at hl ⊢
  unfold per
  by_cases e2 : lcp (tc i) p (tc i) 0 (N i - p) = N i - p
  · rw [if_pos (by rw [e2]), alk_lcp.mp e2]; rfl
  · rw [if_neg (fun z => e2 ((nI_eq (by omega) (by omega)).mp z))]
    have : alk (tc i) p (tc i) 0 (N i - p) = false := by
      cases e3 : alk (tc i) p (tc i) 0 (N i - p)
      · rfl
      · exact absurd (alk_lcp.mpr e3) e2
    rw [this]; rfl
theorem tx_cper_loop (h : TC ts tc N) (hi : i < 7) (hfu : 1000 ≤ fu) : ∀ (d p c q : Nat), p + d = N i + 1 → d < q → fX4_countPeriods_4 fu ts tc i q (nI c) (nI p) = some (nI (c + cntB (per (tc i) (N i)) d p)) := by
  have hNi := (h i hi).2.1
  intro d
  induction d with
  | zero =>
    intro p c q hp hq
    obtain ⟨q, rfl⟩ : ∃ k, q = k + 1 := ⟨q - 1, by omega⟩
    rw [fX4_countPeriods_4, (h i hi).1, if_pos ((nI_ltI (by omega) (by omega)).mpr (by omega))]
    rfl
  | succ d ih =>
    intro p c q hp hq
    obtain ⟨q, rfl⟩ : ∃ k, q = k + 1 := ⟨q - 1, by omega⟩
    rw [fX4_countPeriods_4, (h i hi).1, if_neg (fun z => by have := (nI_ltI (by omega) (by omega)).mp z; omega), tx_per h hi (by omega) hfu]
    simp only [Option.bind_some, cntB]
    cases e : per (tc i) (N i) p
    · rw [if_pos bI_f, nI_1, ih (p + 1) c q (by omega) (by omega)]; simp
    · rw [if_neg (by decide), nI_1, nI_1, ih (p + 1) (c + 1) q (by omega) (by omega)]
      congr 2; simp; omega
theorem tx_cper (h : TC ts tc N) (hi : i < 7) (hfu : 1000 ≤ fu) : fX4_countPeriods fu ts tc i = some (nI (cntB (per (tc i) (N i)) (N i) 1)) := by
  have hNi := (h i hi).2.1
  have e := tx_cper_loop h hi hfu (N i) 1 0 fu (by omega) (by omega)
  rw [Nat.zero_add] at e
  exact e
theorem tx_sper_loop (h : TC ts tc N) (hi : i < 7) (hfu : 1000 ≤ fu) : ∀ (d p c q : Nat), p + d = N i + 1 → d < q → fX4_sumPeriods_4 fu ts tc i q (nI c) (nI p) = some (nI (c + sumB (per (tc i) (N i)) d p)) := by
  have hNi := (h i hi).2.1
  intro d
  induction d with
  | zero =>
    intro p c q hp hq
    obtain ⟨q, rfl⟩ : ∃ k, q = k + 1 := ⟨q - 1, by omega⟩
    rw [fX4_sumPeriods_4, (h i hi).1, if_pos ((nI_ltI (by omega) (by omega)).mpr (by omega))]
    rfl
  | succ d ih =>
    intro p c q hp hq
    obtain ⟨q, rfl⟩ : ∃ k, q = k + 1 := ⟨q - 1, by omega⟩
    rw [fX4_sumPeriods_4, (h i hi).1, if_neg (fun z => by have := (nI_ltI (by omega) (by omega)).mp z; omega), tx_per h hi (by omega) hfu]
    simp only [Option.bind_some, sumB]
    cases e : per (tc i) (N i) p
    · rw [if_pos bI_f, nI_1, ih (p + 1) c q (by omega) (by omega)]; simp
    · rw [if_neg (by decide), nI_1, nI_add, ih (p + 1) (c + p) q (by omega) (by omega)]
      congr 2; simp; omega
theorem tx_sper (h : TC ts tc N) (hi : i < 7) (hfu : 1000 ≤ fu) : fX4_sumPeriods fu ts tc i = some (nI (sumB (per (tc i) (N i)) (N i) 1)) := by
  have hNi := (h i hi).2.1
  have e := tx_sper_loop h hi hfu (N i) 1 0 fu (by omega) (by omega)
  rw [Nat.zero_add] at e
  exact e
theorem tx_lper_loop (h : TC ts tc N) (hi : i < 7) (hfu : 1000 ≤ fu) : ∀ (d p q : Nat), p + d = N i → d < q → fX4_leastPeriod_2 fu ts tc i q (nI p) = some (nI (srch (per (tc i) (N i)) d p)) := by
  have hNi := (h i hi).2.1
  intro d
  induction d with
  | zero =>
    intro p q hp hq
    obtain ⟨q, rfl⟩ : ∃ k, q = k + 1 := ⟨q - 1, by omega⟩
    rw [fX4_leastPeriod_2, (h i hi).1, if_pos ((nI_leI (by omega) (by omega)).mpr (by omega))]
    simp [srch]; rw [← hp]; rfl
  | succ d ih =>
    intro p q hp hq
    obtain ⟨q, rfl⟩ : ∃ k, q = k + 1 := ⟨q - 1, by omega⟩
    rw [fX4_leastPeriod_2, (h i hi).1, if_neg (fun z => by have := (nI_leI (by omega) (by omega)).mp z; omega), tx_per h hi (by omega) hfu]
    simp only [Option.bind_some, srch]
    cases e : per (tc i) (N i) p
    · rw [if_pos bI_f, nI_1, ih (p + 1) q (by omega) (by omega)]; simp
    · rw [if_neg (by decide)]; simp
theorem tx_lper (h : TC ts tc N) (hi : i < 7) (hn : 1 ≤ N i) (hfu : 1000 ≤ fu) : fX4_leastPeriod fu ts tc i = some (nI (srch (per (tc i) (N i)) (N i - 1) 1)) := by
  have hNi := (h i hi).2.1
  exact tx_lper_loop h hi hfu (N i - 1) 1 fu (by omega) (by omega)
theorem tx_root_loop (h : TC ts tc N) (hi : i < 7) (hfu : 1000 ≤ fu) : ∀ (d p q : Nat), 1 ≤ p → p + d = N i → d < q → fX4_rootSize_2 fu ts tc i q (nI p) = some (nI (srch (fun p => decide (N i % p = 0) && per (tc i) (N i) p) d p)) := by
  have hNi := (h i hi).2.1
  intro d
  induction d with
  | zero =>
    intro p q h1 hp hq
    obtain ⟨q, rfl⟩ : ∃ k, q = k + 1 := ⟨q - 1, by omega⟩
    rw [fX4_rootSize_2, (h i hi).1, if_pos ((nI_leI (by omega) (by omega)).mpr (by omega))]
    simp [srch]; rw [← hp]; rfl
  | succ d ih =>
    intro p q h1 hp hq
    obtain ⟨q, rfl⟩ : ∃ k, q = k + 1 := ⟨q - 1, by omega⟩
    have hm : N i % p < p := Nat.mod_lt _ (by omega)
    rw [fX4_rootSize_2, (h i hi).1, if_neg (fun z => by have := (nI_leI (by omega) (by omega)).mp z; omega), rmI_nI (by omega) (by omega) (by omega)]
    simp only [Option.bind_some, srch]
    by_cases e0 : N i % p = 0
    · rw [if_pos (by rw [e0]; rfl), tx_per h hi (by omega) hfu]
      simp only [Option.bind_some]
      by_cases e : per (tc i) (N i) p = true
      · rw [if_neg (by rw [e]; decide)]; simp [e0, e]
      · have e : per (tc i) (N i) p = false := by simpa using e
        rw [if_pos (by rw [e]; rfl), nI_1, ih (p + 1) q (by omega) (by omega) (by omega)]; simp [e]
    · rw [if_neg (fun z => e0 ((nI_eq0 (by omega)).mp z)), nI_1, ih (p + 1) q (by omega) (by omega) (by omega)]
      simp [e0]
theorem tx_root (h : TC ts tc N) (hi : i < 7) (hfu : 1000 ≤ fu) : fX4_rootSize fu ts tc i = some (nI (if N i = 0 then 0 else rootN (tc i) (N i))) := by
  have hNi := (h i hi).2.1
  unfold fX4_rootSize
  by_cases e : N i = 0
  · obtain ⟨q, rfl⟩ : ∃ k, fu = k + 1 := ⟨fu - 1, by omega⟩
    rw [if_pos e, fX4_rootSize_2, (h i hi).1, e, i_1, if_pos ((nI_leI (by omega) (by omega)).mpr (by omega))]
  · rw [if_neg e, i_1, tx_root_loop h hi hfu (N i - 1) 1 fu (by omega) (by omega) (by omega)]
    rfl
end TX2
