/-! THE COMPARISONS of factors: Duval's walk is the longest least end -/
section QI
variable {ts : Nat → Int32} {tc tc0 : Nat → Nat → Int32} {ce sz : Nat → Int32} {N : Nat → Nat} {T : Nat → Nat → Int32} {i j s fu r : Nat} {th : Int32} {f g F : Nat → Int32} {P : Nat → Bool}
/-- what counts as a sign: no difference of two of them leaves the ints -/
def small (f : Nat → Int32) (n : Nat) : Prop := ∀ k, k < n → 0 ≤ (f k).toInt ∧ (f k).toInt ≤ 1000
theorem sub_small {a b : Int32} (ha : 0 ≤ a.toInt ∧ a.toInt ≤ 1000) (hb : 0 ≤ b.toInt ∧ b.toInt ≤ 1000) : (a - b).toInt = a.toInt - b.toInt := by
  rw [Int32.toInt_sub, Int.bmod_eq_of_le (by omega) (by omega)]
theorem i32_0le {x : Int32} : 0 ≤ x ↔ 0 ≤ x.toInt := by rw [Int32.le_iff_toInt_le, show (0 : Int32).toInt = 0 from rfl]
theorem ord_neg {n m : Nat} (hn : n ≤ 60) (hm : m ≤ 60) (hf : small f n) (hg : small g m) : (¬ 0 ≤ ordI f n g m) ↔ ∃ k, k ≤ n ∧ k < m ∧ (∀ j, j < k → f j = g j) ∧ (k = n ∨ (k < n ∧ (f k).toInt < (g k).toInt)) := by
  have hl := lcp_le (f := f) (g := g) (a := 0) (b := 0) (m := min n m)
  have he : ∀ k, k < lcp f 0 g 0 (min n m) → f k = g k := fun k hk => by have := lcp_eq hk; rw [Nat.zero_add] at this; exact this
  rw [i32_0le]
  unfold ordI
  by_cases c : lcp f 0 g 0 (min n m) < min n m
  · rw [if_pos c, sub_small (hf _ (by omega)) (hg _ (by omega))]
    have ne := lcp_ne c
    rw [Nat.zero_add] at ne
    constructor
    · intro h
      exact ⟨_, by omega, by omega, he, Or.inr ⟨by omega, by omega⟩⟩
    · rintro ⟨k, k1, k2, k3, k4⟩
      have h1 : ¬ lcp f 0 g 0 (min n m) < k := fun z => ne (k3 _ z)
      by_cases h2 : k < lcp f 0 g 0 (min n m)
      · have := he k h2
        rcases k4 with k4 | ⟨k4, k5⟩
        · omega
        · rw [this] at k5; omega
      · have : k = lcp f 0 g 0 (min n m) := by omega
        rw [this] at k4
        rcases k4 with k4 | ⟨k4, k5⟩ <;> omega
  · rw [if_neg c, pk_sub_toInt (by omega) (by omega)]
    constructor
    · intro h
      exact ⟨n, Nat.le_refl _, by omega, fun j hj => he j (by omega), Or.inl rfl⟩
    · rintro ⟨k, k1, k2, k3, k4⟩
      rcases k4 with k4 | ⟨k4, k5⟩
      · omega
      · rw [he k (by omega)] at k5; omega
/-- the text of L signs is less than each of its ends -/
def Ly (g : Nat → Int32) (L : Nat) : Prop := ∀ t, 1 ≤ t → t < L → ∃ m, m < L - t ∧ (∀ k, k < m → g k = g (t + k)) ∧ (g m).toInt < (g (t + m)).toInt
theorem ly_step {p J : Nat} (hp : 1 ≤ p) (hpJ : p ≤ J) (hL : Ly g p) (hper : ∀ t, t + p < J → g (t + p) = g t) (hJ : (g (J - p)).toInt < (g J).toInt) : Ly g (J + 1) := by
  intro t ht1 ht2
  have hmul := per_mul (f := g) (n := J) (r := p) (per_iff.mpr hper)
  have hq := Nat.div_add_mod t p
  have hrp : t % p < p := Nat.mod_lt _ hp
  -- what stands t further on, below J
  have shift : ∀ k, t + k < J → g (t + k) = g (t % p + k) := fun k hk => by
    have := hmul (t / p) (t % p + k) (by omega)
    rw [show t % p + k + p * (t / p) = t + k by omega] at this
    exact this
  have back : 1 ≤ t / p → p ≤ t → g (J - p) = g (t % p + (J - t)) := fun h1 h2 => by
    have hm : p * (t / p) = p * (t / p - 1) + p := by
      conv => lhs; rw [show t / p = (t / p - 1) + 1 by omega]
      rw [Nat.mul_succ]
    have := hmul (t / p - 1) (t % p + (J - t)) (by omega)
    rw [show t % p + (J - t) + p * (t / p - 1) = J - p by omega] at this
    exact this
  by_cases r0 : t % p = 0
  · have h1 : p ≤ t := by
      rcases Nat.lt_or_ge t p with h | h
      · rw [Nat.mod_eq_of_lt h] at r0; omega
      · exact h
    have h2 : 1 ≤ t / p := Nat.div_pos h1 hp
    refine ⟨J - t, by omega, fun k hk => ?_, ?_⟩
    · rw [shift k (by omega), r0, Nat.zero_add]
    · have := back h2 h1
      rw [r0, Nat.zero_add] at this
      rw [← this, show t + (J - t) = J by omega]
      exact hJ
  · obtain ⟨m, m1, m2, m3⟩ := hL (t % p) (by omega) hrp
    by_cases h : t + m < J
    · refine ⟨m, by omega, fun k hk => ?_, ?_⟩
      · rw [shift k (by omega)]; exact m2 k hk
      · rw [shift m h]; exact m3
    · have h1 : p ≤ t := by
        rcases Nat.lt_or_ge t p with h' | h'
        · rw [Nat.mod_eq_of_lt h'] at m1; omega
        · exact h'
      have h2 : 1 ≤ t / p := Nat.div_pos h1 hp
      refine ⟨J - t, by omega, fun k hk => ?_, ?_⟩
      · rw [shift k (by omega)]; exact m2 k (by omega)
      · rw [show t + (J - t) = J by omega]
        have e1 := back h2 h1
        rw [e1] at hJ
        by_cases e : J - t = m
        · rw [e] at hJ ⊢; omega
        · rw [m2 (J - t) (by omega)]; exact hJ
/-- Duval's walk: d places are left of n, the period so far is p -/
def duv (g : Nat → Int32) (n : Nat) : Nat → Nat → Nat
  | 0, p => p
  | d + 1, p => if g (n - (d + 1)) < g (n - (d + 1) - p) then p else if g (n - (d + 1)) ≤ g (n - (d + 1) - p) then duv g n d p else duv g n d (n - (d + 1) + 1)
theorem duv_is {n : Nat} : ∀ (d p : Nat), 1 ≤ p → p + d ≤ n → Ly g p → (∀ t, t + p < n - d → g (t + p) = g t) → 1 ≤ duv g n d p ∧ duv g n d p ≤ n ∧ Ly g (duv g n d p) ∧ ∀ L, duv g n d p < L → L ≤ n → ¬ Ly g L := by
  intro d
  have notL : ∀ (p J L : Nat), 1 ≤ p → p < L → (∀ t, t + p < J → g (t + p) = g t) → (L ≤ J ∨ (J < L ∧ p ≤ J ∧ (g J).toInt < (g (J - p)).toInt)) → ¬ Ly g L := by
    intro p J L hp hpL hper hc hL
    obtain ⟨m, m1, m2, m3⟩ := hL p hp hpL
    rcases hc with hc | ⟨c1, c2, c3⟩
    · have := hper m (by omega)
      rw [Nat.add_comm p m, this] at m3
      omega
    · by_cases h : m + p < J
      · have := hper m h
        rw [Nat.add_comm p m, this] at m3
        omega
      · by_cases h2 : m + p = J
        · rw [show p + m = J by omega, show m = J - p by omega] at m3
          omega
        · have := m2 (J - p) (by omega)
          rw [show p + (J - p) = J by omega] at this
          rw [this] at c3
          omega
  induction d with
  | zero =>
    intro p hp hn hL hper
    exact ⟨hp, hn, hL, fun L h1 h2 => notL p n L hp h1 hper (Or.inl h2)⟩
  | succ d ih =>
    intro p hp hn hL hper
    rw [duv]
    generalize hJ : n - (d + 1) = J at *
    by_cases c1 : g J < g (J - p)
    · rw [if_pos c1]
      rw [Int32.lt_iff_toInt_lt] at c1
      refine ⟨hp, by omega, hL, fun L h1 h2 => notL p J L hp h1 hper ?_⟩
      by_cases h : L ≤ J
      · exact Or.inl h
      · exact Or.inr ⟨by omega, by omega, c1⟩
    · rw [if_neg c1]
      rw [Int32.lt_iff_toInt_lt] at c1
      by_cases c2 : g J ≤ g (J - p)
      · rw [if_pos c2]
        rw [Int32.le_iff_toInt_le] at c2
        have e : g J = g (J - p) := Int32.toInt_inj.mp (by omega)
        refine ih p hp (by omega) hL (fun t ht => ?_)
        by_cases h : t + p < J
        · exact hper t h
        · rw [show t + p = J by omega, e, show J - p = t by omega]
      · rw [if_neg c2]
        rw [Int32.le_iff_toInt_le] at c2
        exact ih (J + 1) (by omega) (by omega) (ly_step hp (by omega) hL hper (by omega)) (fun t ht => by omega)
/-- how long the factor is that n signs begin with -/
def fsz (g : Nat → Int32) (n : Nat) : Nat := duv g n (n - 1) 1
theorem fsz_is {n : Nat} (hn : 1 ≤ n) : 1 ≤ fsz g n ∧ fsz g n ≤ n ∧ Ly g (fsz g n) ∧ ∀ L, fsz g n < L → L ≤ n → ¬ Ly g L := duv_is (n - 1) 1 (Nat.le_refl _) (by omega) (fun t h1 h2 => by omega) (fun t ht => by omega)
theorem du_C (h : TC ts tc N) (hi : i < 7) {s : Nat} : ∀ (d p q : Nat), s + (p + d) ≤ N i → 1 ≤ p → d < q → fX1_sizeAt_6 fu ts tc i (nI s) q (nI (N i - d - p)) (nI (N i - d)) = some (nI (duv (fun k => tc i (s + k)) (N i - s) d p)) := by
  intro d
  have hNi := (h i hi).2.1
  induction d with
  | zero =>
    intro p q hp h1 hq
    obtain ⟨q, rfl⟩ : ∃ k, q = k + 1 := ⟨q - 1, by omega⟩
    rw [fX1_sizeAt_6, duv]
    exact bs (tx_size h hi) (ps ((nI_leI (by omega) (by omega)).mpr (by omega)) (by rw [nI_sub (by omega)]; congr 2; omega))
  | succ d ih =>
    intro p q hp h1 hq
    obtain ⟨q, rfl⟩ : ∃ k, q = k + 1 := ⟨q - 1, by omega⟩
    have hle : ¬ nI (N i) ≤ nI (N i - (d + 1)) := fun z => by have := (nI_leI (by omega) (by omega)).mp z; omega
    have s1 := tx_sign h hi (show N i - (d + 1) - p < N i by omega)
    have s2 := tx_sign h hi (show N i - (d + 1) < N i by omega)
    have e1 : s + (N i - s - (d + 1)) = N i - (d + 1) := by omega
    have e2 : s + (N i - s - (d + 1) - p) = N i - (d + 1) - p := by omega
    rw [fX1_sizeAt_6, duv]
    show _ = some (nI (if tc i (s + (N i - s - (d + 1))) < tc i (s + (N i - s - (d + 1) - p)) then _ else if tc i (s + (N i - s - (d + 1))) ≤ tc i (s + (N i - s - (d + 1) - p)) then _ else _))
    rw [e1, e2]
    by_cases c1 : tc i (N i - (d + 1)) < tc i (N i - (d + 1) - p)
    · rw [if_pos c1]
      exact bs (tx_size h hi) (ns hle (bs s1 (bs s2 (ps c1 (by rw [nI_sub (by omega)]; congr 2; omega)))))
    · rw [if_neg c1]
      by_cases c2 : tc i (N i - (d + 1)) ≤ tc i (N i - (d + 1) - p)
      · rw [if_pos c2]
        have h2 := ih p q (by omega) h1 (by omega)
        rw [show N i - d - p = N i - (d + 1) - p + 1 by omega, show N i - d = N i - (d + 1) + 1 by omega, ← nI_1, ← nI_1] at h2
        exact bs (tx_size h hi) (ns hle (bs s1 (bs s2 (ns c1 (bs s1 (bs s2 (ps c2 h2)))))))
      · rw [if_neg c2]
        have h2 := ih (N i - s - (d + 1) + 1) q (by omega) (by omega) (by omega)
        rw [show N i - d - (N i - s - (d + 1) + 1) = s by omega, show N i - d = N i - (d + 1) + 1 by omega, ← nI_1] at h2
        exact bs (tx_size h hi) (ns hle (bs s1 (bs s2 (ns c1 (bs s1 (bs s2 (ns c2 h2)))))))
theorem tx_fsz (h : TC ts tc N) (hi : i < 7) {s : Nat} (hs : s < N i) (hfu : 1000 ≤ fu) : fX1_sizeAt fu ts tc i (nI s) = some (nI (fsz (fun k => tc i (s + k)) (N i - s))) := by
  have hNi := (h i hi).2.1
  have := du_C (fu := fu) (s := s) h hi (N i - s - 1) 1 fu (by omega) (Nat.le_refl _) (by omega)
  rw [show N i - (N i - s - 1) - 1 = s by omega, show N i - (N i - s - 1) = s + 1 by omega, ← nI_1] at this
  exact this
theorem i32_irr (x : Int32) : ¬ x < x := fun z => by
  rw [Int32.lt_iff_toInt_lt] at z
  omega
def lyB (g : Nat → Int32) (L : Nat) : Nat → Nat → Bool
  | 0, _ => true
  | d + 1, t => !(decide (0 ≤ ordI g L (fun k => g (t + k)) (L - t))) && lyB g L d (t + 1)
theorem lyB_all {L : Nat} : ∀ (d t : Nat), lyB g L d t = true ↔ ∀ k, k < d → ¬ 0 ≤ ordI g L (fun j => g (t + k + j)) (L - (t + k)) := by
  intro d
  induction d with
  | zero => intro t; exact ⟨fun _ k hk => by omega, fun _ => rfl⟩
  | succ d ih =>
    intro t
    rw [lyB, Bool.and_eq_true, ih]
    constructor
    · rintro ⟨h1, h2⟩ k hk
      cases k with
      | zero => simpa using h1
      | succ k => have := h2 k (by omega); rw [show t + 1 + k = t + (k + 1) by omega] at this; exact this
    · intro h
      refine ⟨by have := h 0 (by omega); simpa using this, fun k hk => ?_⟩
      have := h (k + 1) (by omega)
      rw [show t + 1 + k = t + (k + 1) by omega]
      exact this
theorem lyB_iff {L : Nat} (hL : 1 ≤ L) (h60 : L ≤ 60) (hg : small g L) : lyB g L (L - 1) 1 = true ↔ Ly g L := by
  rw [lyB_all]
  have key : ∀ t, t < L → ((¬ 0 ≤ ordI g L (fun j => g (t + j)) (L - t)) ↔ ∃ k, k ≤ L ∧ k < L - t ∧ (∀ j, j < k → g j = g (t + j)) ∧ (k = L ∨ (k < L ∧ (g k).toInt < (g (t + k)).toInt))) := fun t ht => ord_neg h60 (by omega) hg (fun k hk => hg (t + k) (by omega))
  constructor
  · intro h t h1 h2
    have := h (t - 1) (by omega)
    rw [show 1 + (t - 1) = t by omega] at this
    obtain ⟨m, m1, m2, m3, m4⟩ := (key t h2).mp this
    refine ⟨m, m2, m3, ?_⟩
    rcases m4 with m4 | m4
    · omega
    · exact m4.2
  · intro h k hk
    obtain ⟨m, m1, m2, m3⟩ := h (1 + k) (by omega) (by omega)
    exact (key (1 + k) (by omega)).mpr ⟨m, by omega, m1, m2, Or.inr ⟨by omega, m3⟩⟩
theorem le_loop {L : Nat} (hw : RW ce r L g) (h60 : L ≤ 60) (hfu : 1000 ≤ fu) : ∀ (d t q : Nat) (y : Bool), t + d = L → d + 1 < q → fX6_isLeastEnd_5 fu ce (nI r) (nI L) q (bI y) (nI t) = some (bI (y && lyB g L d t)) := by
  intro d
  have h900 := hw.1
  induction d with
  | zero =>
    intro t q y ht hq
    obtain ⟨q, rfl⟩ : ∃ k, q = k + 1 := ⟨q - 1, by omega⟩
    rw [fX6_isLeastEnd_5, lyB, Bool.and_true]
    exact ps ((nI_leI (by omega) (by omega)).mpr (by omega)) (bs ckZ_b rfl)
  | succ d ih =>
    intro t q y ht hq
    obtain ⟨q, rfl⟩ : ∃ k, q = k + 1 := ⟨q - 1, by omega⟩
    have hle : ¬ nI L ≤ nI t := fun z => by have := (nI_leI (by omega) (by omega)).mp z; omega
    rw [fX6_isLeastEnd_5]
    cases y with
    | false =>
      rw [Bool.false_and]
      exact ns hle (ps rfl (bs ckZ_0 rfl))
    | true =>
      have od := rm_order (fu := fu) hw (hw.sub (a := t) (b := L - t) (by omega)) hfu
      rw [← nI_add, ← nI_sub (by omega)] at od
      rw [lyB, Bool.true_and]
      by_cases z : 0 ≤ ordI g L (fun k => g (t + k)) (L - t)
      · have h2 := ih (t + 1) q false (by omega) (by omega)
        rw [← nI_1] at h2
        rw [decide_eq_true z]
        exact ns hle (ns i32_10 (bs od (ps z h2)))
      · have h2 := ih (t + 1) q true (by omega) (by omega)
        rw [← nI_1, Bool.true_and] at h2
        rw [decide_eq_false z]
        exact ns hle (ns i32_10 (bs od (ns z h2)))
theorem rm_least {L : Nat} (hw : RW ce r L g) (hL : 1 ≤ L) (h60 : L ≤ 60) (hfu : 1000 ≤ fu) : fX6_isLeastEnd fu ce (nI r) (nI L) = some (bI (lyB g L (L - 1) 1)) := le_loop hw h60 hfu (L - 1) 1 fu true (by omega) (by omega)
theorem ff_loop (h : RM ce sz N T) (hi : i < 6) {s R : Nat} (hR1 : 1 ≤ R) (hsm : small (fun k => T i (s + k)) (N i - s)) (hR : Ly (fun k => T i (s + k)) R) (hno : ∀ L, R < L → L ≤ N i - s → ¬ Ly (fun k => T i (s + k)) L) (hfu : 1000 ≤ fu) : ∀ (d q : Nat), R + d ≤ N i - s → d < q → fX6_factorOf_9 fu ce sz (nI i) (nI s) q (nI (R + d)) = some (nI R) := by
  intro d
  have hNi := (h i hi).2.1
  induction d with
  | zero =>
    intro q hd hq
    obtain ⟨q, rfl⟩ : ∃ k, q = k + 1 := ⟨q - 1, by omega⟩
    have le := rm_least (fu := fu) ((h.rw hi).sub (a := s) (b := R) (by omega)) hR1 (by omega) hfu
    rw [(lyB_iff hR1 (by omega) (fun k hk => hsm k (by omega))).mpr hR, ← nI_add] at le
    rw [fX6_factorOf_9]
    exact bs rm_base (bs le (ns i32_10 rfl))
  | succ d ih =>
    intro q hd hq
    obtain ⟨q, rfl⟩ : ∃ k, q = k + 1 := ⟨q - 1, by omega⟩
    have le := rm_least (fu := fu) ((h.rw hi).sub (a := s) (b := R + (d + 1)) (by omega)) (by omega) (by omega) hfu
    rw [Bool.eq_false_iff.mpr (fun z => hno (R + (d + 1)) (by omega) hd ((lyB_iff (by omega) (by omega) (fun k hk => hsm k (by omega))).mp z)), ← nI_add] at le
    have h2 := ih q (by omega) (by omega)
    rw [show R + d = R + (d + 1) - 1 by omega, ← nI_m1 (by omega)] at h2
    rw [fX6_factorOf_9]
    exact bs rm_base (bs le (ps rfl h2))
theorem rm_fsz (h : RM ce sz N T) (hi : i < 6) {s : Nat} (hs : s < N i) (hsm : small (T i) (N i)) (hfu : 1000 ≤ fu) : fX6_factorOf fu ce sz (nI i) (nI s) = some (nI (fsz (fun k => T i (s + k)) (N i - s))) := by
  have hNi := (h i hi).2.1
  obtain ⟨f1, f2, f3, f4⟩ := fsz_is (g := fun k => T i (s + k)) (show 1 ≤ N i - s by omega)
  have := ff_loop (fu := fu) h hi (s := s) f1 (fun k hk => hsm (s + k) (by omega)) f3 f4 hfu (N i - s - fsz (fun k => T i (s + k)) (N i - s)) fu (by omega) (by omega)
  rw [show fsz (fun k => T i (s + k)) (N i - s) + (N i - s - fsz (fun k => T i (s + k)) (N i - s)) = N i - s by omega, ← nI_sub (by omega)] at this
  exact bs (h.len hi) this
theorem inv_small (I : INV ts tc ce sz N) (hi : i < 6) : small (tc i) (N i) := fun k hk => by have := I.2.2 i hi k hk; omega
/-- how many factors the places from s on have; where the one of number k begins -/
def cF (f : Nat → Int32) (n : Nat) : Nat → Nat → Nat
  | 0, _ => 0
  | d + 1, s => if n ≤ s then 0 else cF f n d (s + fsz (fun k => f (s + k)) (n - s)) + 1
def bF (f : Nat → Int32) (n : Nat) : Nat → Nat → Nat → Nat
  | 0, s, _ => s
  | d + 1, s, k => if k = 0 then s else if n ≤ s then s else bF f n d (s + fsz (fun k => f (s + k)) (n - s)) (k - 1)
theorem bF_cF {n : Nat} : ∀ (d s k : Nat), n ≤ s + d → (k < cF f n d s ↔ bF f n d s k < n) := by
  intro d
  induction d with
  | zero => intro s k h; rw [cF, bF]; omega
  | succ d ih =>
    intro s k h
    rw [cF, bF]
    by_cases z : n ≤ s
    · rw [if_pos z, if_pos z]
      by_cases y : k = 0
      · rw [if_pos y]; omega
      · rw [if_neg y]; omega
    · obtain ⟨f1, f2, _⟩ := fsz_is (g := fun k => f (s + k)) (show 1 ≤ n - s by omega)
      rw [if_neg z, if_neg z]
      by_cases y : k = 0
      · rw [if_pos y]; omega
      · rw [if_neg y, ← ih _ (k - 1) (by omega)]; omega
theorem cF_le {n : Nat} : ∀ (d s : Nat), cF f n d s ≤ n - s := by
  intro d
  induction d with
  | zero => intro s; rw [cF]; omega
  | succ d ih =>
    intro s
    rw [cF]
    by_cases z : n ≤ s
    · rw [if_pos z]; omega
    · obtain ⟨f1, f2, _⟩ := fsz_is (g := fun k => f (s + k)) (show 1 ≤ n - s by omega)
      rw [if_neg z]
      have := ih (s + fsz (fun k => f (s + k)) (n - s))
      omega
theorem cf_C (h : TC ts tc N) (hi : i < 7) (hfu : 1000 ≤ fu) : ∀ (d s c q : Nat), N i ≤ s + d → d < q → s ≤ N i → c ≤ s → fX1_countIn_4 fu ts tc i q (nI c) (nI s) = some (nI (c + cF (tc i) (N i) d s)) := by
  intro d
  have hNi := (h i hi).2.1
  induction d with
  | zero =>
    intro s c q hd hq hs hc
    obtain ⟨q, rfl⟩ : ∃ k, q = k + 1 := ⟨q - 1, by omega⟩
    rw [fX1_countIn_4, cF]
    by_cases z : 60 ≤ nI c
    · exact ps z rfl
    · exact ns z (bs (tx_size h hi) (ps ((nI_leI (by omega) (by omega)).mpr (by omega)) rfl))
  | succ d ih =>
    intro s c q hd hq hs hc
    obtain ⟨q, rfl⟩ : ∃ k, q = k + 1 := ⟨q - 1, by omega⟩
    rw [fX1_countIn_4, cF]
    by_cases y : N i ≤ s
    · rw [if_pos y]
      by_cases z : 60 ≤ nI c
      · exact ps z rfl
      · exact ns z (bs (tx_size h hi) (ps ((nI_leI (by omega) (by omega)).mpr y) rfl))
    · obtain ⟨f1, f2, _⟩ := fsz_is (g := fun k => tc i (s + k)) (show 1 ≤ N i - s by omega)
      rw [if_neg y]
      have h2 := ih (s + fsz (fun k => tc i (s + k)) (N i - s)) (c + 1) q (by omega) (by omega) (by omega) (by omega)
      rw [← nI_1, ← nI_add, show ∀ x : Nat, c + 1 + x = c + (x + 1) from fun x => by omega] at h2
      have z : ¬ 60 ≤ nI c := fun z => by rw [i_60] at z; have := (nI_leI (by omega) (by omega)).mp z; omega
      exact ns z (bs (tx_size h hi) (ns (fun z => y ((nI_leI (by omega) (by omega)).mp z)) (bs (tx_fsz h hi (by omega) hfu) h2)))
theorem cf_M (h : RM ce sz N T) (hi : i < 6) (hsm : small (T i) (N i)) (hfu : 1000 ≤ fu) : ∀ (d s c q : Nat), N i ≤ s + d → d < q → s ≤ N i → fX6_factorsOf_4 fu ce sz (nI i) q (nI c) (nI s) = some (nI (c + cF (T i) (N i) d s)) := by
  intro d
  have hNi := (h i hi).2.1
  induction d with
  | zero =>
    intro s c q hd hq hs
    obtain ⟨q, rfl⟩ : ∃ k, q = k + 1 := ⟨q - 1, by omega⟩
    rw [fX6_factorsOf_4, cF]
    exact bs (h.len hi) (ps ((nI_leI (by omega) (by omega)).mpr (by omega)) rfl)
  | succ d ih =>
    intro s c q hd hq hs
    obtain ⟨q, rfl⟩ : ∃ k, q = k + 1 := ⟨q - 1, by omega⟩
    rw [fX6_factorsOf_4, cF]
    by_cases y : N i ≤ s
    · rw [if_pos y]
      exact bs (h.len hi) (ps ((nI_leI (by omega) (by omega)).mpr y) rfl)
    · obtain ⟨f1, f2, _⟩ := fsz_is (g := fun k => T i (s + k)) (show 1 ≤ N i - s by omega)
      rw [if_neg y]
      have h2 := ih (s + fsz (fun k => T i (s + k)) (N i - s)) (c + 1) q (by omega) (by omega) (by omega)
      rw [← nI_1, ← nI_add, show ∀ x : Nat, c + 1 + x = c + (x + 1) from fun x => by omega] at h2
      exact bs (h.len hi) (ns (fun z => y ((nI_leI (by omega) (by omega)).mp z)) (bs (rm_fsz h hi (by omega) hsm hfu) h2))
theorem tx_facs (h : TC ts tc N) (hi : i < 7) (hfu : 1000 ≤ fu) : fX1_countIn fu ts tc i = some (nI (cF (tc i) (N i) (N i) 0)) := by
  have := cf_C (fu := fu) h hi hfu (N i) 0 0 fu (by omega) (by have := (h i hi).2.1; omega) (by omega) (by omega)
  rw [Nat.zero_add] at this
  exact this
theorem rm_facs (h : RM ce sz N T) (hi : i < 6) (hsm : small (T i) (N i)) (hfu : 1000 ≤ fu) : fX6_factorsOf fu ce sz (nI i) = some (nI (cF (T i) (N i) (N i) 0)) := by
  have := cf_M (fu := fu) h hi hsm hfu (N i) 0 0 fu (by omega) (by have := (h i hi).2.1; omega) (by omega)
  rw [Nat.zero_add] at this
  exact this
theorem bf_C (h : TC ts tc N) (hi : i < 7) (hfu : 1000 ≤ fu) {X : Nat} (hX : X < 2 ^ 31) : ∀ (d s c q : Nat), N i ≤ s + d → d < q → s ≤ N i → c ≤ s → fX1_beginOf_4 fu ts tc i (nI X) q (nI s) (nI c) = some (nI (bF (tc i) (N i) d s (X - c))) := by
  intro d
  have hNi := (h i hi).2.1
  induction d with
  | zero =>
    intro s c q hd hq hs hc
    obtain ⟨q, rfl⟩ : ∃ k, q = k + 1 := ⟨q - 1, by omega⟩
    rw [fX1_beginOf_4, bF]
    by_cases z : nI X ≤ nI c
    · exact ps z rfl
    · exact ns z (bs (tx_size h hi) (ps ((nI_leI (by omega) (by omega)).mpr (by omega)) rfl))
  | succ d ih =>
    intro s c q hd hq hs hc
    obtain ⟨q, rfl⟩ : ∃ k, q = k + 1 := ⟨q - 1, by omega⟩
    have hle := nI_leI hX (show c < 2 ^ 31 by omega)
    rw [fX1_beginOf_4, bF]
    by_cases z : X ≤ c
    · rw [if_pos (show X - c = 0 by omega)]
      exact ps (hle.mpr z) rfl
    · rw [if_neg (show ¬ X - c = 0 by omega)]
      have z' := fun y => z (hle.mp y)
      by_cases y : N i ≤ s
      · rw [if_pos y]
        exact ns z' (bs (tx_size h hi) (ps ((nI_leI (by omega) (by omega)).mpr y) rfl))
      · obtain ⟨f1, f2, _⟩ := fsz_is (g := fun k => tc i (s + k)) (show 1 ≤ N i - s by omega)
        rw [if_neg y]
        have h2 := ih (s + fsz (fun k => tc i (s + k)) (N i - s)) (c + 1) q (by omega) (by omega) (by omega) (by omega)
        rw [← nI_1, ← nI_add, show X - (c + 1) = X - c - 1 by omega] at h2
        exact ns z' (bs (tx_size h hi) (ns (fun z => y ((nI_leI (by omega) (by omega)).mp z)) (bs (tx_fsz h hi (by omega) hfu) h2)))
theorem bf_M (h : RM ce sz N T) (hi : i < 6) (hsm : small (T i) (N i)) (hfu : 1000 ≤ fu) {X : Nat} (hX : X < 2 ^ 31) : ∀ (d s c q : Nat), N i ≤ s + d → d < q → s ≤ N i → c ≤ s → bF (T i) (N i) d s (X - c) < N i → fX6_factorAt_45 fu ce sz (nI i) (nI X) q (nI s) (nI c) th = some (nI (bF (T i) (N i) d s (X - c)), th) := by
  intro d
  have hNi := (h i hi).2.1
  induction d with
  | zero =>
    intro s c q hd hq hs hc hb
    rw [bF] at hb
    omega
  | succ d ih =>
    intro s c q hd hq hs hc hb
    obtain ⟨q, rfl⟩ : ∃ k, q = k + 1 := ⟨q - 1, by omega⟩
    have hle := nI_leI hX (show c < 2 ^ 31 by omega)
    rw [bF] at hb
    rw [fX6_factorAt_45, bF]
    by_cases z : X ≤ c
    · rw [if_pos (show X - c = 0 by omega)]
      exact ps (hle.mpr z) rfl
    · rw [if_neg (show ¬ X - c = 0 by omega)] at hb ⊢
      have z' := fun y => z (hle.mp y)
      by_cases y : N i ≤ s
      · rw [if_pos y] at hb; omega
      · obtain ⟨f1, f2, _⟩ := fsz_is (g := fun k => T i (s + k)) (show 1 ≤ N i - s by omega)
        rw [if_neg y] at hb ⊢
        have e : X - (c + 1) = X - c - 1 := by omega
        have h2 := ih (s + fsz (fun k => T i (s + k)) (N i - s)) (c + 1) q (by omega) (by omega) (by omega) (by omega) (by rw [e]; exact hb)
        rw [← nI_1, ← nI_add, e] at h2
        exact ns z' (bs (rm_fsz h hi (by omega) hsm hfu) h2)
theorem bF_le {n : Nat} : ∀ (d s k : Nat), s ≤ n → bF f n d s k ≤ n := by
  intro d
  induction d with
  | zero => intro s k h; exact h
  | succ d ih =>
    intro s k h
    rw [bF]
    split
    · exact h
    · split
      · exact h
      · next z =>
        obtain ⟨f1, f2, _⟩ := fsz_is (g := fun k => f (s + k)) (show 1 ≤ n - s by omega)
        exact ih _ _ (by omega)
end QI
theorem q_factors {fu : Nat} {ts : Nat → Int32} {tc : Nat → Nat → Int32} {ol : Nat → Int64} {ce : Nat → Int32} {sz : Nat → Int32} {th : Int32} {N : Nat → Nat} (I : INV ts tc ce sz N) (hfu : 2000 ≤ fu) (x1 : Int32) : ∃ (k : Int32) (g : Nat → Int64) (b : Int32) (t : Int32), fL_factors fu ts tc ol x1 = some (k, g) ∧ fX6_factors fu th ce sz x1 = some (b, t) ∧ t = k ∧ (k = 0 → g 0 = b.toInt64) ∧ ∃ N', INV ts tc ce sz N' := by
  rcases slots x1 with ⟨j1, h1, rfl⟩ | ⟨b1, b2⟩
  · exact ⟨0, _, _, 0, wo_factors (bs (sl_ok h1) (es (bs (tx_facs I.1 (lt7 h1) (by omega)) (rfl)))), bs (sl_no h1 _) (ps (rfl) (bs (rm_facs I.2.1 h1 (inv_small I h1) (by omega)) (rfl))), rfl, fun _ => upd_s, N, I⟩
  · exact ⟨1, ol, 0, 1, we_factors_1 (bs (b1) (er (rfl))), by simp [fX6_factors, fX6_isNoOf, fX6_isNoOfAll, fX6_isNoPlace, b2], rfl, fun h => absurd h (by decide), N, I⟩
theorem q_factorAt {fu : Nat} {ts : Nat → Int32} {tc : Nat → Nat → Int32} {ol : Nat → Int64} {ce : Nat → Int32} {sz : Nat → Int32} {th : Int32} {N : Nat → Nat} (I : INV ts tc ce sz N) (hfu : 2000 ≤ fu) (x1 x2 : Int32) : ∃ (k : Int32) (g : Nat → Int64) (b : Int32) (t : Int32), fL_factorAt fu ts tc ol x1 x2 = some (k, g) ∧ fX6_factorAt fu th ce sz x1 x2 = some (b, t) ∧ t = k ∧ (k = 0 → g 0 = b.toInt64) ∧ ∃ N', INV ts tc ce sz N' := by
  rcases slots x1 with ⟨j1, h1, rfl⟩ | ⟨b1, b2⟩
  · have hN1 := (I.1 j1 (by omega)).2.1
    have hcl := cF_le (f := tc j1) (n := N j1) (N j1) 0
    have hin := mo_isInS x2 (show cF (tc j1) (N j1) (N j1) 0 ≤ 60 by omega)
    by_cases hx : 0 ≤ x2
    · obtain ⟨X, hX, rfl⟩ := i32_nat hx
      rw [nI_toInt hX] at hin
      have c1 := bf_C (fu := fu) I.1 (lt7 h1) (by omega) hX (N j1) 0 0 fu (by omega) (by omega) (by omega) (by omega)
      have m1 := bf_M (fu := fu) (th := 0) I.2.1 h1 (inv_small I h1) (by omega) hX (N j1) 0 0 fu (by omega) (by omega) (by omega) (by omega)
      rw [Nat.sub_zero] at c1 m1
      have key := bF_cF (f := tc j1) (n := N j1) (N j1) 0 X (by omega)
      by_cases hr : bF (tc j1) (N j1) (N j1) 0 X < N j1
      · rw [decide_eq_true (by have := key.mpr hr; omega)] at hin
        exact ⟨0, _, _, 0, wo_factorAt (bs (sl_ok h1) (es (ps (hx) (bs (show fX1_beginOf fu ts tc j1 (nI X) = _ from c1) (show fX5_factorAt_22 fu ts tc j1 _ = _ from bs (tx_size I.1 (lt7 h1)) (ps ((nI_ltI (by omega) (by omega)).mpr hr) (rfl))))))), bs (sl_no h1 _) (ps (rfl) (bs (rm_facs I.2.1 h1 (inv_small I h1) (by omega)) (bs (hin) (ns (i32_10) (bs (mo_thrown0 _ _) (ps (rfl) (m1 hr))))))), rfl, fun _ => upd_s, N, I⟩
      · rw [decide_eq_false (fun z => hr (key.mp (by omega)))] at hin
        by_cases big : bF (tc j1) (N j1) (N j1) 0 X < 2 ^ 31
        · exact ⟨2, ol, 0, 2, we_factorAt_2 (bs (sl_ok h1) (es (ps (hx) (bs (show fX1_beginOf fu ts tc j1 (nI X) = _ from c1) (show fX5_factorAt_22 fu ts tc j1 _ = _ from bs (tx_size I.1 (lt7 h1)) (ns (fun z => hr ((nI_ltI big (by omega)).mp z)) (rfl))))))), bs (sl_no h1 _) (ps (rfl) (bs (rm_facs I.2.1 h1 (inv_small I h1) (by omega)) (bs (hin) (ps (rfl) (bs (mo_thrown1 _ _) (ns (i32_10) (rfl))))))), rfl, fun h => absurd h (by decide), N, I⟩
        · exact absurd (show bF (tc j1) (N j1) (N j1) 0 X < 2 ^ 31 from Nat.lt_of_le_of_lt (bF_le _ _ _ (by omega)) (by omega)) big
    · rw [decide_eq_false (fun z => hx (i32_0le.mpr z.1))] at hin
      exact ⟨2, ol, 0, 2, we_factorAt_2 (bs (sl_ok h1) (es (ns (hx) (bs (tx_size I.1 (lt7 h1)) (show fX5_factorAt_22 fu ts tc j1 _ = _ from bs (tx_size I.1 (lt7 h1)) (ns (i32_irr _) (rfl))))))), bs (sl_no h1 _) (ps (rfl) (bs (rm_facs I.2.1 h1 (inv_small I h1) (by omega)) (bs (hin) (ps (rfl) (bs (mo_thrown1 _ _) (ns (i32_10) (rfl))))))), rfl, fun h => absurd h (by decide), N, I⟩
  · exact ⟨1, ol, 0, 1, we_factorAt_1 (bs (b1) (er (rfl))), by simp [fX6_factorAt, fX6_isNoOf, fX6_isNoOfAll, fX6_isNoPlace, b2], rfl, fun h => absurd h (by decide), N, I⟩
