/-! unlikeParts and mirrors: the class's and the model's loops -/
section QO
variable {ts : Nat → Int32} {tc tc0 : Nat → Nat → Int32} {ce sz rk pl : Nat → Int32} {N : Nat → Nat} {T : Nat → Nat → Int32} {i j s fu r : Nat} {th : Int32} {f g F : Nat → Int32} {n : Nat}
theorem pb_C (hn : n ≤ 60) (hsm : small f n) (ha : ARR f n rk pl) (hr : r < n) : fX0_placeBy pl (nI r) = some (nI (eR f n r)) := by
  obtain ⟨h1, h2⟩ := eR_is hn hsm hr
  have h3 := (ha _ h1).2
  rw [h2] at h3
  rw [← h3]
  exact ns (nI_pos (by omega)) (ps (by rw [i_60]; exact (nI_ltI (by omega) (by omega)).mpr (by omega)) (bs (ldA_nI (by omega) (by decide)) rfl))
theorem sb_C (h : TC ts tc N) (hi : i < 7) (hsm : small (tc i) (N i)) (ha : ARR (tc i) (N i) rk pl) (hr : r < N i) (hfu : 1000 ≤ fu) : fX0_sharedBefore fu ts tc pl i (nI r) = some (nI (shR (tc i) (N i) r)) := by
  have hNi := (h i hi).2.1
  have p1 := pb_C hNi hsm ha hr
  unfold shR
  by_cases z : r = 0
  · rw [if_pos z]
    exact ns (fun y => by rw [i_1] at y; have := (nI_leI (by omega) (by omega)).mp y; omega) rfl
  · rw [if_neg z]
    have p2 := pb_C hNi hsm ha (r := r - 1) (by omega)
    rw [← nI_sub (by omega), ← i_1] at p2
    obtain ⟨h1, _⟩ := eR_is hNi hsm hr
    obtain ⟨h2, _⟩ := eR_is (r := r - 1) hNi hsm (by omega)
    exact ps (by rw [i_1]; exact (nI_leI (by omega) (by omega)).mpr (by omega)) (bs p1 (bs p2 (bs (tx_alike h hi hi (by omega) (by omega) (by omega)) rfl)))
theorem up_C (h : TC ts tc N) (hi : i < 7) (hsm : small (tc i) (N i)) (ha : ARR (tc i) (N i) rk pl) (hfu : 1000 ≤ fu) : ∀ (d r q : Nat), r + d = N i → d < q → fX5_unlikeParts_19 fu ts tc i q (nI (sN (inC (tc i) (N i) true) r)) (nI r) rk pl = some (.ok (nI (sN (inC (tc i) (N i) true) (N i))), rk, pl) := by
  intro d
  have hNi := (h i hi).2.1
  induction d with
  | zero =>
    intro r q hr hq
    obtain ⟨q, rfl⟩ : ∃ k, q = k + 1 := ⟨q - 1, by omega⟩
    obtain rfl : r = N i := by omega
    rw [fX5_unlikeParts_19]
    exact bs (tx_size h hi) (ps ((nI_leI (by omega) (by omega)).mpr (by omega)) rfl)
  | succ d ih =>
    intro r q hr hq
    obtain ⟨q, rfl⟩ : ∃ k, q = k + 1 := ⟨q - 1, by omega⟩
    have h2 := ih (r + 1) q (by omega) (by omega)
    obtain ⟨h1, _⟩ := eR_is (r := r) hNi hsm (by omega)
    have hs := shR_le (f := tc i) (n := N i) (r := r)
    rw [sN, inC_all, ← nI_1 r, ← nI_add, ← nI_sub (show shR (tc i) (N i) r ≤ N i - eR (tc i) (N i) r by omega), ← nI_sub (show eR (tc i) (N i) r ≤ N i by omega)] at h2
    rw [fX5_unlikeParts_19]
    exact bs (tx_size h hi) (ns (fun z => by have := (nI_leI (by omega) (by omega)).mp z; omega) (bs (tx_size h hi) (bs (pb_C hNi hsm ha (by omega)) (bs (sb_C h hi hsm ha (by omega) hfu) h2))))
theorem nI_n1_gen (x : Int32) : x + (-1) = x - 1 := (Int32.sub_eq_add_neg _ _).symm
theorem im_C (h : TC ts tc N) (hi : i < 7) {p L : Nat} (hpL : p + L ≤ N i) : ∀ (d a q : Nat), 2 * a + d = L → d + 1 < q → (∀ k, k < a → tc i (p + k) = tc i (p + (L - 1 - k))) → fX4_isMirror_7 fu ts tc i q (nI (p + a)) (nI (p + L - a) - 1) = some (bI (wB (tc i) false p L)) := by
  have hNi := (h i hi).2.1
  have yes : ∀ a, L ≤ 2 * a + 1 → (∀ k, k < a → tc i (p + k) = tc i (p + (L - 1 - k))) → wB (tc i) false p L = true := by
    intro a h1 h2
    unfold wB
    rw [Bool.false_or, alk_iff]
    intro k hk
    rw [Nat.zero_add]
    show tc i (p + k) = tc i (p + (L - 1 - k))
    by_cases c : k < a
    · exact h2 k c
    · by_cases e : L - 1 - k = k
      · rw [e]
      · have := h2 (L - 1 - k) (by omega)
        rw [show L - 1 - (L - 1 - k) = k by omega] at this
        exact this.symm
  intro d
  induction d using Nat.strongRecOn with
  | _ d ih =>
    intro a q hd hq hk
    obtain ⟨q, rfl⟩ : ∃ k, q = k + 1 := ⟨q - 1, by omega⟩
    have cmp : nI (p + L - a) - 1 ≤ nI (p + a) ↔ L ≤ 2 * a + 1 := by
      rw [i_1, Int32.le_iff_toInt_le, pk_sub_toInt (by omega) (by omega), nI_toInt (by omega)]
      omega
    rw [fX4_isMirror_7]
    by_cases c : L ≤ 2 * a + 1
    · rw [yes a c hk]
      exact ps (cmp.mpr c) rfl
    · have s1 := tx_sign h hi (show p + a < N i by omega)
      have s2 : fX4_signOn ts tc i (nI (p + L - a) - 1) = some (tc i (p + (L - 1 - a))) := by
        rw [i_1, nI_sub (by omega), show p + L - a - 1 = p + (L - 1 - a) by omega]
        exact tx_sign h hi (by omega)
      by_cases e : tc i (p + a) = tc i (p + (L - 1 - a))
      · have h2 := ih (d - 2) (by omega) (a + 1) q (by omega) (by omega) (fun k hk2 => by
          by_cases z : k = a
          · rw [z]; exact e
          · exact hk k (by omega))
        rw [← Nat.add_assoc, ← nI_1 (p + a), show p + L - (a + 1) = p + L - a - 1 by omega, ← nI_sub (by omega), ← i_1, ← nI_n1_gen] at h2
        exact ns (fun z => c (cmp.mp z)) (bs s1 (bs s2 (ps e h2)))
      · have no : wB (tc i) false p L = false := Bool.eq_false_iff.mpr (fun z => by
          unfold wB at z
          rw [Bool.false_or, alk_iff] at z
          have := z a (by omega)
          rw [Nat.zero_add] at this
          exact e this)
        rw [no]
        exact ns (fun z => c (cmp.mp z)) (bs s1 (bs s2 (ns e rfl)))
theorem tx_mir (h : TC ts tc N) (hi : i < 7) (hfu : 1000 ≤ fu) {p L : Nat} (hpL : p + L ≤ N i) : fX4_isMirror fu ts tc i (nI p) (nI (p + L)) = some (bI (wB (tc i) false p L)) := by
  have hNi := (h i hi).2.1
  exact im_C h hi hpL L 0 fu (by omega) (by omega) (fun k hk => by omega)
theorem mi_in (h : TC ts tc N) (hi : i < 7) (hfu : 1000 ≤ fu) {e : Nat} {y4 : Int32} {K : Int32 → Int32 → (Nat → Int32) → (Nat → Int32) → Option (Except String Int32 × (Nat → Int32) × (Nat → Int32))} : ∀ (d y c q : Nat), y + d = N i + 1 → d < q → e ≤ y → fX5_mirrors_60 fu ts tc i y4 (nI e) K q (nI c) (nI y) rk pl = K (nI (c + cntB (fun y => wB (tc i) false e (y - e)) d y)) (y4 + 1) rk pl := by
  intro d
  have hNi := (h i hi).2.1
  induction d with
  | zero =>
    intro y c q hy hq he
    obtain ⟨q, rfl⟩ : ∃ k, q = k + 1 := ⟨q - 1, by omega⟩
    rw [fX5_mirrors_60]
    exact bs (tx_size h hi) (ps ((nI_ltI (by omega) (by omega)).mpr (by omega)) rfl)
  | succ d ih =>
    intro y c q hy hq he
    obtain ⟨q, rfl⟩ : ∃ k, q = k + 1 := ⟨q - 1, by omega⟩
    have hle : ¬ nI (N i) < nI y := fun z => by have := (nI_ltI (by omega) (by omega)).mp z; omega
    have tm := tx_mir (fu := fu) (p := e) (L := y - e) h hi hfu (by omega)
    rw [show e + (y - e) = y by omega] at tm
    rw [fX5_mirrors_60, cntB]
    by_cases b : wB (tc i) false e (y - e) = true
    · have h2 := ih (y + 1) (c + 1) q (by omega) (by omega) (by omega)
      rw [← nI_1 y, ← nI_1 c] at h2
      rw [if_pos b, ← Nat.add_assoc]
      exact bs (tx_size h hi) (ns hle (bs tm (ns (bI_n0 b) h2)))
    · have h2 := ih (y + 1) c q (by omega) (by omega) (by omega)
      rw [← nI_1 y] at h2
      rw [if_neg b, Nat.zero_add]
      exact bs (tx_size h hi) (ns hle (bs tm (ps (bI_0.mpr (Bool.eq_false_iff.mpr b)) h2)))
theorem mi_C (h : TC ts tc N) (hi : i < 7) (hsm : small (tc i) (N i)) (ha : ARR (tc i) (N i) rk pl) (hfu : 1000 ≤ fu) : ∀ (d r q : Nat), r + d = N i → d < q → fX5_mirrors_19 fu ts tc i q (nI (sN (inC (tc i) (N i) false) r)) (nI r) rk pl = some (.ok (nI (sN (inC (tc i) (N i) false) (N i))), rk, pl) := by
  intro d
  have hNi := (h i hi).2.1
  induction d with
  | zero =>
    intro r q hr hq
    obtain ⟨q, rfl⟩ : ∃ k, q = k + 1 := ⟨q - 1, by omega⟩
    obtain rfl : r = N i := by omega
    rw [fX5_mirrors_19]
    exact bs (tx_size h hi) (ps ((nI_leI (by omega) (by omega)).mpr (by omega)) rfl)
  | succ d ih =>
    intro r q hr hq
    obtain ⟨q, rfl⟩ : ∃ k, q = k + 1 := ⟨q - 1, by omega⟩
    have h2 := ih (r + 1) q (by omega) (by omega)
    obtain ⟨h1, _⟩ := eR_is (r := r) hNi hsm (by omega)
    have hs := shR_le (f := tc i) (n := N i) (r := r)
    have mm := mi_in (fu := fu) (rk := rk) (pl := pl) (e := eR (tc i) (N i) r) (y4 := nI r) (K := fX5_mirrors_19 fu ts tc i q) h hi hfu (N i - eR (tc i) (N i) r - shR (tc i) (N i) r) (eR (tc i) (N i) r + shR (tc i) (N i) r + 1) (sN (inC (tc i) (N i) false) r) fu (by omega) (by omega) (by omega)
    rw [← inC_mir h1, ← nI_1 (eR (tc i) (N i) r + shR (tc i) (N i) r), ← nI_add (eR (tc i) (N i) r)] at mm
    rw [sN, ← nI_1 r] at h2
    rw [fX5_mirrors_19]
    exact bs (tx_size h hi) (ns (fun z => by have := (nI_leI (by omega) (by omega)).mp z; omega) (bs (pb_C hNi hsm ha (by omega)) (bs (sb_C h hi hsm ha (by omega) hfu) (mm.trans h2))))
theorem na_loop (h : RM ce sz N T) (hi : i < 6) {p L : Nat} (hpL : p + L ≤ N i) (hfu : 1000 ≤ fu) : ∀ (d y q : Nat) (b : Bool), y + d = p → d + 1 < q → fX6_isNewAt_6 fu ce sz (nI i) (nI p) (nI L) q (bI b) (nI y) = some (bI (b && newB (T i) (N i) p L d y)) := by
  intro d
  have hNi := (h i hi).2.1
  induction d with
  | zero =>
    intro y q b hy hq
    obtain ⟨q, rfl⟩ : ∃ k, q = k + 1 := ⟨q - 1, by omega⟩
    rw [fX6_isNewAt_6, newB, Bool.and_true]
    exact ps ((nI_leI (by omega) (by omega)).mpr (by omega)) (bs ckZ_b rfl)
  | succ d ih =>
    intro y q b hy hq
    obtain ⟨q, rfl⟩ : ∃ k, q = k + 1 := ⟨q - 1, by omega⟩
    have hle : ¬ nI p ≤ nI y := fun z => by have := (nI_leI (by omega) (by omega)).mp z; omega
    rw [fX6_isNewAt_6]
    cases b with
    | false =>
      rw [Bool.false_and]
      exact ns hle (ps rfl (bs ckZ_0 rfl))
    | true =>
      have st := rm_stands (fu := fu) (p := y) (h.rw hi) ((h.rw hi).sub (a := p) (b := L) hpL) (by omega) hfu
      rw [← nI_add] at st
      rw [newB, Bool.true_and]
      cases c : stands (T i) (N i) (fun k => T i (p + k)) L y with
      | true =>
        rw [c] at st
        have h2 := ih (y + 1) q false (by omega) (by omega)
        rw [← nI_1] at h2
        exact ns hle (ns i32_10 (bs rm_base (bs (h.len hi) (bs rm_base (bs st (ns i32_10 h2))))))
      | false =>
        rw [c] at st
        have h2 := ih (y + 1) q true (by omega) (by omega)
        rw [← nI_1] at h2
        exact ns hle (ns i32_10 (bs rm_base (bs (h.len hi) (bs rm_base (bs st (ps rfl h2))))))
theorem rm_new (h : RM ce sz N T) (hi : i < 6) {p L : Nat} (hpL : p + L ≤ N i) (hfu : 1000 ≤ fu) : fX6_isNewAt fu ce sz (nI i) (nI p) (nI L) = some (bI (newB (T i) (N i) p L p 0)) := na_loop h hi hpL hfu p 0 fu true (by omega) (by have := (h i hi).2.1; omega)
theorem mr_loop {L : Nat} (hw : RW ce r L g) (hL : L ≤ 60) : ∀ (d k q : Nat) (b : Bool), k + d = L → d + 1 < q → fX6_isMirror_5 fu ce (nI r) (nI L) q (bI b) (nI k) = some (bI (b && alk g k (backF g L) k d)) := by
  intro d
  have h9 := hw.1
  induction d with
  | zero =>
    intro k q b hk hq
    obtain ⟨q, rfl⟩ : ∃ k, q = k + 1 := ⟨q - 1, by omega⟩
    rw [fX6_isMirror_5, alk, Bool.and_true]
    exact ps ((nI_leI (by omega) (by omega)).mpr (by omega)) (bs ckZ_b rfl)
  | succ d ih =>
    intro k q b hk hq
    obtain ⟨q, rfl⟩ : ∃ k, q = k + 1 := ⟨q - 1, by omega⟩
    have hle : ¬ nI L ≤ nI k := fun z => by have := (nI_leI (by omega) (by omega)).mp z; omega
    rw [fX6_isMirror_5]
    cases b with
    | false =>
      rw [Bool.false_and]
      exact ns hle (ps rfl (bs ckZ_0 rfl))
    | true =>
      have l1 := hw.ld (show k < L by omega)
      rw [← nI_add] at l1
      have l2 : ldA ce 900 (nI r + nI L - 1 - nI k) = some (backF g L k) := by
        rw [nI_add, i_1, nI_sub (by omega), nI_sub (by omega), show r + L - 1 - k = r + (L - 1 - k) by omega]
        exact hw.ld (by omega)
      rw [alk, Bool.true_and]
      by_cases e : g k = backF g L k
      · have h2 := ih (k + 1) q true (by omega) (by omega)
        rw [← nI_1, Bool.true_and] at h2
        rw [decide_eq_true e, Bool.true_and]
        exact ns hle (ns i32_10 (bs l1 (bs l2 (ps e h2))))
      · have h2 := ih (k + 1) q false (by omega) (by omega)
        rw [← nI_1, Bool.false_and] at h2
        rw [decide_eq_false e, Bool.false_and]
        exact ns hle (ns i32_10 (bs l1 (bs l2 (ns e h2))))
theorem ul_58 (h : RM ce sz N T) (hi : i < 6) {p L c : Nat} {y2 : Int32} (hpL : p + L ≤ N i) (hfu : 1000 ≤ fu) {K : Int32 → Int32 → Option Int32} (w : Bool) : fX6_unlike_58 fu ce sz (nI i) y2 (nI c) (nI p) (nI L) K (bI w) = K (nI (c + if (w && newB (T i) (N i) p L p 0) = true then 1 else 0)) (nI L + 1) := by
  have nw := rm_new (fu := fu) h hi hpL hfu
  unfold fX6_unlike_58
  cases w with
  | false =>
    rw [Bool.false_and, if_neg (show ¬ false = true by decide), Int32.add_zero, Nat.add_zero]
    exact ps rfl rfl
  | true =>
    rw [Bool.true_and]
    cases e : newB (T i) (N i) p L p 0 with
    | false =>
      rw [e] at nw
      rw [if_neg (show ¬ false = true by decide), Nat.add_zero, Int32.add_zero]
      exact ns i32_10 (bs nw (ps rfl rfl))
    | true =>
      rw [e] at nw
      rw [if_pos rfl, ← nI_1]
      exact ns i32_10 (bs nw (ns i32_10 rfl))
theorem ul_in (h : RM ce sz N T) (hi : i < 6) {p : Nat} (hp : p < N i) (hfu : 1000 ≤ fu) {md : Bool} {K : Int32 → Int32 → Option Int32} : ∀ (d L c q : Nat), p + L + d = N i + 1 → d < q → 1 ≤ L → fX6_unlike_19 fu ce sz (nI i) (bI (!md)) (nI p) K q (nI c) (nI L) = K (nI (c + cntB (fun L => wB (T i) md p L && newB (T i) (N i) p L p 0) d L)) (nI p + 1) := by
  intro d
  have hNi := (h i hi).2.1
  induction d with
  | zero =>
    intro L c q hd hq hL
    obtain ⟨q, rfl⟩ : ∃ k, q = k + 1 := ⟨q - 1, by omega⟩
    rw [fX6_unlike_19]
    exact bs (h.len hi) (ps (by rw [nI_add]; exact (nI_ltI (by omega) (by omega)).mpr (by omega)) rfl)
  | succ d ih =>
    intro L c q hd hq hL
    obtain ⟨q, rfl⟩ : ∃ k, q = k + 1 := ⟨q - 1, by omega⟩
    have hle : ¬ nI (N i) < nI p + nI L := fun z => by rw [nI_add] at z; have := (nI_ltI (by omega) (by omega)).mp z; omega
    rw [fX6_unlike_19, cntB, ← Nat.add_assoc]
    have h2 := ih (L + 1) (c + if (wB (T i) md p L && newB (T i) (N i) p L p 0) = true then 1 else 0) q (by omega) (by omega) (by omega)
    rw [← nI_1 L] at h2
    have st := fun y2 => ul_58 (fu := fu) (c := c) (y2 := y2) (K := fX6_unlike_19 fu ce sz (nI i) (bI (!md)) (nI p) K q) h hi (show p + L ≤ N i by omega) hfu (wB (T i) md p L)
    cases md with
    | true =>
      exact bs (h.len hi) (ns hle (ps rfl ((st _).trans h2)))
    | false =>
      have mr := mr_loop (fu := fu) ((h.rw hi).sub (a := p) (b := L) (by omega)) (by omega) L 0 fu true (by omega) (by omega)
      rw [Bool.true_and, ← nI_add] at mr
      have mr' : fX6_isMirror fu ce (nI (60 * i) + nI p) (nI L) = some (bI (wB (T i) false p L)) := mr
      cases e : wB (T i) false p L with
      | false =>
        rw [e] at mr' st h2
        exact bs (h.len hi) (ns hle (ns i32_10 (bs rm_base (bs mr' (ps rfl ((st _).trans h2))))))
      | true =>
        rw [e] at mr' st h2
        exact bs (h.len hi) (ns hle (ns i32_10 (bs rm_base (bs mr' (ns i32_10 ((st _).trans h2))))))
theorem ul_out (h : RM ce sz N T) (hi : i < 6) (hfu : 1000 ≤ fu) {md : Bool} : ∀ (d p q : Nat), p + d = N i → d < q → fX6_unlike_5 fu ce sz (nI i) (bI (!md)) q (nI (sN (fun p => cntB (fun L => wB (T i) md p L && newB (T i) (N i) p L p 0) (N i - p) 1) p)) (nI p) = some (nI (cntM (T i) (N i) md)) := by
  intro d
  have hNi := (h i hi).2.1
  induction d with
  | zero =>
    intro p q hp hq
    obtain ⟨q, rfl⟩ : ∃ k, q = k + 1 := ⟨q - 1, by omega⟩
    obtain rfl : p = N i := by omega
    rw [fX6_unlike_5]
    exact bs (h.len hi) (ps ((nI_leI (by omega) (by omega)).mpr (by omega)) rfl)
  | succ d ih =>
    intro p q hp hq
    obtain ⟨q, rfl⟩ : ∃ k, q = k + 1 := ⟨q - 1, by omega⟩
    have h2 := ih (p + 1) q (by omega) (by omega)
    have h1 := ul_in (fu := fu) (md := md) (K := fX6_unlike_5 fu ce sz (nI i) (bI (!md)) q) h hi (show p < N i by omega) hfu (N i - p) 1 (sN (fun p => cntB (fun L => wB (T i) md p L && newB (T i) (N i) p L p 0) (N i - p) 1) p) fu (by omega) (by omega) (Nat.le_refl _)
    rw [sN, ← nI_1 p] at h2
    rw [fX6_unlike_5]
    exact bs (h.len hi) (ns (fun z => by have := (nI_leI (by omega) (by omega)).mp z; omega) (h1.trans h2))
theorem rm_unlike (h : RM ce sz N T) (hi : i < 6) (hfu : 1000 ≤ fu) (md : Bool) : fX6_unlike fu ce sz (nI i) (bI (!md)) = some (nI (cntM (T i) (N i) md)) := ul_out h hi hfu (N i) 0 fu (by omega) (by have := (h i hi).2.1; omega)
end QO
theorem q_unlikeParts {fu : Nat} {ts : Nat → Int32} {tc : Nat → Nat → Int32} {rk : Nat → Int32} {pl : Nat → Int32} {ol : Nat → Int64} {ce : Nat → Int32} {sz : Nat → Int32} {th : Int32} {N : Nat → Nat} (I : INV ts tc ce sz N) (hfu : 2000 ≤ fu) (x1 : Int32) : ∃ (k : Int32) (rk' : Nat → Int32) (pl' : Nat → Int32) (g : Nat → Int64) (b : Int32) (t : Int32), fL_unlikeParts fu ts tc rk pl ol x1 = some (k, rk', pl', g) ∧ fX6_unlikeParts fu th ce sz x1 = some (b, t) ∧ t = k ∧ (k = 0 → g 0 = b.toInt64) ∧ ∃ N', INV ts tc ce sz N' := by
  rcases slots x1 with ⟨j1, h1, rfl⟩ | ⟨b1, b2⟩
  · have hN1 := (I.1 j1 (by omega)).2.1
    have hsm := inv_small I h1
    obtain ⟨rk', pl', a1, a2⟩ := tx_arr (fu := fu) (rk := rk) (pl := pl) I.1 (lt7 h1) hsm (by omega)
    have c1 := up_C (fu := fu) I.1 (lt7 h1) hsm a2 (by omega) (N j1) 0 fu (by omega) (by omega)
    have m1 := rm_unlike (fu := fu) I.2.1 h1 (by omega) true
    rw [cnt_same hN1 hsm] at m1
    exact ⟨0, rk', pl', _, _, 0, wo_unlikeParts (bs (sl_ok h1) (es (bs (a1) (c1)))), bs (sl_no h1 _) (ps (rfl) (bs (m1) (rfl))), rfl, fun _ => upd_s, N, I⟩
  · exact ⟨1, rk, pl, ol, 0, 1, we_unlikeParts_1 (bs (b1) (er (rfl))), by simp [fX6_unlikeParts, fX6_isNoOf, fX6_isNoOfAll, fX6_isNoPlace, b2], rfl, fun h => absurd h (by decide), N, I⟩
theorem q_mirrors {fu : Nat} {ts : Nat → Int32} {tc : Nat → Nat → Int32} {rk : Nat → Int32} {pl : Nat → Int32} {ol : Nat → Int64} {ce : Nat → Int32} {sz : Nat → Int32} {th : Int32} {N : Nat → Nat} (I : INV ts tc ce sz N) (hfu : 2000 ≤ fu) (x1 : Int32) : ∃ (k : Int32) (rk' : Nat → Int32) (pl' : Nat → Int32) (g : Nat → Int64) (b : Int32) (t : Int32), fL_mirrors fu ts tc rk pl ol x1 = some (k, rk', pl', g) ∧ fX6_mirrors fu th ce sz x1 = some (b, t) ∧ t = k ∧ (k = 0 → g 0 = b.toInt64) ∧ ∃ N', INV ts tc ce sz N' := by
  rcases slots x1 with ⟨j1, h1, rfl⟩ | ⟨b1, b2⟩
  · have hN1 := (I.1 j1 (by omega)).2.1
    have hsm := inv_small I h1
    obtain ⟨rk', pl', a1, a2⟩ := tx_arr (fu := fu) (rk := rk) (pl := pl) I.1 (lt7 h1) hsm (by omega)
    have c1 := mi_C (fu := fu) I.1 (lt7 h1) hsm a2 (by omega) (N j1) 0 fu (by omega) (by omega)
    have m1 := rm_unlike (fu := fu) I.2.1 h1 (by omega) false
    rw [cnt_same hN1 hsm] at m1
    exact ⟨0, rk', pl', _, _, 0, wo_mirrors (bs (sl_ok h1) (es (bs (a1) (c1)))), bs (sl_no h1 _) (ps (rfl) (bs (m1) (rfl))), rfl, fun _ => upd_s, N, I⟩
  · exact ⟨1, rk, pl, ol, 0, 1, we_mirrors_1 (bs (b1) (er (rfl))), by simp [fX6_mirrors, fX6_isNoOf, fX6_isNoOfAll, fX6_isNoPlace, b2], rfl, fun h => absurd h (by decide), N, I⟩
