/-! THE COMPARISONS of ends in their order: endAt, rankOf -/
section QM
variable {ts : Nat → Int32} {tc tc0 : Nat → Nat → Int32} {ce sz rk pl : Nat → Int32} {N : Nat → Nat} {T : Nat → Nat → Int32} {i j s fu r : Nat} {th : Int32} {f g F : Nat → Int32} {n : Nat}
/-- the end at a is less than the end at b -/
def ls (f : Nat → Int32) (n a b : Nat) : Prop := ∃ k, a + k ≤ n ∧ b + k < n ∧ (∀ j, j < k → f (a + j) = f (b + j)) ∧ (a + k = n ∨ (a + k < n ∧ (f (a + k)).toInt < (f (b + k)).toInt))
def lsB (f : Nat → Int32) (n a b : Nat) : Bool := decide (¬ 0 ≤ ordI (fun k => f (a + k)) (n - a) (fun k => f (b + k)) (n - b))
theorem lsB_iff {a b : Nat} (hn : n ≤ 60) (hsm : small f n) (ha : a ≤ n) (hb : b ≤ n) : lsB f n a b = true ↔ ls f n a b := by
  unfold lsB
  rw [decide_eq_true_iff, ord_neg (by omega) (by omega) (fun k hk => hsm (a + k) (by omega)) (fun k hk => hsm (b + k) (by omega))]
  constructor
  · rintro ⟨k, k1, k2, k3, k4⟩
    refine ⟨k, by omega, by omega, k3, ?_⟩
    rcases k4 with k4 | ⟨k4, k5⟩
    · exact Or.inl (by omega)
    · exact Or.inr ⟨by omega, k5⟩
  · rintro ⟨k, k1, k2, k3, k4⟩
    refine ⟨k, by omega, by omega, k3, ?_⟩
    rcases k4 with k4 | ⟨k4, k5⟩
    · exact Or.inl (by omega)
    · exact Or.inr ⟨by omega, k5⟩
theorem ls_irr {a : Nat} : ¬ ls f n a a := by
  rintro ⟨k, k1, k2, k3, k4⟩
  rcases k4 with k4 | ⟨k4, k5⟩ <;> omega
theorem ls_trans {a b c : Nat} (h1 : ls f n a b) (h2 : ls f n b c) : ls f n a c := by
  obtain ⟨k, k1, k2, k3, k4⟩ := h1
  obtain ⟨l, l1, l2, l3, l4⟩ := h2
  rcases Nat.lt_trichotomy k l with z | z | z
  · refine ⟨k, k1, by omega, fun j hj => (k3 j hj).trans (l3 j (by omega)), ?_⟩
    rcases k4 with k4 | ⟨k4, k5⟩
    · exact Or.inl k4
    · exact Or.inr ⟨k4, by rw [← l3 k z]; exact k5⟩
  · subst z
    refine ⟨k, k1, by omega, fun j hj => (k3 j hj).trans (l3 j hj), ?_⟩
    rcases k4 with k4 | ⟨k4, k5⟩
    · exact Or.inl k4
    · rcases l4 with l4 | ⟨l4, l5⟩
      · omega
      · exact Or.inr ⟨k4, by omega⟩
  · refine ⟨l, by omega, by omega, fun j hj => (k3 j (by omega)).trans (l3 j hj), ?_⟩
    rcases l4 with l4 | ⟨l4, l5⟩
    · omega
    · exact Or.inr ⟨by omega, by rw [k3 l z]; exact l5⟩
theorem ls_total {a b : Nat} (ha : a ≤ n) (hb : b ≤ n) (hne : a ≠ b) : ls f n a b ∨ ls f n b a := by
  have hl := lcp_le (f := f) (g := f) (a := a) (b := b) (m := min (n - a) (n - b))
  have he : ∀ k, k < lcp f a f b (min (n - a) (n - b)) → f (a + k) = f (b + k) := fun k hk => lcp_eq hk
  have hn := lcp_ne (f := f) (g := f) (a := a) (b := b) (m := min (n - a) (n - b))
  generalize lcp f a f b (min (n - a) (n - b)) = l at *
  by_cases c : l < min (n - a) (n - b)
  · have ne := hn c
    have ne2 : (f (a + l)).toInt ≠ (f (b + l)).toInt := fun z => ne (Int32.toInt_inj.mp z)
    by_cases z : (f (a + l)).toInt < (f (b + l)).toInt
    · exact Or.inl ⟨l, by omega, by omega, he, Or.inr ⟨by omega, z⟩⟩
    · exact Or.inr ⟨l, by omega, by omega, fun j hj => (he j hj).symm, Or.inr ⟨by omega, by omega⟩⟩
  · by_cases z : b < a
    · exact Or.inl ⟨n - a, by omega, by omega, fun j hj => he j (by omega), Or.inl (by omega)⟩
    · exact Or.inr ⟨n - b, by omega, by omega, fun j hj => (he j (by omega)).symm, Or.inl (by omega)⟩
theorem ls_cons {a b : Nat} (ha : a < n) (hb : b < n) (e : f a = f b) : ls f n a b ↔ ls f n (a + 1) (b + 1) := by
  constructor
  · rintro ⟨k, k1, k2, k3, k4⟩
    cases k with
    | zero =>
      rcases k4 with k4 | ⟨k4, k5⟩
      · omega
      · rw [Nat.add_zero, Nat.add_zero, e] at k5; omega
    | succ k =>
      refine ⟨k, by omega, by omega, fun j hj => ?_, ?_⟩
      · have := k3 (j + 1) (by omega)
        rw [show a + 1 + j = a + (j + 1) by omega, show b + 1 + j = b + (j + 1) by omega]
        exact this
      · rw [show a + 1 + k = a + (k + 1) by omega, show b + 1 + k = b + (k + 1) by omega]
        exact k4
  · rintro ⟨k, k1, k2, k3, k4⟩
    refine ⟨k + 1, by omega, by omega, fun j hj => ?_, ?_⟩
    · cases j with
      | zero => exact e
      | succ j =>
        have := k3 j (by omega)
        rw [show a + 1 + j = a + (j + 1) by omega, show b + 1 + j = b + (j + 1) by omega] at this
        exact this
    · rw [show a + 1 + k = a + (k + 1) by omega, show b + 1 + k = b + (k + 1) by omega] at k4
      exact k4
theorem ls_first {a b : Nat} (ha : a < n) (hb : b < n) (e : f a ≠ f b) : ls f n a b ↔ (f a).toInt < (f b).toInt := by
  constructor
  · rintro ⟨k, k1, k2, k3, k4⟩
    cases k with
    | zero =>
      rcases k4 with k4 | ⟨k4, k5⟩
      · omega
      · exact k5
    | succ k => exact absurd (k3 0 (by omega)) e
  · intro h
    exact ⟨0, by omega, by omega, fun j hj => by omega, Or.inr ⟨ha, h⟩⟩
theorem cnt_le {P Q : Nat → Bool} : ∀ (d p : Nat), (∀ k, p ≤ k → k < p + d → P k = true → Q k = true) → cntB P d p ≤ cntB Q d p := by
  intro d
  induction d with
  | zero => intro p _; exact Nat.le_refl 0
  | succ d ih =>
    intro p h
    rw [cntB, cntB]
    have := ih (p + 1) (fun k h1 h2 h3 => h k (by omega) (by omega) h3)
    by_cases b : P p = true
    · rw [if_pos b, if_pos (h p (Nat.le_refl _) (by omega) b)]; omega
    · rw [if_neg b]; omega
theorem cnt_lt {P Q : Nat → Bool} {a : Nat} : ∀ (d p : Nat), (∀ k, p ≤ k → k < p + d → P k = true → Q k = true) → p ≤ a → a < p + d → P a = false → Q a = true → cntB P d p < cntB Q d p := by
  intro d
  induction d with
  | zero => intro p _ h1 h2; omega
  | succ d ih =>
    intro p h h1 h2 h3 h4
    rw [cntB, cntB]
    by_cases e : a = p
    · subst e
      have := cnt_le d (a + 1) (fun k h1 h2 h3 => h k (by omega) (by omega) h3)
      rw [if_neg (by rw [h3]; decide), if_pos h4]; omega
    · have := ih (p + 1) (fun k h1 h2 h3 => h k (by omega) (by omega) h3) (by omega) (by omega) h3 h4
      by_cases b : P p = true
      · rw [if_pos b, if_pos (h p (Nat.le_refl _) (by omega) b)]; omega
      · rw [if_neg b]; omega
/-- how many of the ends from lo on are less than the end at q -/
def cr (f : Nat → Int32) (n lo q : Nat) : Nat := cntB (fun a => lsB f n a q) (n - lo) lo
theorem cr_step {lo q : Nat} (h : lo < n) : cr f n lo q = (if lsB f n lo q = true then 1 else 0) + cr f n (lo + 1) q := by
  unfold cr
  rw [show n - lo = (n - (lo + 1)) + 1 by omega, cntB]
theorem cr_lt {lo a b : Nat} (hn : n ≤ 60) (hsm : small f n) (hla : lo ≤ a) (ha : a < n) (hb : b ≤ n) (h : ls f n a b) : cr f n lo a < cr f n lo b := by
  unfold cr
  refine cnt_lt (a := a) (n - lo) lo (fun k h1 h2 h3 => ?_) hla (by omega) ?_ ?_
  · exact (lsB_iff hn hsm (by omega) hb).mpr (ls_trans ((lsB_iff hn hsm (by omega) (by omega)).mp h3) h)
  · exact Bool.eq_false_iff.mpr (fun z => ls_irr ((lsB_iff hn hsm (by omega) (by omega)).mp z))
  · exact (lsB_iff hn hsm (by omega) hb).mpr h
theorem cr_iff {lo a b : Nat} (hn : n ≤ 60) (hsm : small f n) (hla : lo ≤ a) (ha : a < n) (hlb : lo ≤ b) (hb : b < n) : cr f n lo a < cr f n lo b ↔ ls f n a b := by
  constructor
  · intro h
    by_cases e : a = b
    · subst e; omega
    · rcases ls_total (f := f) (n := n) (by omega) (by omega) e with z | z
      · exact z
      · have := cr_lt hn hsm hlb hb (by omega) z
        omega
  · exact cr_lt hn hsm hla ha (by omega)
theorem cr_bd {lo q : Nat} (hn : n ≤ 60) (hsm : small f n) (hl : lo ≤ q) (hq : q < n) : cr f n lo q < n - lo := by
  unfold cr
  have h1 := cnt_lt (P := fun a => lsB f n a q) (Q := fun _ => true) (a := q) (n - lo) lo (fun k h1 h2 h3 => rfl) hl (by omega) (Bool.eq_false_iff.mpr (fun z => ls_irr ((lsB_iff hn hsm (by omega) (by omega)).mp z))) rfl
  have h2 := cntB_le (P := fun _ => true) (d := n - lo) (p := lo)
  omega
/-- the ranks of the ends from lo on, among themselves -/
def RKS (f : Nat → Int32) (n lo : Nat) (rk : Nat → Int32) : Prop := (∀ q, lo ≤ q → q < n → rk q = nI (cr f n lo q)) ∧ rk n = -1
theorem rb_C {k : Nat} (hk : k < 61) : fX0_rankBy rk (nI k) = some (rk k) := ns (nI_pos (by omega)) (ps (by rw [i_61]; exact (nI_ltI (by omega) (by omega)).mpr hk) (bs (ldA_nI hk (by decide)) rfl))
theorem kp_C {k : Nat} {v : Int32} (hk : k < 61) : fX0_keepRank rk (nI k) v = some (updL rk k v) := ns (nI_pos (by omega)) (ns (fun z => by rw [i_61] at z; have := (nI_leI (by omega) (by omega)).mp z; omega) (bs (stA_nI hk (by decide)) rfl))
theorem il_C (h : TC ts tc N) (hi : i < 7) (hsm : small (tc i) (N i)) {p a : Nat} (hr : RKS (tc i) (N i) (p + 1) rk) (hpa : p < a) (ha : a < N i) : fX0_isLess ts tc rk i (nI a) (nI p) = some (bI (lsB (tc i) (N i) a p)) := by
  have hNi := (h i hi).2.1
  have s1 := tx_sign h hi ha
  have s2 := tx_sign h hi (show p < N i by omega)
  have key := lsB_iff (f := tc i) hNi hsm (show a ≤ N i by omega) (show p ≤ N i by omega)
  have l1 : fX0_rankBy rk (nI a + 1) = some (rk (a + 1)) := by rw [nI_1]; exact rb_C (by omega)
  have l2 : fX0_rankBy rk (nI p + 1) = some (rk (p + 1)) := by rw [nI_1]; exact rb_C (by omega)
  unfold fX0_isLess
  have hp1 := hr.1 (p + 1) (Nat.le_refl _) (by omega)
  by_cases e : tc i a = tc i p
  · rw [ls_cons ha (by omega) e] at key
    have cmp : rk (p + 1) ≤ rk (a + 1) ↔ ¬ ls (tc i) (N i) (a + 1) (p + 1) := by
      have b1 := cr_bd (lo := p + 1) (q := p + 1) hNi hsm (Nat.le_refl _) (by omega)
      by_cases z : a + 1 < N i
      · have b2 := cr_bd (lo := p + 1) (q := a + 1) hNi hsm (by omega) z
        rw [hp1, hr.1 (a + 1) (by omega) z, nI_leI (by omega) (by omega), ← cr_iff hNi hsm (show p + 1 ≤ a + 1 by omega) z (Nat.le_refl _) (by omega)]
        omega
      · have ea : a + 1 = N i := by omega
        rw [ea, hr.2, hp1, Int32.le_iff_toInt_le, nI_toInt (by omega), show (-1 : Int32).toInt = -1 from rfl]
        constructor
        · intro y; omega
        · intro y; exact absurd ⟨0, by omega, by omega, fun j hj => by omega, Or.inl (by omega)⟩ y
    by_cases z : lsB (tc i) (N i) a p = true
    · rw [z]
      exact bs s1 (bs s2 (ps e (bs l1 (bs l2 (ns (fun y => cmp.mp y (key.mp z)) rfl)))))
    · rw [Bool.eq_false_iff.mpr z]
      exact bs s1 (bs s2 (ps e (bs l1 (bs l2 (ps (cmp.mpr (fun y => z (key.mpr y))) rfl)))))
  · rw [ls_first ha (by omega) e] at key
    have ne : (tc i a).toInt ≠ (tc i p).toInt := fun z => e (Int32.toInt_inj.mp z)
    have cmp : tc i p ≤ tc i a ↔ ¬ (tc i a).toInt < (tc i p).toInt := by rw [Int32.le_iff_toInt_le]; omega
    by_cases z : lsB (tc i) (N i) a p = true
    · rw [z]
      exact bs s1 (bs s2 (ns e (ns (fun y => cmp.mp y (key.mp z)) rfl)))
    · rw [Bool.eq_false_iff.mpr z]
      exact bs s1 (bs s2 (ns e (ps (cmp.mpr (fun y => z (key.mpr y))) rfl)))
theorem in_41 (h : TC ts tc N) (hi : i < 7) {p y : Nat} (hp : p < N i) (hy : y ≤ 60) : ∀ (d a q : Nat) (rk : Nat → Int32), a + d = N i → d < q → p < a → ∃ rk', fX0_insert_41 fu ts tc i (nI p) (nI y) q (nI a) rk = some rk' ∧ rk' p = nI y ∧ (∀ k, a ≤ k → k < N i → rk' k = if rk k < nI y then rk k else rk k + 1) ∧ ∀ k, k ≠ p → (k < a ∨ N i ≤ k) → rk' k = rk k := by
  intro d
  have hNi := (h i hi).2.1
  induction d with
  | zero =>
    intro a q rk ha hq hpa
    obtain ⟨q, rfl⟩ : ∃ k, q = k + 1 := ⟨q - 1, by omega⟩
    refine ⟨updL rk p (nI y), ?_, upd_s, fun k h1 h2 => by omega, fun k h1 h2 => upd_n h1⟩
    rw [fX0_insert_41]
    exact bs (tx_size h hi) (ps ((nI_leI (by omega) (by omega)).mpr (by omega)) (bs (kp_C (by omega)) rfl))
  | succ d ih =>
    intro a q rk ha hq hpa
    obtain ⟨q, rfl⟩ : ∃ k, q = k + 1 := ⟨q - 1, by omega⟩
    have hle : ¬ nI (N i) ≤ nI a := fun z => by have := (nI_leI (by omega) (by omega)).mp z; omega
    have l1 : fX0_rankBy rk (nI a) = some (rk a) := rb_C (by omega)
    by_cases z : rk a < nI y
    · obtain ⟨rk', r1, r2, r3, r4⟩ := ih (a + 1) q rk (by omega) (by omega) (by omega)
      refine ⟨rk', ?_, r2, fun k h1 h2 => ?_, fun k h1 h2 => r4 k h1 (by omega)⟩
      · rw [← nI_1] at r1
        rw [fX0_insert_41]
        exact bs (tx_size h hi) (ns hle (bs l1 (ps z r1)))
      · by_cases e : k = a
        · rw [e, r4 a (by omega) (by omega), if_pos z]
        · exact r3 k (by omega) h2
    · obtain ⟨rk', r1, r2, r3, r4⟩ := ih (a + 1) q (updL rk a (rk a + 1)) (by omega) (by omega) (by omega)
      refine ⟨rk', ?_, r2, fun k h1 h2 => ?_, fun k h1 h2 => by rw [r4 k h1 (by omega), upd_n (by omega)]⟩
      · rw [← nI_1] at r1
        rw [fX0_insert_41]
        exact bs (tx_size h hi) (ns hle (bs l1 (ns z (bs (kp_C (by omega)) r1))))
      · by_cases e : k = a
        · rw [e, r4 a (by omega) (by omega), upd_s, if_neg z]
        · rw [r3 k (by omega) h2, upd_n e]
theorem in_7 (h : TC ts tc N) (hi : i < 7) (hsm : small (tc i) (N i)) {p : Nat} (hp : p < N i) (hr : RKS (tc i) (N i) (p + 1) rk) : ∀ (d a c q : Nat), a + d = N i → d < q → p < a → fX0_insert_7 fu ts tc i (nI p) q (nI c) (nI a) rk = fX0_insert_41 fu ts tc i (nI p) (nI (c + cntB (fun a => lsB (tc i) (N i) a p) d a)) fu (nI (p + 1)) rk := by
  intro d
  have hNi := (h i hi).2.1
  induction d with
  | zero =>
    intro a c q ha hq hpa
    obtain ⟨q, rfl⟩ : ∃ k, q = k + 1 := ⟨q - 1, by omega⟩
    rw [fX0_insert_7, ← nI_1 p]
    exact bs (tx_size h hi) (ps ((nI_leI (by omega) (by omega)).mpr (by omega)) rfl)
  | succ d ih =>
    intro a c q ha hq hpa
    obtain ⟨q, rfl⟩ : ∃ k, q = k + 1 := ⟨q - 1, by omega⟩
    have hle : ¬ nI (N i) ≤ nI a := fun z => by have := (nI_leI (by omega) (by omega)).mp z; omega
    have il := il_C h hi hsm hr hpa (by omega)
    rw [fX0_insert_7, cntB]
    by_cases z : lsB (tc i) (N i) a p = true
    · have h2 := ih (a + 1) (c + 1) q (by omega) (by omega) (by omega)
      rw [← nI_1 a, ← nI_1 c] at h2
      rw [if_pos z, ← Nat.add_assoc]
      exact bs (tx_size h hi) (ns hle (bs il (ns (bI_n0 z) h2)))
    · have h2 := ih (a + 1) c q (by omega) (by omega) (by omega)
      rw [← nI_1 a] at h2
      rw [if_neg z, Nat.zero_add]
      exact bs (tx_size h hi) (ns hle (bs il (ps (bI_0.mpr (Bool.eq_false_iff.mpr z)) h2)))
theorem in_C (h : TC ts tc N) (hi : i < 7) (hsm : small (tc i) (N i)) (hfu : 1000 ≤ fu) {p : Nat} (hp : p < N i) (hr : RKS (tc i) (N i) (p + 1) rk) : ∃ rk', fX0_insert fu ts tc rk i (nI p) = some rk' ∧ RKS (tc i) (N i) p rk' := by
  have hNi := (h i hi).2.1
  have h7 := in_7 (fu := fu) h hi hsm hp hr (N i - (p + 1)) (p + 1) 0 fu (by omega) (by omega) (by omega)
  have hc : 0 + cntB (fun a => lsB (tc i) (N i) a p) (N i - (p + 1)) (p + 1) = cr (tc i) (N i) (p + 1) p := by rw [Nat.zero_add]; rfl
  rw [hc, ← nI_1] at h7
  have hcl : cr (tc i) (N i) (p + 1) p ≤ 60 := by have := cntB_le (P := fun a => lsB (tc i) (N i) a p) (d := N i - (p + 1)) (p := p + 1); unfold cr; omega
  obtain ⟨rk', r1, r2, r3, r4⟩ := in_41 (fu := fu) h hi hp hcl (N i - (p + 1)) (p + 1) fu rk (by omega) (by omega) (by omega)
  rw [← nI_1] at r1
  refine ⟨rk', h7.trans r1, fun q h1 h2 => ?_, by rw [r4 (N i) (by omega) (by omega)]; exact hr.2⟩
  by_cases e : q = p
  · rw [e, r2, cr_step hp, if_neg (fun z => ls_irr ((lsB_iff hNi hsm (by omega) (by omega)).mp z)), Nat.zero_add]
  · have b1 := cr_bd (lo := p + 1) (q := q) hNi hsm (by omega) h2
    rw [r3 q (by omega) h2, hr.1 q (by omega) h2, cr_step hp]
    have key : nI (cr (tc i) (N i) (p + 1) q) < nI (cr (tc i) (N i) (p + 1) p) ↔ ¬ lsB (tc i) (N i) p q = true := by
      rw [nI_ltI (by omega) (by omega), lsB_iff hNi hsm (by omega) (by omega)]
      constructor
      · intro z y
        have : cr (tc i) (N i) (p + 1) p ≤ cr (tc i) (N i) (p + 1) q := cnt_le _ _ (fun k h1 h2 h3 => (lsB_iff hNi hsm (by omega) (by omega)).mpr (ls_trans ((lsB_iff hNi hsm (by omega) (by omega)).mp h3) y))
        omega
      · intro z
        rcases ls_total (f := tc i) (n := N i) (a := q) (b := p) (by omega) (by omega) e with y | y
        · exact cr_lt hNi hsm (by omega) h2 (by omega) y
        · exact absurd y z
    by_cases z : lsB (tc i) (N i) p q = true
    · rw [if_neg (fun y => key.mp y z), if_pos z, nI_1, Nat.add_comm]
    · rw [if_pos (key.mpr z), if_neg z, Nat.zero_add]
theorem ar_34 {m : Nat} {R : Nat → Nat} (hm : m ≤ 60) (hrk : ∀ q, q < m → rk q = nI (R q) ∧ R q < m) (hinj : ∀ a b, a < m → b < m → R a = R b → a = b) : ∀ (d y q : Nat) (pl : Nat → Int32), y + d = m → d < q → (∀ k, k < y → pl (R k) = nI k) → ∃ pl', fX0_arrange_33 fu ts tc (nI m) q (nI y) rk pl = some (rk, pl') ∧ ∀ k, k < m → pl' (R k) = nI k := by
  intro d
  induction d with
  | zero =>
    intro y q pl hy hq hp
    obtain ⟨q, rfl⟩ : ∃ k, q = k + 1 := ⟨q - 1, by omega⟩
    refine ⟨pl, ?_, fun k hk => hp k (by omega)⟩
    rw [fX0_arrange_33]
    exact ps ((nI_leI (by omega) (by omega)).mpr (by omega)) rfl
  | succ d ih =>
    intro y q pl hy hq hp
    obtain ⟨q, rfl⟩ : ∃ k, q = k + 1 := ⟨q - 1, by omega⟩
    obtain ⟨r1, r2⟩ := hrk y (by omega)
    obtain ⟨pl', p1, p2⟩ := ih (y + 1) q (updL pl (R y) (nI y)) (by omega) (by omega) (fun k hk => by
      by_cases e : k = y
      · rw [e, upd_s]
      · rw [upd_n (fun z => e (hinj k y (by omega) (by omega) z))]; exact hp k (by omega))
    refine ⟨pl', ?_, p2⟩
    have l1 : fX0_rankBy rk (nI y) = some (nI (R y)) := by rw [rb_C (by omega), r1]
    rw [← nI_1] at p1
    rw [fX0_arrange_33]
    exact ns (fun z => by have := (nI_leI (by omega) (by omega)).mp z; omega) (bs l1 (ns (nI_pos (by omega)) (ns (fun z => by rw [i_60] at z; have := (nI_leI (by omega) (by omega)).mp z; omega) (bs (stA_nI (by omega) (by decide)) p1))))
theorem ar_16 (h : TC ts tc N) (hi : i < 7) (hsm : small (tc i) (N i)) (hfu : 1000 ≤ fu) : ∀ (d q : Nat) (rk : Nat → Int32), d ≤ N i → d < q → RKS (tc i) (N i) d rk → ∃ rk', RKS (tc i) (N i) 0 rk' ∧ fX0_arrange_15 fu ts tc i (nI (N i)) q (nI d - 1) rk pl = fX0_arrange_33 fu ts tc (nI (N i)) fu 0 rk' pl := by
  intro d
  induction d with
  | zero =>
    intro q rk hd hq hr
    obtain ⟨q, rfl⟩ : ∃ k, q = k + 1 := ⟨q - 1, by omega⟩
    refine ⟨rk, hr, ?_⟩
    rw [fX0_arrange_15]
    exact ps nI_z1 rfl
  | succ d ih =>
    intro q rk hd hq hr
    obtain ⟨q, rfl⟩ : ∃ k, q = k + 1 := ⟨q - 1, by omega⟩
    have hNi := (h i hi).2.1
    obtain ⟨rk1, a1, a2⟩ := in_C (fu := fu) h hi hsm hfu (show d < N i by omega) hr
    obtain ⟨rk2, b1, b2⟩ := ih q rk1 (by omega) (by omega) a2
    refine ⟨rk2, b1, ?_⟩
    rw [← nI_n1] at b2
    rw [nI_s1, fX0_arrange_15]
    exact ns (nI_pos (by omega)) (bs a1 b2)
theorem cr_inj {a b : Nat} (hn : n ≤ 60) (hsm : small f n) (ha : a < n) (hb : b < n) (h : cr f n 0 a = cr f n 0 b) : a = b := by
  by_cases e : a = b
  · exact e
  · rcases ls_total (f := f) (n := n) (by omega) (by omega) e with z | z
    · have := cr_lt (lo := 0) hn hsm (by omega) ha (by omega) z; omega
    · have := cr_lt (lo := 0) hn hsm (by omega) hb (by omega) z; omega
/-- the class's two rows, when they have been arranged for a text -/
def ARR (f : Nat → Int32) (n : Nat) (rk pl : Nat → Int32) : Prop := ∀ q, q < n → rk q = nI (cr f n 0 q) ∧ pl (cr f n 0 q) = nI q
theorem tx_arr (h : TC ts tc N) (hi : i < 7) (hsm : small (tc i) (N i)) (hfu : 1000 ≤ fu) : ∃ rk' pl', fX0_arrange fu ts tc rk pl i = some (rk', pl') ∧ ARR (tc i) (N i) rk' pl' := by
  have hNi := (h i hi).2.1
  obtain ⟨rk1, a1, a2⟩ := ar_16 (fu := fu) (pl := pl) h hi hsm hfu (N i) fu (updL rk (N i) (-1)) (Nat.le_refl _) (by omega) ⟨fun q h1 h2 => by omega, upd_s⟩
  obtain ⟨pl1, b1, b2⟩ := ar_34 (fu := fu) (ts := ts) (tc := tc) (rk := rk1) (R := cr (tc i) (N i) 0) hNi (fun q hq => ⟨a1.1 q (by omega) hq, by have := cr_bd (lo := 0) hNi hsm (by omega) hq; omega⟩) (fun a b ha hb => cr_inj hNi hsm ha hb) (N i) 0 fu pl (by omega) (by omega) (fun k hk => by omega)
  refine ⟨rk1, pl1, ?_, fun q hq => ⟨a1.1 q (by omega) hq, b2 q hq⟩⟩
  exact bs (tx_size h hi) (bs (kp_C (by omega)) (a2.trans b1))
theorem pigeon : ∀ (n : Nat) (F : Nat → Nat), (∀ k, k < n → F k < n) → (∀ a b, a < n → b < n → F a = F b → a = b) → ∀ x, x < n → ∃ k, k < n ∧ F k = x := by
  intro n
  induction n with
  | zero => intro F _ _ x hx; omega
  | succ n ih =>
    intro F hb hi x hx
    have hv := hb n (by omega)
    by_cases e : F n = n
    · by_cases ex : x = n
      · exact ⟨n, by omega, by omega⟩
      · obtain ⟨k, k1, k2⟩ := ih F (fun k hk => by
          have := hb k (by omega)
          have : F k ≠ n := fun z => by have := hi k n (by omega) (by omega) (by omega); omega
          omega) (fun a b ha hb => hi a b (by omega) (by omega)) x (by omega)
        exact ⟨k, by omega, k2⟩
    · have hne : ∀ k, k < n → F k ≠ F n := fun k hk z => by have := hi k n (by omega) (by omega) z; omega
      have h2 := ih (fun k => if F k = n then F n else F k) (fun k hk => by
        show (if F k = n then F n else F k) < n
        have := hb k (by omega)
        split <;> omega) (fun a b ha hb2 hab => by
        have hab' : (if F a = n then F n else F a) = (if F b = n then F n else F b) := hab
        have n1 := hne a ha
        have n2 := hne b hb2
        by_cases c1 : F a = n
        · by_cases c2 : F b = n
          · exact hi a b (by omega) (by omega) (by omega)
          · rw [if_pos c1, if_neg c2] at hab'; omega
        · by_cases c2 : F b = n
          · rw [if_neg c1, if_pos c2] at hab'; omega
          · rw [if_neg c1, if_neg c2] at hab'; exact hi a b (by omega) (by omega) hab')
      by_cases e1 : x = F n
      · exact ⟨n, by omega, e1.symm⟩
      · by_cases e2 : x = n
        · obtain ⟨k, k1, k2⟩ := h2 (F n) (by omega)
          have k2' : (if F k = n then F n else F k) = F n := k2
          by_cases c : F k = n
          · exact ⟨k, by omega, by omega⟩
          · rw [if_neg c] at k2'; exact absurd k2' (hne k k1)
        · obtain ⟨k, k1, k2⟩ := h2 x (by omega)
          have k2' : (if F k = n then F n else F k) = x := k2
          by_cases c : F k = n
          · rw [if_pos c] at k2'; omega
          · rw [if_neg c] at k2'; exact ⟨k, by omega, k2'⟩
theorem cr_sur {x : Nat} (hn : n ≤ 60) (hsm : small f n) (hx : x < n) : ∃ q, q < n ∧ cr f n 0 q = x := pigeon n (cr f n 0) (fun k hk => by have := cr_bd (lo := 0) hn hsm (by omega) hk; omega) (fun a b ha hb => cr_inj hn hsm ha hb) x hx
theorem rk_M (h : RM ce sz N T) (hi : i < 6) (hfu : 1000 ≤ fu) {b : Nat} (hb : b < N i) : ∀ (d a c q : Nat), a + d = N i → d < q → fX6_rank_5 fu ce sz (nI i) (nI b) q (nI c) (nI a) = some (nI (c + cntB (fun a => lsB (T i) (N i) a b) d a)) := by
  intro d
  have hNi := (h i hi).2.1
  induction d with
  | zero =>
    intro a c q ha hq
    obtain ⟨q, rfl⟩ : ∃ k, q = k + 1 := ⟨q - 1, by omega⟩
    rw [fX6_rank_5]
    exact bs (h.len hi) (ps ((nI_leI (by omega) (by omega)).mpr (by omega)) rfl)
  | succ d ih =>
    intro a c q ha hq
    obtain ⟨q, rfl⟩ : ∃ k, q = k + 1 := ⟨q - 1, by omega⟩
    have hle : ¬ nI (N i) ≤ nI a := fun z => by have := (nI_leI (by omega) (by omega)).mp z; omega
    have od := rm_order (fu := fu) ((h.rw hi).sub (a := a) (b := N i - a) (by omega)) ((h.rw hi).sub (a := b) (b := N i - b) (by omega)) hfu
    rw [← nI_add, ← nI_add, ← nI_sub (by omega), ← nI_sub (by omega)] at od
    rw [fX6_rank_5, cntB]
    by_cases z : 0 ≤ ordI (fun k => T i (a + k)) (N i - a) (fun k => T i (b + k)) (N i - b)
    · have h2 := ih (a + 1) c q (by omega) (by omega)
      rw [← nI_1] at h2
      have e : lsB (T i) (N i) a b = false := decide_eq_false (fun y => y z)
      rw [if_neg (by rw [e]; decide), Nat.zero_add]
      have h3 : fX6_rank_5 fu ce sz (nI i) (nI b) q (nI c + 0) (nI a + 1) = some (nI (c + cntB (fun a => lsB (T i) (N i) a b) d (a + 1))) := by rw [Int32.add_zero]; exact h2
      exact bs (h.len hi) (ns hle (bs rm_base (bs (h.len hi) (bs rm_base (bs (h.len hi) (bs od (ps z h3)))))))
    · have h2 := ih (a + 1) (c + 1) q (by omega) (by omega)
      rw [← nI_1, ← nI_1] at h2
      have e : lsB (T i) (N i) a b = true := decide_eq_true z
      rw [if_pos e, ← Nat.add_assoc]
      exact bs (h.len hi) (ns hle (bs rm_base (bs (h.len hi) (bs rm_base (bs (h.len hi) (bs od (ns z h2)))))))
theorem rm_rank (h : RM ce sz N T) (hi : i < 6) (hfu : 1000 ≤ fu) {b : Nat} (hb : b < N i) : fX6_rank fu ce sz (nI i) (nI b) = some (nI (cr (T i) (N i) 0 b)) := by
  have := rk_M (fu := fu) h hi hfu hb (N i) 0 0 fu (by omega) (by have := (h i hi).2.1; omega)
  rw [Nat.zero_add] at this
  exact this
theorem ea_M (h : RM ce sz N T) (hi : i < 6) (hsm : small (T i) (N i)) (hfu : 1000 ≤ fu) {x e : Nat} (hx : x < N i) (he : e < N i) (hxe : cr (T i) (N i) 0 e = x) : ∀ (d a q : Nat), a + d = e → d < q → fX6_endAt_43 fu ce sz (nI i) (nI x) q (nI a) th = some (nI e, th) := by
  intro d
  have hNi := (h i hi).2.1
  induction d with
  | zero =>
    intro a q ha hq
    obtain ⟨q, rfl⟩ : ∃ k, q = k + 1 := ⟨q - 1, by omega⟩
    obtain rfl : a = e := by omega
    rw [fX6_endAt_43]
    exact bs (rm_rank h hi hfu (by omega)) (ps (by rw [hxe]) rfl)
  | succ d ih =>
    intro a q ha hq
    obtain ⟨q, rfl⟩ : ∃ k, q = k + 1 := ⟨q - 1, by omega⟩
    have h2 := ih (a + 1) q (by omega) (by omega)
    rw [← nI_1] at h2
    have b1 := cr_bd (f := T i) (lo := 0) (q := a) hNi hsm (by omega) (by omega)
    rw [fX6_endAt_43]
    exact bs (rm_rank h hi hfu (by omega)) (ns (fun z => by
      have := (nI_eq (by omega) (by omega)).mp z
      have := cr_inj (a := a) (b := e) hNi hsm (by omega) he (by omega)
      omega) h2)
end QM
theorem q_endAt {fu : Nat} {ts : Nat → Int32} {tc : Nat → Nat → Int32} {rk : Nat → Int32} {pl : Nat → Int32} {ol : Nat → Int64} {ce : Nat → Int32} {sz : Nat → Int32} {th : Int32} {N : Nat → Nat} (I : INV ts tc ce sz N) (hfu : 2000 ≤ fu) (x1 x2 : Int32) : ∃ (k : Int32) (rk' : Nat → Int32) (pl' : Nat → Int32) (g : Nat → Int64) (b : Int32) (t : Int32), fL_endAt fu ts tc rk pl ol x1 x2 = some (k, rk', pl', g) ∧ fX6_endAt fu th ce sz x1 x2 = some (b, t) ∧ t = k ∧ (k = 0 → g 0 = b.toInt64) ∧ ∃ N', INV ts tc ce sz N' := by
  rcases slots x1 with ⟨j1, h1, rfl⟩ | ⟨b1, b2⟩
  · have hN1 := (I.1 j1 (by omega)).2.1
    have hsm := inv_small I h1
    have hin := mo_isInS x2 hN1
    by_cases hx : x2 < 0
    · rw [decide_eq_false (fun z => by rw [Int32.lt_iff_toInt_lt, show (0 : Int32).toInt = 0 from rfl] at hx; omega)] at hin
      exact ⟨2, rk, pl, ol, 0, 2, we_endAt_2 (bs (sl_ok h1) (es (ps (hx) (rfl)))), bs (sl_no h1 _) (ps (rfl) (bs (I.2.1.len h1) (bs (hin) (ps (rfl) (show fX6_endAt_32 fu ce sz (nI j1) x2 1 0 = _ from bs (mo_thrown1 _ _) (ns (i32_10) (rfl))))))), rfl, fun h => absurd h (by decide), N, I⟩
    · have hx' : 0 ≤ x2 := by rw [Int32.lt_iff_toInt_lt] at hx; rw [Int32.le_iff_toInt_le]; omega
      obtain ⟨x, hxx, rfl⟩ := i32_nat hx'
      rw [nI_toInt hxx] at hin
      have lt := nI_ltI hxx (show N j1 < 2 ^ 31 by omega)
      by_cases hr : x < N j1
      · rw [decide_eq_true (by omega)] at hin
        obtain ⟨e, e1, e2⟩ := cr_sur hN1 hsm hr
        obtain ⟨rk', pl', a1, a2⟩ := tx_arr (fu := fu) (rk := rk) (pl := pl) I.1 (lt7 h1) hsm (by omega)
        have a3 := (a2 e e1).2
        rw [e2] at a3
        have c1 : fX0_placeBy pl' (nI x) = some (nI e) := by rw [← a3]; exact ns hx (ps (by rw [i_60]; exact (nI_ltI (by omega) (by omega)).mpr (by omega)) (bs (ldA_nI (by omega) (by decide)) rfl))
        have m1 := ea_M (fu := fu) (th := 0) I.2.1 h1 hsm (by omega) hr e1 e2 e 0 fu (by omega) (by omega)
        exact ⟨0, rk', pl', _, _, 0, wo_endAt (bs (sl_ok h1) (es (ns (hx) (bs (tx_size I.1 (lt7 h1)) (ps (lt.mpr hr) (bs (a1) (bs (c1) (rfl)))))))), bs (sl_no h1 _) (ps (rfl) (bs (I.2.1.len h1) (bs (hin) (ns (i32_10) (show fX6_endAt_32 fu ce sz (nI j1) (nI x) 0 0 = _ from bs (mo_thrown0 _ _) (ps (rfl) (m1))))))), rfl, fun _ => upd_s, N, I⟩
      · rw [decide_eq_false (by omega)] at hin
        exact ⟨2, rk, pl, ol, 0, 2, we_endAt_2 (bs (sl_ok h1) (es (ns (hx) (bs (tx_size I.1 (lt7 h1)) (ns (fun z => hr (lt.mp z)) (rfl)))))), bs (sl_no h1 _) (ps (rfl) (bs (I.2.1.len h1) (bs (hin) (ps (rfl) (show fX6_endAt_32 fu ce sz (nI j1) (nI x) 1 0 = _ from bs (mo_thrown1 _ _) (ns (i32_10) (rfl))))))), rfl, fun h => absurd h (by decide), N, I⟩
  · exact ⟨1, rk, pl, ol, 0, 1, we_endAt_1 (bs (b1) (er (rfl))), by simp [fX6_endAt, fX6_isNoOf, fX6_isNoOfAll, fX6_isNoPlace, b2], rfl, fun h => absurd h (by decide), N, I⟩
theorem q_rankOf {fu : Nat} {ts : Nat → Int32} {tc : Nat → Nat → Int32} {rk : Nat → Int32} {pl : Nat → Int32} {ol : Nat → Int64} {ce : Nat → Int32} {sz : Nat → Int32} {th : Int32} {N : Nat → Nat} (I : INV ts tc ce sz N) (hfu : 2000 ≤ fu) (x1 x2 : Int32) : ∃ (k : Int32) (rk' : Nat → Int32) (pl' : Nat → Int32) (g : Nat → Int64) (b : Int32) (t : Int32), fL_rankOf fu ts tc rk pl ol x1 x2 = some (k, rk', pl', g) ∧ fX6_rankOf fu th ce sz x1 x2 = some (b, t) ∧ t = k ∧ (k = 0 → g 0 = b.toInt64) ∧ ∃ N', INV ts tc ce sz N' := by
  rcases slots x1 with ⟨j1, h1, rfl⟩ | ⟨b1, b2⟩
  · have hN1 := (I.1 j1 (by omega)).2.1
    have hsm := inv_small I h1
    rcases places I h1 x2 with ⟨k, hk, rfl, e1, e2⟩ | ⟨e1, e2⟩
    · obtain ⟨rk', pl', a1, a2⟩ := tx_arr (fu := fu) (rk := rk) (pl := pl) I.1 (lt7 h1) hsm (by omega)
      have a3 := (a2 k hk).1
      have c1 : fX0_rankBy rk' (nI k) = some (nI (cr (tc j1) (N j1) 0 k)) := by rw [← a3]; exact rb_C (by omega)
      exact ⟨0, rk', pl', _, _, 0, wo_rankOf (bs (sl_ok h1) (es (bs (e1) (es (bs (a1) (bs (c1) (rfl))))))), bs (e2 _) (ps (rfl) (bs (rm_rank I.2.1 h1 (by omega) hk) (rfl))), rfl, fun _ => upd_s, N, I⟩
    · exact ⟨1, rk, pl, ol, 0, 1, we_rankOf_1 (bs (sl_ok h1) (es (bs (e1) (er (rfl))))), bs (e2 _) (ns (i32_10) (rfl)), rfl, fun h => absurd h (by decide), N, I⟩
  · exact ⟨1, rk, pl, ol, 0, 1, we_rankOf_1 (bs (b1) (er (rfl))), by simp [fX6_rankOf, fX6_isNoOf, fX6_isNoOfAll, fX6_isNoPlace, b2], rfl, fun h => absurd h (by decide), N, I⟩
