/-! THE COMPARISONS unlikeParts and mirrors: each part is counted once, whether where it stands first or where it is least in the order of ends -/
section QN
variable {ts : Nat → Int32} {tc tc0 : Nat → Nat → Int32} {ce sz rk pl : Nat → Int32} {N : Nat → Nat} {T : Nat → Nat → Int32} {i j s fu r : Nat} {th : Int32} {f g F : Nat → Int32} {n : Nat}
def sN (f : Nat → Nat) : Nat → Nat
  | 0 => 0
  | n + 1 => sN f n + f n
theorem sN_congr {f g : Nat → Nat} : ∀ n, (∀ k, k < n → f k = g k) → sN f n = sN g n := by
  intro n
  induction n with
  | zero => intro _; rfl
  | succ n ih => intro h; rw [sN, sN, ih (fun k hk => h k (by omega)), h n (by omega)]
theorem sN_zero {f : Nat → Nat} : ∀ n, (∀ k, k < n → f k = 0) → sN f n = 0 := by
  intro n
  induction n with
  | zero => intro _; rfl
  | succ n ih => intro h; rw [sN, ih (fun k hk => h k (by omega)), h n (by omega)]
theorem sN_add {f g : Nat → Nat} : ∀ n, sN (fun k => f k + g k) n = sN f n + sN g n := by
  intro n
  induction n with
  | zero => rfl
  | succ n ih => rw [sN, sN, sN, ih]; omega
theorem sN_comm {F : Nat → Nat → Nat} : ∀ n m, sN (fun p => sN (F p) m) n = sN (fun j => sN (fun p => F p j) n) m := by
  intro n
  induction n with
  | zero => intro m; exact (sN_zero m (fun k hk => rfl)).symm
  | succ n ih =>
    intro m
    rw [sN, ih m, ← sN_add]
    rfl
theorem sN_one {f : Nat → Nat} {a : Nat} : ∀ n, a < n → (∀ k, k < n → k ≠ a → f k = 0) → sN f n = f a := by
  intro n
  induction n with
  | zero => intro h; omega
  | succ n ih =>
    intro h hz
    rw [sN]
    by_cases e : a = n
    · rw [e, sN_zero n (fun k hk => hz k (by omega) (by omega)), Nat.zero_add]
    · rw [ih (by omega) (fun k h1 h2 => hz k (by omega) h2), hz n (by omega) (by omega), Nat.add_zero]
theorem sN_pad {f : Nat → Nat} {d n : Nat} (h : d ≤ n) (hz : ∀ k, d ≤ k → k < n → f k = 0) : sN f d = sN f n := by
  obtain ⟨e, rfl⟩ : ∃ e, n = d + e := ⟨n - d, by omega⟩
  induction e with
  | zero => rfl
  | succ e ih =>
    have := ih (by omega) (fun k h1 h2 => hz k h1 (by omega))
    show sN f d = sN f (d + e) + f (d + e)
    rw [← this, hz (d + e) (by omega) (by omega), Nat.add_zero]
theorem cnt_sN {P : Nat → Bool} : ∀ d p, cntB P d p = sN (fun k => if P (p + k) = true then 1 else 0) d := by
  have key : ∀ (d p : Nat), cntB P (d + 1) p = cntB P d p + if P (p + d) = true then 1 else 0 := by
    intro d
    induction d with
    | zero => intro p; simp [cntB]
    | succ d ih =>
      intro p
      rw [cntB, ih (p + 1), cntB, show p + 1 + d = p + (d + 1) by omega]
      omega
  intro d
  induction d with
  | zero => intro p; rfl
  | succ d ih => intro p; rw [key, ih p, sN]
/-- counted from either side -/
theorem dbl {a b : Nat → Bool} {s : Nat → Nat → Bool} {w : Nat → Nat} (h1 : ∀ p, p < n → a p = true → ∃ q, q < n ∧ b q = true ∧ s p q = true ∧ ∀ q', q' < n → b q' = true → s p q' = true → q' = q) (h2 : ∀ q, q < n → b q = true → ∃ p, p < n ∧ a p = true ∧ s p q = true ∧ ∀ p', p' < n → a p' = true → s p' q = true → p' = p) (hw : ∀ p q, p < n → q < n → s p q = true → w p = w q) : sN (fun p => if a p = true then w p else 0) n = sN (fun q => if b q = true then w q else 0) n := by
  have e1 : sN (fun p => if a p = true then w p else 0) n = sN (fun p => sN (fun q => if (a p && b q && s p q) = true then w p else 0) n) n := sN_congr n (fun p hp => by
    by_cases c : a p = true
    · obtain ⟨q, q1, q2, q3, q4⟩ := h1 p hp c
      rw [if_pos c, sN_one (a := q) n q1 (fun k hk hne => by
        rw [if_neg]
        intro z
        rw [Bool.and_eq_true, Bool.and_eq_true] at z
        exact hne (q4 k hk z.1.2 z.2))]
      rw [if_pos (by rw [c, q2, q3]; rfl)]
    · rw [if_neg c, sN_zero n (fun k hk => by
        rw [if_neg]
        intro z
        rw [Bool.and_eq_true, Bool.and_eq_true] at z
        exact c z.1.1)])
  have e2 : sN (fun q => if b q = true then w q else 0) n = sN (fun q => sN (fun p => if (a p && b q && s p q) = true then w p else 0) n) n := sN_congr n (fun q hq => by
    by_cases c : b q = true
    · obtain ⟨p, p1, p2, p3, p4⟩ := h2 q hq c
      rw [if_pos c, sN_one (a := p) n p1 (fun k hk hne => by
        rw [if_neg]
        intro z
        rw [Bool.and_eq_true, Bool.and_eq_true] at z
        exact hne (p4 k hk z.1.1 z.2))]
      rw [if_pos (by rw [c, p2, p3]; rfl), hw p q p1 hq p3]
    · rw [if_neg c, sN_zero n (fun k hk => by
        rw [if_neg]
        intro z
        rw [Bool.and_eq_true, Bool.and_eq_true] at z
        exact c z.1.2)])
  rw [e1, e2]
  exact sN_comm n n
/-- the end of rank r -/
def eR (f : Nat → Int32) (n r : Nat) : Nat := srch (fun q => decide (cr f n 0 q = r)) n 0
theorem eR_is {r : Nat} (hn : n ≤ 60) (hsm : small f n) (hr : r < n) : eR f n r < n ∧ cr f n 0 (eR f n r) = r := by
  obtain ⟨q, q1, q2⟩ := cr_sur hn hsm hr
  have hl : eR f n r < n := by
    by_cases z : eR f n r < n
    · exact z
    · have := srch_no (P := fun q => decide (cr f n 0 q = r)) (d := n) (p := 0) (q := q) (by omega) (by unfold eR at z; omega)
      rw [decide_eq_true q2] at this
      cases this
  refine ⟨hl, ?_⟩
  have := srch_yes (P := fun q => decide (cr f n 0 q = r)) (d := n) (p := 0) (by unfold eR at hl; omega)
  exact of_decide_eq_true this
theorem eR_cr {q : Nat} (hn : n ≤ 60) (hsm : small f n) (hq : q < n) : eR f n (cr f n 0 q) = q := by
  have hb := cr_bd (f := f) (lo := 0) hn hsm (Nat.zero_le q) hq
  obtain ⟨h1, h2⟩ := eR_is hn hsm (show cr f n 0 q < n by omega)
  exact cr_inj hn hsm h1 hq h2
/-- how many signs the end of rank r shares with the one before -/
def shR (f : Nat → Int32) (n r : Nat) : Nat := if r = 0 then 0 else lcp f (eR f n r) f (eR f n (r - 1)) (min (n - eR f n r) (n - eR f n (r - 1)))
theorem shR_le {r : Nat} : shR f n r ≤ n - eR f n r := by
  unfold shR
  split
  · omega
  · have := lcp_le (f := f) (g := f) (a := eR f n r) (b := eR f n (r - 1)) (m := min (n - eR f n r) (n - eR f n (r - 1)))
    omega
theorem squeeze {a b c L : Nat} (h1 : ls f n a b) (h2 : ls f n b c) (ha : a + L ≤ n) (hs : ∀ k, k < L → f (a + k) = f (c + k)) : b + L ≤ n ∧ ∀ k, k < L → f (b + k) = f (c + k) := by
  obtain ⟨l, l1, l2, l3, l4⟩ := h1
  obtain ⟨k, k1, k2, k3, k4⟩ := h2
  by_cases z : L ≤ k
  · exact ⟨by omega, fun j hj => k3 j (by omega)⟩
  · exfalso
    rcases Nat.lt_trichotomy l k with y | y | y
    · rcases l4 with l4 | ⟨l4, l5⟩
      · omega
      · rw [k3 l y, ← hs l (by omega)] at l5; omega
    · subst y
      rcases l4 with l4 | ⟨l4, l5⟩
      · omega
      · rcases k4 with k4 | ⟨k4, k5⟩
        · omega
        · rw [← hs l (by omega)] at k5; omega
    · rcases k4 with k4 | ⟨k4, k5⟩
      · omega
      · rw [← hs k (by omega), l3 k y] at k5; omega
theorem shR_iff {p L : Nat} (hn : n ≤ 60) (hsm : small f n) (hp : p < n) (hL : 1 ≤ L) (hpL : p + L ≤ n) : L ≤ shR f n (cr f n 0 p) ↔ ∃ q, q < n ∧ q + L ≤ n ∧ (∀ k, k < L → f (q + k) = f (p + k)) ∧ cr f n 0 q < cr f n 0 p := by
  have hb := cr_bd (f := f) (lo := 0) hn hsm (Nat.zero_le p) hp
  have he := eR_cr hn hsm hp
  unfold shR
  rw [he]
  by_cases z : cr f n 0 p = 0
  · rw [if_pos z]
    constructor
    · intro h; omega
    · rintro ⟨q, _, _, _, h⟩; omega
  · rw [if_neg z]
    obtain ⟨m1, m2⟩ := eR_is hn hsm (show cr f n 0 p - 1 < n by omega)
    generalize eR f n (cr f n 0 p - 1) = m at *
    constructor
    · intro h
      have hl := lcp_le (f := f) (g := f) (a := p) (b := m) (m := min (n - p) (n - m))
      exact ⟨m, m1, by omega, fun k hk => (lcp_eq (f := f) (g := f) (a := p) (b := m) (m := min (n - p) (n - m)) (by omega)).symm, by omega⟩
    · rintro ⟨q, q1, q2, q3, q4⟩
      have hmp : ls f n m p := (cr_iff (lo := 0) hn hsm (by omega) m1 (by omega) hp).mp (by omega)
      have key : m + L ≤ n ∧ ∀ k, k < L → f (m + k) = f (p + k) := by
        by_cases e : q = m
        · subst e; exact ⟨q2, q3⟩
        · have : cr f n 0 q ≠ cr f n 0 m := fun y => e (cr_inj hn hsm q1 m1 y)
          exact squeeze ((cr_iff (lo := 0) hn hsm (by omega) q1 (by omega) m1).mp (by omega)) hmp q2 q3
      exact lcp_ge (by omega) (fun k hk => (key.2 k hk).symm)
/-- the part of L signs at p stands nowhere below p -/
def newB (f : Nat → Int32) (n p L : Nat) : Nat → Nat → Bool
  | 0, _ => true
  | d + 1, y => !(stands f n (fun k => f (p + k)) L y) && newB f n p L d (y + 1)
theorem newB_iff {p L : Nat} : ∀ (d y : Nat), newB f n p L d y = true ↔ ∀ k, k < d → stands f n (fun k => f (p + k)) L (y + k) = false := by
  intro d
  induction d with
  | zero => intro y; exact ⟨fun _ k hk => by omega, fun _ => rfl⟩
  | succ d ih =>
    intro y
    rw [newB, Bool.and_eq_true, ih]
    constructor
    · rintro ⟨h1, h2⟩ k hk
      cases k with
      | zero => simpa using h1
      | succ k => have := h2 k (by omega); rw [show y + 1 + k = y + (k + 1) by omega] at this; exact this
    · intro h
      refine ⟨by have := h 0 (by omega); rw [Nat.add_zero] at this; rw [this]; rfl, fun k hk => ?_⟩
      have := h (k + 1) (by omega)
      rw [show y + 1 + k = y + (k + 1) by omega]
      exact this
theorem ex_min {D : Nat → Prop} {S : Nat → Nat → Prop} (mu : Nat → Nat) (hrefl : ∀ p, S p p) (hsym : ∀ a b, S a b → S b a) (htr : ∀ a b c, S a b → S b c → S a c) : ∀ (m p : Nat), mu p ≤ m → D p → ∃ q, D q ∧ S q p ∧ ∀ q', D q' → S q' p → mu q ≤ mu q' := by
  intro m
  induction m with
  | zero => intro p h1 h2; exact ⟨p, h2, hrefl p, fun q' _ _ => by omega⟩
  | succ m ih =>
    intro p h1 h2
    by_cases z : ∃ q', D q' ∧ S q' p ∧ mu q' < mu p
    · obtain ⟨q', z1, z2, z3⟩ := z
      obtain ⟨q, y1, y2, y3⟩ := ih q' (by omega) z1
      exact ⟨q, y1, htr _ _ _ y2 z2, fun r r1 r2 => y3 r r1 (htr _ _ _ r2 (hsym _ _ z2))⟩
    · exact ⟨p, h2, hrefl p, fun q' h3 h4 => by
        by_cases c : mu p ≤ mu q'
        · exact c
        · exact absurd ⟨q', h3, h4, by omega⟩ z⟩
/-- does the part count: always, or when it is its own mirror -/
def wB (f : Nat → Int32) (md : Bool) (p L : Nat) : Bool := md || alk (fun k => f (p + k)) 0 (backF (fun k => f (p + k)) L) 0 L
theorem wB_same {md : Bool} {p q L : Nat} (h : ∀ k, k < L → f (p + k) = f (q + k)) : wB f md p L = wB f md q L := by
  unfold wB
  congr 1
  apply Bool.eq_iff_iff.mpr
  rw [alk_iff, alk_iff]
  constructor
  · intro z k hk
    have := z k hk
    rw [Nat.zero_add] at this ⊢
    show f (q + k) = f (q + (L - 1 - k))
    rw [← h k hk, ← h (L - 1 - k) (by omega)]
    exact this
  · intro z k hk
    have := z k hk
    rw [Nat.zero_add] at this ⊢
    show f (p + k) = f (p + (L - 1 - k))
    rw [h k hk, h (L - 1 - k) (by omega)]
    exact this
def aB (f : Nat → Int32) (n L p : Nat) : Bool := decide (p + L ≤ n) && newB f n p L p 0
def bB (f : Nat → Int32) (n L r e : Nat) : Bool := decide (e + L ≤ n) && decide (shR f n r < L)
theorem aB_iff {L p : Nat} : aB f n L p = true ↔ p + L ≤ n ∧ ∀ y, y < p → ¬ (y + L ≤ n ∧ ∀ k, k < L → f (y + k) = f (p + k)) := by
  unfold aB
  rw [Bool.and_eq_true, decide_eq_true_iff, newB_iff]
  constructor
  · rintro ⟨h1, h2⟩
    refine ⟨h1, fun y hy z => ?_⟩
    have := h2 y hy
    rw [Nat.zero_add, stands_iff.mpr z] at this
    cases this
  · rintro ⟨h1, h2⟩
    refine ⟨h1, fun y hy => ?_⟩
    rw [Nat.zero_add]
    exact Bool.eq_false_iff.mpr (fun z => h2 y hy (stands_iff.mp z))
theorem bB_iff {L p : Nat} (hn : n ≤ 60) (hsm : small f n) (hp : p < n) (hL : 1 ≤ L) : bB f n L (cr f n 0 p) p = true ↔ p + L ≤ n ∧ ∀ q, q < n → q + L ≤ n → (∀ k, k < L → f (q + k) = f (p + k)) → cr f n 0 p ≤ cr f n 0 q := by
  unfold bB
  rw [Bool.and_eq_true, decide_eq_true_iff, decide_eq_true_iff]
  constructor
  · rintro ⟨h1, h2⟩
    refine ⟨h1, fun q q1 q2 q3 => ?_⟩
    by_cases z : cr f n 0 p ≤ cr f n 0 q
    · exact z
    · have := (shR_iff hn hsm hp hL h1).mpr ⟨q, q1, q2, q3, by omega⟩
      omega
  · rintro ⟨h1, h2⟩
    refine ⟨h1, ?_⟩
    by_cases z : shR f n (cr f n 0 p) < L
    · exact z
    · obtain ⟨q, q1, q2, q3, q4⟩ := (shR_iff hn hsm hp hL h1).mp (by omega)
      have := h2 q q1 q2 q3
      omega
theorem one_L {L : Nat} {md : Bool} (hn : n ≤ 60) (hsm : small f n) (hL : 1 ≤ L) : sN (fun p => if aB f n L p = true then (if wB f md p L = true then 1 else 0) else 0) n = sN (fun p => if bB f n L (cr f n 0 p) p = true then (if wB f md p L = true then 1 else 0) else 0) n := by
  refine dbl (s := fun p q => alk f p f q L) (fun p hp ha => ?_) (fun q hq hb => ?_) (fun p q hp hq hs => ?_)
  · obtain ⟨a1, a2⟩ := aB_iff.mp ha
    obtain ⟨q, ⟨q1, q2⟩, q3, q4⟩ := ex_min (D := fun q => q < n ∧ q + L ≤ n) (S := fun q p => ∀ k, k < L → f (q + k) = f (p + k)) (cr f n 0) (fun p k hk => rfl) (fun a b h k hk => (h k hk).symm) (fun a b c h1 h2 k hk => (h1 k hk).trans (h2 k hk)) _ p (Nat.le_refl _) ⟨hp, a1⟩
    refine ⟨q, q1, (bB_iff hn hsm q1 hL).mpr ⟨q2, fun r r1 r2 r3 => q4 r ⟨r1, r2⟩ (fun k hk => (r3 k hk).trans (q3 k hk))⟩, alk_iff.mpr (fun k hk => (q3 k hk).symm), fun q' h1 h2 h3 => ?_⟩
    obtain ⟨b1, b2⟩ := (bB_iff hn hsm h1 hL).mp h2
    have s1 := alk_iff.mp h3
    have l1 := q4 q' ⟨h1, b1⟩ (fun k hk => (s1 k hk).symm)
    have l2 := b2 q q1 q2 (fun k hk => (q3 k hk).trans (s1 k hk))
    exact cr_inj hn hsm h1 q1 (by omega)
  · obtain ⟨b1, b2⟩ := (bB_iff hn hsm hq hL).mp hb
    obtain ⟨p, ⟨p1, p2⟩, p3, p4⟩ := ex_min (D := fun q => q < n ∧ q + L ≤ n) (S := fun q p => ∀ k, k < L → f (q + k) = f (p + k)) (fun p => p) (fun p k hk => rfl) (fun a b h k hk => (h k hk).symm) (fun a b c h1 h2 k hk => (h1 k hk).trans (h2 k hk)) _ q (Nat.le_refl _) ⟨hq, b1⟩
    refine ⟨p, p1, aB_iff.mpr ⟨p2, fun y hy z => ?_⟩, alk_iff.mpr p3, fun p' h1 h2 h3 => ?_⟩
    · have := p4 y ⟨by omega, z.1⟩ (fun k hk => (z.2 k hk).trans (p3 k hk))
      omega
    · obtain ⟨a1, a2⟩ := aB_iff.mp h2
      have s1 := alk_iff.mp h3
      have l1 : p ≤ p' := p4 p' ⟨h1, a1⟩ s1
      by_cases z : p < p'
      · exact absurd ⟨p2, fun k hk => (p3 k hk).trans (s1 k hk).symm⟩ (a2 p z)
      · omega
  · rw [wB_same (fun k hk => alk_iff.mp hs k hk)]
theorem sN_ren {H : Nat → Nat} (hn : n ≤ 60) (hsm : small f n) : sN (fun r => H (eR f n r)) n = sN H n := by
  have e1 : sN (fun r => H (eR f n r)) n = sN (fun r => sN (fun q => if eR f n r = q then H q else 0) n) n := sN_congr n (fun r hr => by
    have h1 := (eR_is hn hsm hr).1
    rw [sN_one (a := eR f n r) n h1 (fun k hk hne => if_neg (fun z => hne z.symm)), if_pos rfl])
  rw [e1, sN_comm]
  refine sN_congr n (fun q hq => ?_)
  have hb := cr_bd (f := f) (lo := 0) hn hsm (Nat.zero_le q) hq
  rw [sN_one (a := cr f n 0 q) n (by omega) (fun k hk hne => if_neg (fun z => by rw [← z, (eR_is hn hsm hk).2] at hne; exact hne rfl)), if_pos (eR_cr hn hsm hq)]
def cntM (f : Nat → Int32) (n : Nat) (md : Bool) : Nat := sN (fun p => cntB (fun L => wB f md p L && newB f n p L p 0) (n - p) 1) n
def inC (f : Nat → Int32) (n : Nat) (md : Bool) (r : Nat) : Nat := sN (fun k => if bB f n (k + 1) r (eR f n r) = true then (if wB f md (eR f n r) (k + 1) = true then 1 else 0) else 0) n
theorem cnt_same {md : Bool} (hn : n ≤ 60) (hsm : small f n) : cntM f n md = sN (inC f n md) n := by
  have e1 : cntM f n md = sN (fun p => sN (fun k => if aB f n (k + 1) p = true then (if wB f md p (k + 1) = true then 1 else 0) else 0) n) n := sN_congr n (fun p hp => by
    rw [cnt_sN, ← sN_pad (d := n - p) (n := n) (f := fun k => if aB f n (k + 1) p = true then (if wB f md p (k + 1) = true then 1 else 0) else 0) (by omega) (fun k h1 h2 => by
      rw [if_neg]
      intro z
      have := (aB_iff.mp z).1
      omega)]
    refine sN_congr _ (fun k hk => ?_)
    rw [Nat.add_comm 1 k]
    unfold aB
    rw [decide_eq_true (show p + (k + 1) ≤ n by omega), Bool.true_and]
    cases wB f md p (k + 1) <;> cases newB f n p (k + 1) p 0 <;> rfl)
  have e2 : sN (inC f n md) n = sN (fun p => sN (fun k => if bB f n (k + 1) (cr f n 0 p) p = true then (if wB f md p (k + 1) = true then 1 else 0) else 0) n) n := by
    rw [← sN_ren hn hsm (H := fun p => sN (fun k => if bB f n (k + 1) (cr f n 0 p) p = true then (if wB f md p (k + 1) = true then 1 else 0) else 0) n)]
    refine sN_congr n (fun r hr => ?_)
    unfold inC
    rw [(eR_is hn hsm hr).2]
  rw [e1, e2, sN_comm, sN_comm (F := fun p k => if bB f n (k + 1) (cr f n 0 p) p = true then (if wB f md p (k + 1) = true then 1 else 0) else 0)]
  exact sN_congr n (fun k hk => one_L hn hsm (by omega))
theorem cnt_rng {e s0 : Nat} : ∀ m, sN (fun k => if (decide (e + (k + 1) ≤ n) && decide (s0 < k + 1)) = true then 1 else 0) m = min m (n - e) - s0 := by
  intro m
  induction m with
  | zero => rw [sN]; omega
  | succ m ih =>
    rw [sN, ih]
    by_cases c : e + (m + 1) ≤ n ∧ s0 < m + 1
    · rw [if_pos (by rw [decide_eq_true c.1, decide_eq_true c.2]; rfl)]; omega
    · rw [if_neg (fun z => c (by rw [Bool.and_eq_true, decide_eq_true_iff, decide_eq_true_iff] at z; exact z))]; omega
theorem inC_all {r : Nat} : inC f n true r = n - eR f n r - shR f n r := by
  have : inC f n true r = sN (fun k => if (decide (eR f n r + (k + 1) ≤ n) && decide (shR f n r < k + 1)) = true then 1 else 0) n := sN_congr n (fun k _ => rfl)
  rw [this, cnt_rng]
  omega
theorem sN_split {f : Nat → Nat} {s0 : Nat} : ∀ d, sN f (s0 + d) = sN f s0 + sN (fun k => f (s0 + k)) d := by
  intro d
  induction d with
  | zero => rfl
  | succ d ih =>
    show sN f (s0 + d) + f (s0 + d) = _
    rw [ih, sN]
    omega
theorem inC_mir {r : Nat} (hr : eR f n r < n) : inC f n false r = cntB (fun y => wB f false (eR f n r) (y - eR f n r)) (n - eR f n r - shR f n r) (eR f n r + shR f n r + 1) := by
  have hs := shR_le (f := f) (n := n) (r := r)
  unfold inC
  rw [← sN_pad (d := shR f n r + (n - eR f n r - shR f n r)) (n := n) (f := fun k => if bB f n (k + 1) r (eR f n r) = true then (if wB f false (eR f n r) (k + 1) = true then 1 else 0) else 0) (by omega) (fun k h1 h2 => by
      rw [if_neg]
      intro z
      unfold bB at z
      rw [Bool.and_eq_true, decide_eq_true_iff] at z
      omega), sN_split, sN_zero (shR f n r) (fun k hk => by
      rw [if_neg]
      intro z
      unfold bB at z
      rw [Bool.and_eq_true, decide_eq_true_iff, decide_eq_true_iff] at z
      omega), Nat.zero_add, cnt_sN]
  refine sN_congr _ (fun k hk => ?_)
  rw [if_pos (by unfold bB; rw [decide_eq_true (by omega), decide_eq_true (by omega)]; rfl), show eR f n r + shR f n r + 1 + k - eR f n r = shR f n r + k + 1 by omega]
end QN
