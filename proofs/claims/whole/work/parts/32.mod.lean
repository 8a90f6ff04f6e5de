/-! THE MODEL's rows: what its private functions answer -/
def bI (b : Bool) : Int32 := if b = true then 1 else 0
theorem bI_t : bI true = 1 := rfl
theorem bI_f : bI false = 0 := rfl
theorem bI_0 {b : Bool} : bI b = 0 ↔ b = false := by cases b <;> decide
theorem ckZ_b {b : Bool} : ckZ (bI b) = some (bI b) := by cases b; exact ckZ_0; exact ckZ_1
theorem i32_10 : ¬ (1 : Int32) = 0 := by decide
/-- two rows agree on m places -/
def alk (f : Nat → Int32) (a : Nat) (g : Nat → Int32) (b : Nat) : Nat → Bool
  | 0 => true
  | m + 1 => decide (f a = g b) && alk f (a + 1) g (b + 1) m
theorem alk_iff {f g : Nat → Int32} {a b m : Nat} : alk f a g b m = true ↔ ∀ k, k < m → f (a + k) = g (b + k) := by
  induction m generalizing a b with
  | zero => simp [alk]
  | succ m ih =>
    simp only [alk, Bool.and_eq_true, decide_eq_true_eq, ih]
    constructor
    · rintro ⟨h1, h2⟩ k hk
      cases k with
      | zero => exact h1
      | succ k =>
        have := h2 k (by omega)
        rw [show a + (k + 1) = a + 1 + k by omega, show b + (k + 1) = b + 1 + k by omega]
        exact this
    · intro h
      refine ⟨h 0 (by omega), fun k hk => ?_⟩
      have := h (k + 1) (by omega)
      rw [show a + 1 + k = a + (k + 1) by omega, show b + 1 + k = b + (k + 1) by omega]
      exact this
theorem alk_lcp {f g : Nat → Int32} {a b m : Nat} : lcp f a g b m = m ↔ alk f a g b m = true := by
  rw [alk_iff]
  constructor
  · intro h k hk
    exact lcp_eq (m := m) (by omega)
  · intro h
    exact Nat.le_antisymm lcp_le (lcp_ge (Nat.le_refl m) h)
theorem alk_congr {f g f' g' : Nat → Int32} {a b m a' b' : Nat} (hf : ∀ k, k < m → f (a + k) = f' (a' + k)) (hg : ∀ k, k < m → g (b + k) = g' (b' + k)) : alk f a g b m = alk f' a' g' b' m := by
  rw [Bool.eq_iff_iff, alk_iff, alk_iff]
  constructor
  · intro h k hk; rw [← hf k hk, ← hg k hk]; exact h k hk
  · intro h k hk; rw [hf k hk, hg k hk]; exact h k hk
/-- a text stands at a place of another one -/
def stands (f : Nat → Int32) (n : Nat) (g : Nat → Int32) (m p : Nat) : Bool := decide (p + m ≤ n) && alk f p g 0 m
theorem stands_iff {f g : Nat → Int32} {n m p : Nat} : stands f n g m p = true ↔ p + m ≤ n ∧ ∀ k, k < m → f (p + k) = g k := by
  simp [stands, alk_iff]
theorem lcp_congr {f g f' g' : Nat → Int32} {a b m a' b' : Nat} (hf : ∀ k, k < m → f (a + k) = f' (a' + k)) (hg : ∀ k, k < m → g (b + k) = g' (b' + k)) : lcp f a g b m = lcp f' a' g' b' m := by
  refine lcp_is lcp_le (fun k hk => ?_) (fun h => ?_)
  · have hl := lcp_le (f := f') (g := g') (a := a') (b := b') (m := m)
    rw [hf k (by omega), hg k (by omega)]; exact lcp_eq hk
  · rw [hf _ h, hg _ h]; exact lcp_ne h
/-- n cells from r on hold f -/
def RW (ce : Nat → Int32) (r n : Nat) (f : Nat → Int32) : Prop := r + n ≤ 900 ∧ ∀ k, k < n → ce (r + k) = f k
/-- the model's six texts -/
def RM (ce sz : Nat → Int32) (N : Nat → Nat) (T : Nat → Nat → Int32) : Prop := ∀ i, i < 6 → sz i = nI (N i) ∧ N i ≤ 60 ∧ ∀ k, k < N i → ce (60 * i + k) = T i k
section MOD
variable {ce sz : Nat → Int32} {N : Nat → Nat} {T : Nat → Nat → Int32} {f g : Nat → Int32} {i j fu r w n m p : Nat}
theorem RM.rw (h : RM ce sz N T) (hi : i < 6) : RW ce (60 * i) (N i) (T i) := ⟨by have := (h i hi).2.1; omega, (h i hi).2.2⟩
theorem RM.len (h : RM ce sz N T) (hi : i < 6) : ldA sz 6 (nI i) = some (nI (N i)) := by rw [ldA_nI hi (by decide), (h i hi).1]
theorem rm_base : fX6_baseOf (nI i) = some (nI (60 * i)) := by unfold fX6_baseOf; rw [i_60, pk_mul]
theorem RW.sub (h : RW ce r n f) {a b : Nat} (hab : a + b ≤ n) : RW ce (r + a) b (fun k => f (a + k)) := ⟨by have := h.1; omega, fun k hk => by rw [show r + a + k = r + (a + k) by omega]; exact h.2 (a + k) (by omega)⟩
theorem RW.ld (h : RW ce r n f) {k : Nat} (hk : k < n) : ldA ce 900 (nI (r + k)) = some (f k) := by rw [ldA_nI (by have := h.1; omega) (by decide), h.2 k hk]
theorem rm_stands_0 (hfu : 1 ≤ fu) {y1 y3 y4 y5 y7 : Int32} : fX6_standsAt_24 fu ce y1 y3 y4 y5 fu 0 y7 = some 0 := by
  obtain ⟨k, rfl⟩ : ∃ k, fu = k + 1 := ⟨fu - 1, by omega⟩
  rw [fX6_standsAt_24, if_pos rfl, ckZ_0]; rfl
theorem rm_stands_loop (hr : RW ce r n f) (hw : RW ce w m g) (hp : p + m ≤ n) : ∀ (d c q : Nat), c + d = m → d + 1 < q → fX6_standsAt_24 fu ce (nI r) (nI w) (nI m) (nI p) q 1 (nI c) = some (bI (alk f (p + c) g c d)) := by
  have h1 := hr.1
  have h2 := hw.1
  intro d
  induction d with
  | zero =>
    intro c q hc hq
    obtain ⟨q, rfl⟩ : ∃ k, q = k + 1 := ⟨q - 1, by omega⟩
    rw [fX6_standsAt_24, if_neg i32_10, if_pos ((nI_leI (by omega) (by omega)).mpr (by omega)), ckZ_1]
    rfl
  | succ d ih =>
    intro c q hc hq
    obtain ⟨q, rfl⟩ : ∃ k, q = k + 1 := ⟨q - 1, by omega⟩
    rw [fX6_standsAt_24, if_neg i32_10, if_neg (fun z => by have := (nI_leI (by omega) (by omega)).mp z; omega), nI_add, nI_add, nI_add, show r + p + c = r + (p + c) by omega, hr.ld (by omega), hw.ld (by omega)]
    simp only [Option.bind_some, alk]
    by_cases e : f (p + c) = g c
    · rw [if_pos e, nI_1, ih (c + 1) q (by omega) (by omega), show p + (c + 1) = p + c + 1 by omega]
      simp [e]
    · rw [if_neg e]
      obtain ⟨q, rfl⟩ : ∃ k, q = k + 1 := ⟨q - 1, by omega⟩
      rw [fX6_standsAt_24, if_pos rfl, ckZ_0]
      simp [e, bI]
theorem rm_stands (hr : RW ce r n f) (hw : RW ce w m g) (hp : p < 1000) (hfu : 1000 ≤ fu) : fX6_standsAt fu ce (nI r) (nI n) (nI w) (nI m) (nI p) = some (bI (stands f n g m p)) := by
  have h1 := hr.1
  have h2 := hw.1
  unfold fX6_standsAt
  rw [if_neg (nI_pos (by omega)), nI_add]
  by_cases h : n < p + m
  · rw [if_pos ((nI_ltI (by omega) (by omega)).mpr h), rm_stands_0 (by omega)]
    have : ¬ p + m ≤ n := by omega
    simp [stands, this, bI]
  · rw [if_neg (fun z => h ((nI_ltI (by omega) (by omega)).mp z)), i_0, i_1]
    have e := rm_stands_loop (fu := fu) hr hw (p := p) (by omega) m 0 fu (by omega) (by omega)
    rw [i_1] at e
    rw [e]
    have : p + m ≤ n := by omega
    simp [stands, this]
theorem rm_same (hr : RW ce r n f) (hw : RW ce w m g) (hfu : 1000 ≤ fu) : fX6_areSame fu ce (nI r) (nI n) (nI w) (nI m) = some (bI (decide (n = m) && alk f 0 g 0 m)) := by
  have h1 := hr.1
  have h2 := hw.1
  unfold fX6_areSame
  by_cases h : n = m
  · subst h
    have e0 := rm_stands (p := 0) hr hw (by omega) hfu
    rw [← i_0] at e0
    rw [if_pos rfl, e0]
    cases e : stands f n g n 0
    · have : alk f 0 g 0 n = false := by simpa [stands] using e
      simp [bI, this]
    · have : alk f 0 g 0 n = true := by simpa [stands] using e
      simp [bI, this]
  · rw [if_neg (fun z => h ((nI_eq (by omega) (by omega)).mp z))]
    simp [h, bI]
theorem rm_alike_loop (hr : RW ce r n f) (hw : RW ce w m g) : ∀ (d c q : Nat), c + d = min n m → d < q → fX6_alike_3 fu ce (nI r) (nI n) (nI w) (nI m) q (nI c) = some (nI (c + lcp f c g c d)) := by
  have h1 := hr.1
  have h2 := hw.1
  intro d
  induction d with
  | zero =>
    intro c q hc hq
    obtain ⟨q, rfl⟩ : ∃ k, q = k + 1 := ⟨q - 1, by omega⟩
    rw [fX6_alike_3]
    by_cases e : n ≤ c
    · rw [if_pos ((nI_leI (by omega) (by omega)).mpr e)]; rfl
    · rw [if_neg (fun z => e ((nI_leI (by omega) (by omega)).mp z)), if_pos ((nI_leI (by omega) (by omega)).mpr (by omega))]; rfl
  | succ d ih =>
    intro c q hc hq
    obtain ⟨q, rfl⟩ : ∃ k, q = k + 1 := ⟨q - 1, by omega⟩
    rw [fX6_alike_3, if_neg (fun z => by have := (nI_leI (by omega) (by omega)).mp z; omega), if_neg (fun z => by have := (nI_leI (by omega) (by omega)).mp z; omega), nI_add, nI_add, hr.ld (by omega), hw.ld (by omega)]
    simp only [Option.bind_some, lcp]
    by_cases e : f c = g c
    · rw [if_pos e, if_pos e, nI_1, ih (c + 1) q (by omega) (by omega)]
      congr 2
      omega
    · rw [if_neg e, if_neg e]; rfl
theorem rm_alike (hr : RW ce r n f) (hw : RW ce w m g) (hfu : 1000 ≤ fu) : fX6_alike fu ce (nI r) (nI n) (nI w) (nI m) = some (nI (lcp f 0 g 0 (min n m))) := by
  have h1 := hr.1
  unfold fX6_alike
  rw [i_0, rm_alike_loop hr hw (min n m) 0 fu (by omega) (by omega)]
  simp
/-- the order of two rows, as a number -/
def ordI (f : Nat → Int32) (n : Nat) (g : Nat → Int32) (m : Nat) : Int32 := if lcp f 0 g 0 (min n m) < min n m then f (lcp f 0 g 0 (min n m)) - g (lcp f 0 g 0 (min n m)) else nI n - nI m
theorem rm_order (hr : RW ce r n f) (hw : RW ce w m g) (hfu : 1000 ≤ fu) : fX6_order fu ce (nI r) (nI n) (nI w) (nI m) = some (ordI f n g m) := by
  have h1 := hr.1
  have h2 := hw.1
  have hl := lcp_le (f := f) (g := g) (a := 0) (b := 0) (m := min n m)
  unfold fX6_order ordI
  rw [rm_alike hr hw hfu]
  simp only [Option.bind_some]
  by_cases e : lcp f 0 g 0 (min n m) < min n m
  · rw [if_neg (fun z => by have := (nI_leI (by omega) (by omega)).mp z; omega), if_neg (fun z => by have := (nI_leI (by omega) (by omega)).mp z; omega), nI_add, nI_add, hr.ld (by omega), hw.ld (by omega), if_pos e]
    rfl
  · rw [if_neg e]
    by_cases e2 : n ≤ lcp f 0 g 0 (min n m)
    · rw [if_pos ((nI_leI (by omega) (by omega)).mpr e2)]
    · rw [if_neg (fun z => e2 ((nI_leI (by omega) (by omega)).mp z)), if_pos ((nI_leI (by omega) (by omega)).mpr (by omega))]
theorem rm_copy_loop {a b : Nat} (ha : a + m ≤ 900) (hb : b + m ≤ 900) (hd : a + m ≤ b ∨ b + m ≤ a) : ∀ (d c q : Nat) (ce : Nat → Int32), c + d = m → d < q → ∃ ce', fX6_copy_3 fu (nI a) (nI m) (nI b) q (nI c) ce = some ce' ∧ (∀ k, c ≤ k → k < m → ce' (b + k) = ce (a + k)) ∧ ∀ j, (j < b + c ∨ b + m ≤ j) → ce' j = ce j := by
  intro d
  induction d with
  | zero =>
    intro c q ce hc hq
    obtain ⟨q, rfl⟩ : ∃ k, q = k + 1 := ⟨q - 1, by omega⟩
    refine ⟨ce, ?_, fun k h1 h2 => by omega, fun j hj => rfl⟩
    rw [fX6_copy_3, if_pos ((nI_leI (by omega) (by omega)).mpr (by omega))]
  | succ d ih =>
    intro c q ce hc hq
    obtain ⟨q, rfl⟩ : ∃ k, q = k + 1 := ⟨q - 1, by omega⟩
    obtain ⟨ce', h1, h2, h3⟩ := ih (c + 1) q (updL ce (b + c) (ce (a + c))) (by omega) (by omega)
    refine ⟨ce', ?_, fun k k1 k2 => ?_, fun j hj => ?_⟩
    · rw [fX6_copy_3, if_neg (fun z => by have := (nI_leI (by omega) (by omega)).mp z; omega), nI_add, nI_add, ldA_nI (by omega) (by decide)]
      simp only [Option.bind_some]
      rw [stA_nI (by omega) (by decide)]
      simp only [Option.bind_some]
      rw [nI_1, h1]
    · by_cases e : k = c
      · subst e
        rw [h3 _ (by omega), upd_s]
      · rw [h2 k (by omega) k2, upd_n (by omega)]
    · rw [h3 j (by omega), upd_n (by omega)]
theorem rm_copy {a b : Nat} (ce : Nat → Int32) (ha : a + m ≤ 900) (hb : b + m ≤ 900) (hd : a + m ≤ b ∨ b + m ≤ a) (hfu : 1000 ≤ fu) : ∃ ce', fX6_copy fu ce (nI a) (nI m) (nI b) = some ce' ∧ (∀ k, k < m → ce' (b + k) = ce (a + k)) ∧ ∀ j, (j < b ∨ b + m ≤ j) → ce' j = ce j := by
  obtain ⟨ce', h1, h2, h3⟩ := rm_copy_loop (fu := fu) ha hb hd m 0 fu ce (by omega) (by omega)
  exact ⟨ce', h1, fun k hk => h2 k (by omega) hk, h3⟩
theorem RW.keep {ce' : Nat → Int32} (h : RW ce r n f) (hk : ∀ j, r ≤ j → j < r + n → ce' j = ce j) : RW ce' r n f := ⟨h.1, fun k hk2 => by rw [hk (r + k) (by omega) (by omega)]; exact h.2 k hk2⟩
theorem RM.keep {ce' : Nat → Int32} (h : RM ce sz N T) (hk : ∀ j, j < 360 → ce' j = ce j) : RM ce' sz N T := fun i hi => ⟨(h i hi).1, (h i hi).2.1, fun k hk2 => by rw [hk _ (by have := (h i hi).2.1; omega)]; exact (h i hi).2.2 k hk2⟩
theorem RM.congr {T' : Nat → Nat → Int32} (h : RM ce sz N T) (ht : ∀ i, i < 6 → ∀ k, k < N i → T i k = T' i k) : RM ce sz N T' := fun i hi => ⟨(h i hi).1, (h i hi).2.1, fun k hk => by rw [← ht i hi k hk]; exact (h i hi).2.2 k hk⟩
/-- a slot becomes a row -/
theorem rm_become {s : Nat} (h : RM ce sz N T) (hs : s < 6) (hr : RW ce r n f) (hn : n ≤ 60) (hr7 : r + n ≤ 750) (hfu : 1000 ≤ fu) : ∃ ce', fX6_become fu ce sz (nI s) (nI r) (nI n) = some (nI n, ce', updL sz s (nI n)) ∧ RM ce' (updL sz s (nI n)) (updL N s n) (updL T s f) := by
  obtain ⟨c1, a1, a2, a3⟩ := rm_copy (fu := fu) (m := n) (a := r) (b := 750) ce (by omega) (by omega) (by omega) hfu
  obtain ⟨c2, b1, b2, b3⟩ := rm_copy (fu := fu) (m := n) (a := 750) (b := 60 * s) c1 (by omega) (by omega) (by omega) hfu
  refine ⟨c2, ?_, fun i hi => ?_⟩
  · unfold fX6_become
    rw [i_750, a1]
    simp only [Option.bind_some, rm_base]
    rw [b1]
    simp only [Option.bind_some]
    rw [stA_nI hs (by decide)]
    rfl
  · have hN := (h i hi).2.1
    by_cases e : i = s
    · subst e
      rw [upd_s, upd_s, upd_s]
      exact ⟨rfl, hn, fun k hk => by rw [b2 k hk, a2 k hk, hr.2 k hk]⟩
    · rw [upd_n e, upd_n e, upd_n e]
      exact ⟨(h i hi).1, hN, fun k hk => by rw [b3 _ (by omega), a3 _ (by omega)]; exact (h i hi).2.2 k hk⟩
end MOD
