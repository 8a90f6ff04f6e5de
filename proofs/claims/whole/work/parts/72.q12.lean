/-! THE COMPARISON ways: the same sum, by ends and by begins -/
section QL
variable {ts : Nat → Int32} {tc tc0 : Nat → Nat → Int32} {ce sz : Nat → Int32} {N : Nat → Nat} {T : Nat → Nat → Int32} {i j s fu r : Nat} {th : Int32} {P : Nat → Bool} {ru wy : Nat → Int64}
def sm (f : Nat → Int64) : Nat → Int64
  | 0 => 0
  | n + 1 => sm f n + f n
theorem sm_congr {f g : Nat → Int64} : ∀ n, (∀ k, k < n → f k = g k) → sm f n = sm g n := by
  intro n
  induction n with
  | zero => intro _; rfl
  | succ n ih => intro h; rw [sm, sm, ih (fun k hk => h k (by omega)), h n (by omega)]
theorem sm_zero {f : Nat → Int64} : ∀ n, (∀ k, k < n → f k = 0) → sm f n = 0 := by
  intro n
  induction n with
  | zero => intro _; rfl
  | succ n ih => intro h; rw [sm, ih (fun k hk => h k (by omega)), h n (by omega), Int64.add_zero]
theorem sm_add {f g : Nat → Int64} : ∀ n, sm (fun k => f k + g k) n = sm f n + sm g n := by
  intro n
  induction n with
  | zero => rw [sm, sm, sm, Int64.add_zero]
  | succ n ih =>
    rw [sm, sm, sm, ih]
    rw [Int64.add_assoc, Int64.add_assoc, ← Int64.add_assoc (sm g n), ← Int64.add_assoc (f n), Int64.add_comm (sm g n) (f n)]
theorem sm_comm {F : Nat → Nat → Int64} : ∀ n m, sm (fun p => sm (F p) m) n = sm (fun j => sm (fun p => F p j) n) m := by
  intro n
  induction n with
  | zero => intro m; exact (sm_zero m (fun k hk => rfl)).symm
  | succ n ih =>
    intro m
    rw [sm, ih m, ← sm_add]
    rfl
theorem sm_one {f : Nat → Int64} {a : Nat} : ∀ n, a < n → (∀ k, k < n → k ≠ a → f k = 0) → sm f n = f a := by
  intro n
  induction n with
  | zero => intro h; omega
  | succ n ih =>
    intro h hz
    rw [sm]
    by_cases e : a = n
    · rw [e, sm_zero n (fun k hk => hz k (by omega) (by omega)), Int64.zero_add]
    · rw [ih (by omega) (fun k h1 h2 => hz k (by omega) h2), hz n (by omega) (by omega), Int64.add_zero]
/-- the slot j counts: its bit is set and it isn't empty -/
def usd (m : Int32) (N : Nat → Nat) (j : Nat) : Bool := decide (((m >>> (nI j &&& 31)) &&& (1 : Int32)) = (1 : Int32)) && decide (¬ N j = 0)
theorem usd_pos {m : Int32} (h : usd m N j = true) : 1 ≤ N j := by
  unfold usd at h
  rw [Bool.and_eq_true, decide_eq_true_iff, decide_eq_true_iff] at h
  omega
theorem us_C (h : TC ts tc N) (hj : j < 6) (m : Int32) : fX2_isUsed ts m (nI j) = some (bI (usd m N j)) := by
  have e := is_e h (lt7 hj)
  unfold fX2_isUsed usd
  by_cases b : ((m >>> (nI j &&& 31)) &&& (1 : Int32)) = (1 : Int32)
  · rw [decide_eq_true b, Bool.true_and]
    by_cases z : N j = 0
    · rw [if_pos z] at e
      rw [decide_eq_false (by omega)]
      exact ps b (bs (ldA_nI hj (by decide)) (bs e (ns i32_10 rfl)))
    · rw [if_neg z] at e
      rw [decide_eq_true z]
      exact ps b (bs (ldA_nI hj (by decide)) (bs e (ps rfl rfl)))
  · rw [decide_eq_false b, Bool.false_and]
    exact ns b rfl
theorem us_M (h : RM ce sz N T) (hj : j < 6) (m : Int32) : fX6_isOf sz m (nI j) = some (bI (usd m N j)) := by
  have hN := (h j hj).2.1
  unfold fX6_isOf usd
  by_cases b : ((m >>> (nI j &&& 31)) &&& (1 : Int32)) = (1 : Int32)
  · rw [decide_eq_true b, Bool.true_and]
    by_cases z : N j = 0
    · rw [decide_eq_false (by omega)]
      exact ps b (bs (h.len hj) (ps (by rw [z]; decide) rfl))
    · rw [decide_eq_true z]
      exact ps b (bs (h.len hj) (ns (fun y => by rw [i_0] at y; have := (nI_leI (by omega) (by omega)).mp y; omega) rfl))
  · rw [decide_eq_false b, Bool.false_and]
    exact ns b rfl
/-- the word of slot j counts and stands at p -/
def act (m : Int32) (N : Nat → Nat) (T : Nat → Nat → Int32) (i j p : Nat) : Bool := usd m N j && stands (T i) (N i) (T j) (N j) p
/-- what the slot j adds to the ways up to x -/
def fc (m : Int32) (N : Nat → Nat) (T : Nat → Nat → Int32) (i : Nat) (R : Nat → Int64) (x j : Nat) : Int64 := if N j ≤ x ∧ act m N T i j (x - N j) = true then R (x - N j) else 0
def Rf (m : Int32) (N : Nat → Nat) (T : Nat → Nat → Int32) (i : Nat) : Nat → Nat → Int64
  | 0 => fun k => if k = 0 then 1 else 0
  | L + 1 => updL (Rf m N T i L) (L + 1) (sm (fc m N T i (Rf m N T i L) (L + 1)) 6)
def Rw (m : Int32) (N : Nat → Nat) (T : Nat → Nat → Int32) (i k : Nat) : Int64 := Rf m N T i k k
theorem Rf_le {m : Int32} : ∀ (d k : Nat), Rf m N T i (k + d) k = Rw m N T i k := by
  intro d
  induction d with
  | zero => intro k; rfl
  | succ d ih =>
    intro k
    show updL (Rf m N T i (k + d)) (k + d + 1) _ k = _
    rw [upd_n (by omega)]
    exact ih k
theorem Rw_is {m : Int32} {x : Nat} (hx : 1 ≤ x) : Rw m N T i x = sm (fc m N T i (Rw m N T i) x) 6 := by
  obtain ⟨L, rfl⟩ : ∃ L, x = L + 1 := ⟨x - 1, by omega⟩
  show updL (Rf m N T i L) (L + 1) (sm (fc m N T i (Rf m N T i L) (L + 1)) 6) (L + 1) = _
  rw [upd_s]
  refine sm_congr 6 (fun j hj => ?_)
  unfold fc
  by_cases c : N j ≤ L + 1 ∧ act m N T i j (L + 1 - N j) = true
  · rw [if_pos c, if_pos c]
    have h1 : 1 ≤ N j := by
      have := c.2
      unfold act at this
      rw [Bool.and_eq_true] at this
      exact usd_pos this.1
    have := Rf_le (m := m) (N := N) (T := T) (i := i) (N j - 1) (L + 1 - N j)
    rw [show L + 1 - N j + (N j - 1) = L by omega] at this
    exact this
  · rw [if_neg c, if_neg c]
theorem Rw_0 {m : Int32} : Rw m N T i 0 = 1 := rfl
theorem i_61 : (61 : Int32) = nI 61 := rfl
theorem rowsTo_C {ru : Nat → Int64} {k : Nat} (hk : k < 61) : fX2_rowsTo ru (nI k) = some (ru k) := ns (nI_pos (by omega)) (ps (by rw [i_61]; exact (nI_ltI (by omega) (by omega)).mpr hk) (bs (ldA_nI hk (by decide)) rfl))
/-- ahead of a text no word of it stands: there is no sign 0 -/
theorem hasAt_neg (h : TC ts tc N) (hi : i < 6) (hj : j < 6) {L : Nat} (hL : L ≤ N i) (hlt : L < N j) (hz : ¬ (0 : Int32) = tc j 0) (hfu : 1000 ≤ fu) : fX4_hasAt fu ts tc i (nI L - nI (N j)) j = some 0 := by
  have hNi := (h i (lt7 hi)).2.1
  have hNj := (h j (lt7 hj)).2.1
  have hd : (nI L - nI (N j)).toInt = (L : Int) - (N j : Int) := pk_sub_toInt (by omega) (by omega)
  have neg : nI L - nI (N j) < 0 := by
    rw [Int32.lt_iff_toInt_lt, hd, show (0 : Int32).toInt = 0 from rfl]
    omega
  have s1 : fX4_signOn ts tc i (nI L - nI (N j) + 0) = some 0 := by
    rw [Int32.add_zero]
    exact ps neg rfl
  have s2 : fX4_signOn ts tc j (0 + 0) = some (tc j 0) := by
    rw [Int32.add_zero]
    exact tx_sign h (lt7 hj) (k := 0) (by omega)
  have x1 : (ts i - (nI L - nI (N j))).toInt = (N i : Int) - ((L : Int) - (N j : Int)) := by
    rw [(h i (lt7 hi)).1, Int32.toInt_sub, hd, nI_toInt (by omega), Int.bmod_eq_of_le (by omega) (by omega)]
  have x2 : (ts j - 0).toInt = (N j : Int) := by
    rw [(h j (lt7 hj)).1, Int32.sub_zero, nI_toInt (by omega)]
  have m0 : ¬ miI (ts i - (nI L - nI (N j))) (ts j - 0) ≤ 0 := by
    unfold miI
    split
    · rw [Int32.le_iff_toInt_le, x2, show (0 : Int32).toInt = 0 from rfl]
      omega
    · rw [Int32.le_iff_toInt_le, x1, show (0 : Int32).toInt = 0 from rfl]
      omega
  have al : fX4_alike fu ts tc i (nI L - nI (N j)) j 0 = some 0 := by
    obtain ⟨q, e⟩ : ∃ k, fu = k + 1 := ⟨fu - 1, by omega⟩
    have st : fX4_alike_20 fu ts tc i (nI L - nI (N j)) j 0 (miI (ts i - (nI L - nI (N j))) (ts j - 0)) (q + 1) 0 = some 0 := by
      rw [fX4_alike_20]
      exact ns m0 (bs s1 (bs s2 (ns hz rfl)))
    rw [← e] at st
    exact st
  unfold fX4_hasAt
  exact bs al (ns (fun z => by rw [(h j (lt7 hj)).1, i_0] at z; have := (nI_eq (by omega) (by omega)).mp z; omega) rfl)
theorem wc_in (h : TC ts tc N) (hs : ∀ i, i < 6 → ∀ k, k < N i → 32 ≤ (tc i k).toInt ∧ (tc i k).toInt ≤ 126) (hi : i < 6) (hfu : 1000 ≤ fu) {m : Int32} {L : Nat} (hL : 1 ≤ L) (hLn : L ≤ N i) {K : Int32 → (Nat → Int64) → Option (Int64 × (Nat → Int64))} (hru : ∀ k, k < L → ru k = Rw m N tc i k) : ∀ (d j q : Nat), j + d = 6 → d < q → fX2_countRows_35 fu ts tc i m (nI L) K q (sm (fc m N tc i (Rw m N tc i) L) j) (nI j) ru = K (nI (L + 1)) (updL ru L (Rw m N tc i L)) := by
  intro d
  have hNi := (h i (lt7 hi)).2.1
  induction d with
  | zero =>
    intro j q hj hq
    obtain ⟨q, rfl⟩ : ∃ k, q = k + 1 := ⟨q - 1, by omega⟩
    obtain rfl : j = 6 := by omega
    rw [fX2_countRows_35, ← Rw_is hL, ← nI_1 L]
    exact ps (by rw [i_6]; exact (nI_leI (by omega) (by omega)).mpr (by omega)) (bs (stA_nI (by omega) (by decide)) rfl)
  | succ d ih =>
    intro j q hj hq
    obtain ⟨q, rfl⟩ : ∃ k, q = k + 1 := ⟨q - 1, by omega⟩
    have hj6 : j < 6 := by omega
    have hNj := (h j (lt7 hj6)).2.1
    have h2 := ih (j + 1) q (by omega) (by omega)
    rw [← nI_1, sm] at h2
    rw [fX2_countRows_35]
    have hle : ¬ 6 ≤ nI j := fun z => by rw [i_6] at z; have := (nI_leI (by omega) (by omega)).mp z; omega
    have us := us_C h hj6 m
    have fz : ¬ (N j ≤ L ∧ act m N tc i j (L - N j) = true) → fX2_countRows_35 fu ts tc i m (nI L) K q (sm (fc m N tc i (Rw m N tc i) L) j) (nI j + 1) ru = K (nI (L + 1)) (updL ru L (Rw m N tc i L)) := fun c => by
      have e : fc m N tc i (Rw m N tc i) L j = 0 := by unfold fc; rw [if_neg c]
      rw [e, Int64.add_zero] at h2
      exact h2
    cases u : usd m N j with
    | false =>
      rw [u] at us
      exact ns hle (bs (ldA_nI hj6 (by decide)) (bs (tx_size h (lt7 hj6)) (bs us (ps rfl (fz (fun c => by unfold act at c; rw [u, Bool.false_and] at c; cases c.2))))))
    | true =>
      rw [u] at us
      by_cases c : L < N j
      · have hz : ¬ (0 : Int32) = tc j 0 := fun z => by
          have := (hs j hj6 0 (by omega)).1
          rw [← z] at this
          exact absurd this (by decide)
        exact ns hle (bs (ldA_nI hj6 (by decide)) (bs (tx_size h (lt7 hj6)) (bs us (ns i32_10 (bs (ldA_nI hj6 (by decide)) (bs (hasAt_neg h hi hj6 hLn c hz hfu) (ps rfl (fz (fun c => by omega)))))))))
      · have ha : fX4_hasAt fu ts tc i (nI L - nI (N j)) j = some (bI (stands (tc i) (N i) (tc j) (N j) (L - N j))) := by
          rw [nI_sub (by omega)]
          exact tx_hasAt h (lt7 hi) (lt7 hj6) (by omega) hfu
        cases b : stands (tc i) (N i) (tc j) (N j) (L - N j) with
        | false =>
          rw [b] at ha
          exact ns hle (bs (ldA_nI hj6 (by decide)) (bs (tx_size h (lt7 hj6)) (bs us (ns i32_10 (bs (ldA_nI hj6 (by decide)) (bs ha (ps rfl (fz (fun c => by unfold act at c; rw [b, Bool.and_false] at c; cases c.2)))))))))
        | true =>
          rw [b] at ha
          have h1 := usd_pos u
          have e : fc m N tc i (Rw m N tc i) L j = Rw m N tc i (L - N j) := by unfold fc act; rw [if_pos ⟨by omega, by rw [u, b]; rfl⟩]
          rw [e, ← hru _ (by omega)] at h2
          have hl : fX2_rowsTo ru (nI L - nI (N j)) = some (ru (L - N j)) := by rw [nI_sub (by omega)]; exact rowsTo_C (by omega)
          exact ns hle (bs (ldA_nI hj6 (by decide)) (bs (tx_size h (lt7 hj6)) (bs us (ns i32_10 (bs (ldA_nI hj6 (by decide)) (bs ha (ns i32_10 (bs hl h2))))))))
theorem wc_fin (h : TC ts tc N) (hi : i < 6) {ru : Nat → Int64} : fX2_countRows_109 fu ts tc i ru = some (ru (N i), ru) := by
  have hNi := (h i (lt7 hi)).2.1
  unfold fX2_countRows_109
  exact bs (tx_size h (lt7 hi)) (bs (rowsTo_C (by omega)) rfl)
theorem wc_out (h : TC ts tc N) (hs : ∀ i, i < 6 → ∀ k, k < N i → 32 ≤ (tc i k).toInt ∧ (tc i k).toInt ≤ 126) (hi : i < 6) (hfu : 1000 ≤ fu) {m : Int32} : ∀ (d L q : Nat) (ru : Nat → Int64), 1 ≤ L → L + d = N i + 1 → d < q → (∀ k, k < L → ru k = Rw m N tc i k) → ∃ ru', fX2_countRows_10 fu ts tc i m q (nI L) ru = some (Rw m N tc i (N i), ru') := by
  intro d
  have hNi := (h i (lt7 hi)).2.1
  induction d with
  | zero =>
    intro L q ru hL hd hq hru
    obtain ⟨q, rfl⟩ : ∃ k, q = k + 1 := ⟨q - 1, by omega⟩
    refine ⟨ru, ?_⟩
    rw [fX2_countRows_10, ← hru (N i) (by omega)]
    exact bs (tx_size h (lt7 hi)) (ps ((nI_ltI (by omega) (by omega)).mpr (by omega)) (wc_fin h hi))
  | succ d ih =>
    intro L q ru hL hd hq hru
    obtain ⟨q, rfl⟩ : ∃ k, q = k + 1 := ⟨q - 1, by omega⟩
    obtain ⟨ru', h2⟩ := ih (L + 1) q (updL ru L (Rw m N tc i L)) (by omega) (by omega) (by omega) (fun k hk => by
      by_cases e : k = L
      · rw [e, upd_s]
      · rw [upd_n e]; exact hru k (by omega))
    refine ⟨ru', ?_⟩
    have h1 := wc_in (fu := fu) (ru := ru) (K := fX2_countRows_10 fu ts tc i m q) h hs hi hfu hL (by omega) hru 6 0 fu (by omega) (by omega)
    rw [fX2_countRows_10]
    exact bs (tx_size h (lt7 hi)) (ns (fun z => by have := (nI_ltI (by omega) (by omega)).mp z; omega) (ns (fun z => by rw [i_61] at z; have := (nI_leI (by omega) (by omega)).mp z; omega) (h1.trans h2)))
/-- what the word of slot j, begun at p, adds to the cell x -/
def tm (m : Int32) (N : Nat → Nat) (T : Nat → Nat → Int32) (i p x j : Nat) : Int64 := if act m N T i j p = true ∧ p + N j = x then Rw m N T i p else 0
/-- the cell x behind all begins below p, and behind the slots below j at p -/
def cellW (m : Int32) (N : Nat → Nat) (T : Nat → Nat → Int32) (i p j x : Nat) : Int64 := (if x = 0 then 1 else 0) + sm (fun p' => sm (tm m N T i p' x) 6) p + sm (tm m N T i p x) j
theorem act_pos {m : Int32} {p : Nat} (h : act m N T i j p = true) : 1 ≤ N j ∧ p + N j ≤ N i := by
  unfold act at h
  rw [Bool.and_eq_true] at h
  exact ⟨usd_pos h.1, (stands_iff.mp h.2).1⟩
theorem cell_done {m : Int32} {x j : Nat} : cellW m N T i x j x = Rw m N T i x := by
  unfold cellW
  have h1 : sm (tm m N T i x x) j = 0 := sm_zero j (fun k _ => by
    unfold tm
    rw [if_neg]
    rintro ⟨a, b⟩
    have := (act_pos a).1
    omega)
  rw [h1, Int64.add_zero]
  by_cases z : x = 0
  · rw [z, sm, if_pos rfl, Int64.add_zero]; rfl
  · rw [if_neg z, Int64.zero_add, Rw_is (by omega), sm_comm]
    refine sm_congr 6 (fun j _ => ?_)
    unfold fc
    by_cases c : N j ≤ x ∧ act m N T i j (x - N j) = true
    · rw [if_pos c]
      have := (act_pos c.2).1
      rw [sm_one (a := x - N j) x (by omega) (fun k h1 h2 => by unfold tm; rw [if_neg]; rintro ⟨_, b⟩; omega)]
      unfold tm
      rw [if_pos ⟨c.2, by omega⟩]
    · rw [if_neg c]
      refine sm_zero x (fun k hk => ?_)
      unfold tm
      rw [if_neg]
      rintro ⟨a, b⟩
      exact c ⟨by omega, by rw [show x - N j = k by omega]; exact a⟩
theorem wm_in (h : RM ce sz N T) (hi : i < 6) (hfu : 1000 ≤ fu) {m : Int32} {p : Nat} (hp : p < N i) {K : Int32 → Int32 → (Nat → Int64) → Option (Int64 × Int32 × (Nat → Int64))} : ∀ (d j q : Nat) (wy : Nat → Int64), j + d = 6 → d < q → (∀ x, x ≤ 120 → wy x = cellW m N T i p j x) → ∃ wy', (∀ x, x ≤ 120 → wy' x = cellW m N T i (p + 1) 0 x) ∧ fX6_ways_79 fu ce sz (nI i) m (nI p) K q (nI j) th wy = K (nI (p + 1)) th wy' := by
  intro d
  have hNi := (h i hi).2.1
  induction d with
  | zero =>
    intro j q wy hj hq hw
    obtain ⟨q, rfl⟩ : ∃ k, q = k + 1 := ⟨q - 1, by omega⟩
    obtain rfl : j = 6 := by omega
    refine ⟨wy, fun x hx => ?_, ?_⟩
    · rw [hw x hx]
      unfold cellW
      rw [show sm (tm m N T i (p + 1) x) 0 = 0 from rfl, Int64.add_zero, show sm (fun p' => sm (tm m N T i p' x) 6) (p + 1) = sm (fun p' => sm (tm m N T i p' x) 6) p + sm (tm m N T i p x) 6 from rfl, Int64.add_assoc]
    · rw [fX6_ways_79, ← nI_1 p]
      exact ps (by rw [i_6]; exact (nI_leI (by omega) (by omega)).mpr (by omega)) rfl
  | succ d ih =>
    intro j q wy hj hq hw
    obtain ⟨q, rfl⟩ : ∃ k, q = k + 1 := ⟨q - 1, by omega⟩
    have hj6 : j < 6 := by omega
    have hNj := (h j hj6).2.1
    have hle : ¬ 6 ≤ nI j := fun z => by rw [i_6] at z; have := (nI_leI (by omega) (by omega)).mp z; omega
    have us := us_M h hj6 m
    have st := rm_stands (fu := fu) (h.rw hi) (h.rw hj6) (show p < 1000 by omega) hfu
    have same : act m N T i j p = false → ∃ wy', (∀ x, x ≤ 120 → wy' x = cellW m N T i (p + 1) 0 x) ∧ fX6_ways_79 fu ce sz (nI i) m (nI p) K q (nI j + 1) th wy = K (nI (p + 1)) th wy' := fun a => by
      obtain ⟨wy', w1, w2⟩ := ih (j + 1) q wy (by omega) (by omega) (fun x hx => by
        rw [hw x hx]
        unfold cellW
        have e : tm m N T i p x j = 0 := by unfold tm; rw [if_neg (by rw [a]; rintro ⟨z, _⟩; cases z)]
        rw [sm, e, Int64.add_zero])
      rw [← nI_1] at w2
      exact ⟨wy', w1, w2⟩
    cases u : usd m N j with
    | false =>
      rw [u] at us
      obtain ⟨wy', w1, w2⟩ := same (by unfold act; rw [u]; rfl)
      refine ⟨wy', w1, ?_⟩
      rw [fX6_ways_79]
      exact ns hle (bs us (ps rfl w2))
    | true =>
      rw [u] at us
      cases b : stands (T i) (N i) (T j) (N j) p with
      | false =>
        rw [b] at st
        obtain ⟨wy', w1, w2⟩ := same (by unfold act; rw [b, Bool.and_false])
        refine ⟨wy', w1, ?_⟩
        rw [fX6_ways_79]
        exact ns hle (bs us (ns i32_10 (bs rm_base (bs (h.len hi) (bs rm_base (bs (h.len hj6) (bs st (ps rfl w2))))))))
      | true =>
        rw [b] at st
        have ha : act m N T i j p = true := by unfold act; rw [u, b]; rfl
        have hpl := act_pos ha
        obtain ⟨wy', w1, w2⟩ := ih (j + 1) q (updL wy (p + N j) (wy (p + N j) + wy p)) (by omega) (by omega) (fun x hx => by
          have hp' := hw p (by omega)
          rw [cell_done] at hp'
          by_cases e : x = p + N j
          · rw [e, upd_s, hw (p + N j) (by omega), hp']
            unfold cellW
            have e2 : tm m N T i p (p + N j) j = Rw m N T i p := by unfold tm; rw [if_pos ⟨ha, rfl⟩]
            rw [sm, e2, Int64.add_assoc]
          · rw [upd_n e, hw x hx]
            unfold cellW
            have e2 : tm m N T i p x j = 0 := by unfold tm; rw [if_neg (by rintro ⟨_, z⟩; omega)]
            rw [sm, e2, Int64.add_zero])
        refine ⟨wy', w1, ?_⟩
        rw [← nI_1] at w2
        have l1 : ldA wy 121 (nI p + nI (N j)) = some (wy (p + N j)) := by rw [nI_add]; exact ldA_nI (by omega) (by decide)
        have l2 : stA wy 121 (nI p + nI (N j)) (wy (p + N j) + wy p) = some (updL wy (p + N j) (wy (p + N j) + wy p)) := by rw [nI_add]; exact stA_nI (by omega) (by decide)
        rw [fX6_ways_79]
        exact ns hle (bs us (ns i32_10 (bs rm_base (bs (h.len hi) (bs rm_base (bs (h.len hj6) (bs st (ns i32_10 (bs (h.len hj6) (bs l1 (bs (ldA_nI (by omega) (by decide)) (bs l2 w2))))))))))))
theorem wm_out (h : RM ce sz N T) (hi : i < 6) (hfu : 1000 ≤ fu) {m : Int32} : ∀ (d p q : Nat) (wy : Nat → Int64), p + d = N i → d < q → (∀ x, x ≤ 120 → wy x = cellW m N T i p 0 x) → ∃ wy', fX6_ways_66 fu ce sz (nI i) m q (nI p) th wy = some (Rw m N T i (N i), th, wy') := by
  intro d
  have hNi := (h i hi).2.1
  induction d with
  | zero =>
    intro p q wy hp hq hw
    obtain ⟨q, rfl⟩ : ∃ k, q = k + 1 := ⟨q - 1, by omega⟩
    obtain rfl : p = N i := by omega
    have e := hw (N i) (by omega)
    rw [cell_done] at e
    refine ⟨wy, ?_⟩
    rw [fX6_ways_66, ← e]
    exact bs (h.len hi) (ps ((nI_leI (by omega) (by omega)).mpr (by omega)) (bs (h.len hi) (bs (ldA_nI (by omega) (by decide)) rfl)))
  | succ d ih =>
    intro p q wy hp hq hw
    obtain ⟨q, rfl⟩ : ∃ k, q = k + 1 := ⟨q - 1, by omega⟩
    obtain ⟨wa, w1, w2⟩ := wm_in (fu := fu) (th := th) (K := fX6_ways_66 fu ce sz (nI i) m q) h hi hfu (show p < N i by omega) 6 0 fu wy (by omega) (by omega) hw
    obtain ⟨wb, w3⟩ := ih (p + 1) q wa (by omega) (by omega) w1
    refine ⟨wb, ?_⟩
    rw [fX6_ways_66]
    exact bs (h.len hi) (ns (fun z => by have := (nI_leI (by omega) (by omega)).mp z; omega) (w2.trans w3))
theorem wm_init {m y1 : Int32} (hfu : 1000 ≤ fu) : ∀ (d k q : Nat) (wy : Nat → Int64), k + d = 121 → d < q → (∀ x, x < k → wy x = if x = 0 then 1 else 0) → ∃ wy', (∀ x, x ≤ 120 → wy' x = if x = 0 then 1 else 0) ∧ fX6_ways_37 fu ce sz y1 m q (nI k) th wy = fX6_ways_66 fu ce sz y1 m fu 0 th wy' := by
  intro d
  have e120 : (120 : Int32) = nI 120 := rfl
  induction d with
  | zero =>
    intro k q wy hk hq hw
    obtain ⟨q, rfl⟩ : ∃ k, q = k + 1 := ⟨q - 1, by omega⟩
    refine ⟨wy, fun x hx => hw x (by omega), ?_⟩
    rw [fX6_ways_37]
    exact ps (by rw [e120]; exact (nI_ltI (by omega) (by omega)).mpr (by omega)) rfl
  | succ d ih =>
    intro k q wy hk hq hw
    obtain ⟨q, rfl⟩ : ∃ k, q = k + 1 := ⟨q - 1, by omega⟩
    obtain ⟨wy', w1, w2⟩ := ih (k + 1) q (updL wy k (if k = 0 then 1 else 0)) (by omega) (by omega) (fun x hx => by
      by_cases e : x = k
      · rw [e, upd_s]
      · rw [upd_n e]; exact hw x (by omega))
    refine ⟨wy', w1, ?_⟩
    rw [← nI_1] at w2
    have hlt : ¬ 120 < nI k := fun z => by rw [e120] at z; have := (nI_ltI (by omega) (by omega)).mp z; omega
    rw [fX6_ways_37]
    have z0 := nI_eq0 (show k < 2 ^ 31 by omega)
    by_cases z : k = 0
    · rw [if_pos z] at w2
      exact ns hlt (ps (z0.mpr z) (bs (stA_nI (by omega) (by decide)) w2))
    · rw [if_neg z] at w2
      exact ns hlt (ns (fun y => z (z0.mp y)) (bs (stA_nI (by omega) (by decide)) w2))
theorem set_C (x : Int32) : fX5_requireSet x = some (if 0 ≤ x.toInt ∧ x.toInt ≤ 63 then .ok () else .error "java/lang/IllegalArgumentException") := by
  have h1 : x < 0 ↔ x.toInt < 0 := by rw [Int32.lt_iff_toInt_lt, show (0 : Int32).toInt = 0 from rfl]
  have h2 : x ≤ 63 ↔ x.toInt ≤ 63 := by rw [Int32.le_iff_toInt_le, show (63 : Int32).toInt = 63 from rfl]
  unfold fX5_requireSet
  by_cases a : x < 0
  · rw [if_pos a, if_neg (fun z => by have := h1.mp a; omega)]
  · rw [if_neg a]
    have a' : ¬ x.toInt < 0 := fun z => a (h1.mpr z)
    by_cases b : x ≤ 63
    · rw [if_pos b, if_pos ⟨by omega, h2.mp b⟩]
    · rw [if_neg b, if_neg (fun z => b (h2.mpr z.2))]
theorem set_M (x : Int32) : fX6_isIn x.toInt64 0 63 = some (bI (decide (0 ≤ x.toInt ∧ x.toInt ≤ 63))) := by
  have hin := mo_isInI x 0 63
  rw [show (0 : Int64).toInt = 0 from rfl, show (63 : Int64).toInt = 63 from rfl] at hin
  exact hin
end QL
theorem q_ways {fu : Nat} {ts : Nat → Int32} {tc : Nat → Nat → Int32} {ru : Nat → Int64} {ol : Nat → Int64} {ce : Nat → Int32} {sz : Nat → Int32} {th : Int32} {wy : Nat → Int64} {N : Nat → Nat} (I : INV ts tc ce sz N) (hfu : 2000 ≤ fu) (x1 x2 : Int32) : ∃ (k : Int32) (ru' : Nat → Int64) (g : Nat → Int64) (b : Int64) (t : Int32) (wy' : Nat → Int64), fL_ways fu ts tc ru ol x1 x2 = some (k, ru', g) ∧ fX6_ways fu th ce sz wy x1 x2 = some (b, t, wy') ∧ t = k ∧ (k = 0 → g 0 = b) ∧ ∃ N', INV ts tc ce sz N' := by
  rcases slots x1 with ⟨j1, h1, rfl⟩ | ⟨b1, b2⟩
  · have hN1 := (I.1 j1 (by omega)).2.1
    have sC := set_C x2
    have sM := set_M x2
    by_cases b : 0 ≤ x2.toInt ∧ x2.toInt ≤ 63
    · rw [if_pos b] at sC
      rw [decide_eq_true b] at sM
      obtain ⟨ru', c1⟩ := wc_out (fu := fu) (m := x2) I.1 I.2.2 h1 (by omega) (N j1) 1 fu (updL ru 0 1) (Nat.le_refl _) (by omega) (by omega) (fun k hk => by rw [show k = 0 by omega, upd_s]; rfl)
      obtain ⟨wa, w1, w2⟩ := wm_init (fu := fu) (ce := ce) (sz := sz) (th := 0) (m := x2) (y1 := nI j1) (by omega) 121 0 fu wy (by omega) (by omega) (fun x hx => by omega)
      obtain ⟨wb, w3⟩ := wm_out (fu := fu) (th := 0) (m := x2) I.2.1 h1 (by omega) (N j1) 0 fu wa (by omega) (by omega) (fun x hx => by rw [w1 x hx]; unfold cellW; rw [sm, sm, Int64.add_zero, Int64.add_zero])
      have cc : fX2_countRows fu ts tc ru j1 x2 = some (Rw x2 N tc j1 (N j1), ru') := bs (stA_nI (k := 0) (by decide) (by decide)) (c1)
      exact ⟨0, ru', _, _, 0, wb, wo_ways (bs (sl_ok h1) (es (bs (sC) (es (bs (cc) (rfl)))))), bs (sl_no h1 _) (ps (rfl) (bs (sM) (ns (i32_10) (show fX6_ways_26 fu ce sz (nI j1) x2 0 0 wy = _ from bs (mo_thrown0 _ _) (ps (rfl) (w2.trans w3)))))), rfl, fun _ => upd_s, N, I⟩
    · rw [if_neg b] at sC
      rw [decide_eq_false b] at sM
      exact ⟨2, ru, ol, 0, 2, wy, we_ways_2 (bs (sl_ok h1) (es (bs (sC) (er (rfl))))), bs (sl_no h1 _) (ps (rfl) (bs (sM) (ps (rfl) (show fX6_ways_26 fu ce sz (nI j1) x2 1 0 wy = _ from bs (mo_thrown1 _ _) (ns (i32_10) (rfl)))))), rfl, fun h => absurd h (by decide), N, I⟩
  · exact ⟨1, ru, ol, 0, 1, wy, we_ways_1 (bs (b1) (er (rfl))), by simp [fX6_ways, fX6_isNoOf, fX6_isNoOfAll, fX6_isNoPlace, b2], rfl, fun h => absurd h (by decide), N, I⟩
