/-! THE COMPARISONS of turns: turnTo, turnings, leastTurn -/
section QH
variable {ts : Nat → Int32} {tc tc0 : Nat → Nat → Int32} {ce sz : Nat → Int32} {N : Nat → Nat} {T : Nat → Nat → Int32} {i j s fu : Nat} {th : Int32} {f g F : Nat → Int32} {P : Nat → Bool}
/-- turned at b, f is g -/
def trn (f : Nat → Int32) (n : Nat) (g : Nat → Int32) (m b : Nat) : Bool := decide (n = m) && alk (turnF f n b) 0 g 0 m
theorem trn_iff {n m b : Nat} : trn f n g m b = true ↔ n = m ∧ ∀ k, k < n → turnF f n b k = g k := by
  unfold trn
  rw [Bool.and_eq_true, decide_eq_true_iff, alk_iff]
  constructor
  · rintro ⟨h1, h2⟩
    subst h1
    exact ⟨rfl, fun k hk => by have := h2 k hk; rw [Nat.zero_add] at this; exact this⟩
  · rintro ⟨h1, h2⟩
    subst h1
    exact ⟨rfl, fun k hk => by rw [Nat.zero_add]; exact h2 k hk⟩
theorem tx_turned (h : TC ts tc N) (hi : i < 7) (hj : j < 7) {b : Nat} (hb : b ≤ N i) (hfu : 1000 ≤ fu) : fX4_isTurnedTo fu ts tc i (nI b) j = some (bI (trn (tc i) (N i) (tc j) (N j) b)) := by
  have hNi := (h i hi).2.1
  have hNj := (h j hj).2.1
  have ei := (h i hi).1
  have ej := (h j hj).1
  unfold fX4_isTurnedTo
  rw [ei, ej]
  by_cases e : N i = N j
  · have a1 := tx_alike (fu := fu) (a := b) (b := 0) h hi hj hb (by omega) (by omega)
    have a2 := tx_alike (fu := fu) (a := N i - b) (b := 0) h hj hi (by omega) (by omega) (by omega)
    rw [Nat.sub_zero, ← i_0] at a1 a2
    have l1 := lcp_le (f := tc i) (g := tc j) (a := b) (b := 0) (m := min (N i - b) (N j))
    have l2 := lcp_le (f := tc j) (g := tc i) (a := N i - b) (b := 0) (m := min (N j - (N i - b)) (N i))
    have m1 : min (N i - b) (N j) = N i - b := by omega
    have m2 : min (N j - (N i - b)) (N i) = b := by omega
    rw [m1] at a1 l1
    rw [m2] at a2 l2
    rw [← nI_sub hb] at a2
    have w1 : nI (lcp (tc i) b (tc j) 0 (N i - b)) = nI (N i) - nI b ↔ lcp (tc i) b (tc j) 0 (N i - b) = N i - b := by rw [nI_sub hb]; exact nI_eq (by omega) (by omega)
    have w2 : nI (lcp (tc j) (N i - b) (tc i) 0 b) = nI b ↔ lcp (tc j) (N i - b) (tc i) 0 b = b := nI_eq (by omega) (by omega)
    have key : trn (tc i) (N i) (tc j) (N j) b = true ↔ lcp (tc i) b (tc j) 0 (N i - b) = N i - b ∧ lcp (tc j) (N i - b) (tc i) 0 b = b := by
      rw [trn_iff, alk_lcp, alk_lcp, alk_iff, alk_iff]
      constructor
      · rintro ⟨_, h2⟩
        refine ⟨fun k hk => ?_, fun k hk => ?_⟩
        · have := h2 k (by omega)
          unfold turnF at this
          rw [if_pos hk] at this
          rw [Nat.zero_add]; exact this
        · have := h2 (N i - b + k) (by omega)
          unfold turnF at this
          rw [if_neg (by omega), show N i - b + k - (N i - b) = k by omega] at this
          rw [Nat.zero_add]; exact this.symm
      · rintro ⟨h1, h2⟩
        refine ⟨e, fun k hk => ?_⟩
        unfold turnF
        by_cases z : k < N i - b
        · rw [if_pos z]; have := h1 k z; rw [Nat.zero_add] at this; exact this
        · rw [if_neg z]
          have := h2 (k - (N i - b)) (by omega)
          rw [Nat.zero_add, show N i - b + (k - (N i - b)) = k by omega] at this
          exact this.symm
    by_cases b1 : lcp (tc i) b (tc j) 0 (N i - b) = N i - b
    · by_cases b2 : lcp (tc j) (N i - b) (tc i) 0 b = b
      · rw [key.mpr ⟨b1, b2⟩]
        exact ps (by rw [e]) (bs a1 (ps (w1.mpr b1) (bs a2 (ps (w2.mpr b2) rfl))))
      · have : trn (tc i) (N i) (tc j) (N j) b = false := Bool.eq_false_iff.mpr (fun z => b2 (key.mp z).2)
        rw [this]
        exact ps (by rw [e]) (bs a1 (ps (w1.mpr b1) (bs a2 (ns (fun z => b2 (w2.mp z)) rfl))))
    · have : trn (tc i) (N i) (tc j) (N j) b = false := Bool.eq_false_iff.mpr (fun z => b1 (key.mp z).1)
      rw [this]
      exact ps (by rw [e]) (bs a1 (ns (fun z => b1 (w1.mp z)) rfl))
  · have : trn (tc i) (N i) (tc j) (N j) b = false := Bool.eq_false_iff.mpr (fun z => e (trn_iff.mp z).1)
    rw [this]
    exact ns (fun z => e ((nI_eq (by omega) (by omega)).mp z)) rfl
theorem tt_C (I : INV ts tc ce sz N) (hi : i < 6) (hj : j < 6) (hfu : 1000 ≤ fu) : ∀ (d p q : Nat), p + d = N i + 1 → d < q → fX5_turnTo_16 fu ts tc i j q (nI p) = some (.ok (fstR (trn (tc i) (N i) (tc j) (N j)) (N i) d p)) := by
  intro d
  have hNi := (I.1 i (lt7 hi)).2.1
  induction d with
  | zero =>
    intro p q hp hq
    obtain ⟨q, rfl⟩ : ∃ k, q = k + 1 := ⟨q - 1, by omega⟩
    have e : fstR (trn (tc i) (N i) (tc j) (N j)) (N i) 0 p = -1 := if_neg (by show ¬ p ≤ N i; omega)
    rw [e, fX5_turnTo_16]
    exact bs (tx_size I.1 (lt7 hi)) (ps ((nI_ltI (by omega) (by omega)).mpr (by omega)) rfl)
  | succ d ih =>
    intro p q hp hq
    obtain ⟨q, rfl⟩ : ∃ k, q = k + 1 := ⟨q - 1, by omega⟩
    have h0 : ¬ nI (N i) < nI p := fun z => by have := (nI_ltI (by omega) (by omega)).mp z; omega
    rw [fX5_turnTo_16]
    by_cases b : trn (tc i) (N i) (tc j) (N j) p = true
    · have e2 : fstR (trn (tc i) (N i) (tc j) (N j)) (N i) (d + 1) p = nI p := by
        unfold fstR
        rw [srch, if_pos b, if_pos (by omega)]
      rw [e2]
      exact bs (tx_size I.1 (lt7 hi)) (ns h0 (bs (tx_turned I.1 (lt7 hi) (lt7 hj) (by omega) hfu) (ns (bI_n0 b) rfl)))
    · have h2 := ih (p + 1) q (by omega) (by omega)
      unfold fstR at h2 ⊢
      rw [srch, if_neg b]
      rw [← nI_1] at h2
      exact bs (tx_size I.1 (lt7 hi)) (ns h0 (bs (tx_turned I.1 (lt7 hi) (lt7 hj) (by omega) hfu) (ps (bI_0.mpr (Bool.eq_false_iff.mpr b)) h2)))
theorem tt_M (hi : i < 6) (hj : j < 6) (hfu : 1000 ≤ fu) : ∀ (d p q : Nat) (ce : Nat → Int32), p + d = N i + 1 → d < q → RM ce sz N T → ∃ ce', fX6_turnTo_13 fu sz (nI i) (nI j) q (nI p) th ce = some (fstR (trn (T i) (N i) (T j) (N j)) (N i) d p, th, ce') ∧ ∀ k, k < 360 → ce' k = ce k := by
  intro d
  induction d with
  | zero =>
    intro p q ce hp hq h
    have hNi := (h i hi).2.1
    obtain ⟨q, rfl⟩ : ∃ k, q = k + 1 := ⟨q - 1, by omega⟩
    have e : fstR (trn (T i) (N i) (T j) (N j)) (N i) 0 p = -1 := if_neg (by show ¬ p ≤ N i; omega)
    refine ⟨ce, ?_, fun _ _ => rfl⟩
    rw [e, fX6_turnTo_13]
    exact bs (h.len hi) (ps ((nI_ltI (by omega) (by omega)).mpr (by omega)) rfl)
  | succ d ih =>
    intro p q ce hp hq h
    have hNi := (h i hi).2.1
    obtain ⟨q, rfl⟩ : ∃ k, q = k + 1 := ⟨q - 1, by omega⟩
    have h0 : ¬ nI (N i) < nI p := fun z => by have := (nI_ltI (by omega) (by omega)).mp z; omega
    obtain ⟨ca, m1, m2, m3⟩ := rm_turns (fu := fu) (o := 360) (b := p) h hi (by omega) (Nat.le_refl 360) (Nat.le_of_ble_eq_true rfl) hfu
    have h' := h.keep (ce' := ca) (fun j hj => m3 j (by omega))
    have sm := rm_same (fu := fu) m2 (h'.rw hj) hfu
    rw [← i_360] at m1 sm
    by_cases b : trn (T i) (N i) (T j) (N j) p = true
    · have e2 : fstR (trn (T i) (N i) (T j) (N j)) (N i) (d + 1) p = nI p := by
        unfold fstR
        rw [srch, if_pos b, if_pos (by omega)]
      refine ⟨ca, ?_, fun k hk => m3 k (by omega)⟩
      rw [e2, fX6_turnTo_13]
      exact bs (h.len hi) (ns h0 (bs m1 (bs (h.len hi) (bs rm_base (bs (h.len hj) (bs sm (ns (bI_n0 b) rfl)))))))
    · obtain ⟨cb, h2, h3⟩ := ih (p + 1) q ca (by omega) (by omega) h'
      refine ⟨cb, ?_, fun k hk => by rw [h3 k hk]; exact m3 k (by omega)⟩
      unfold fstR at h2 ⊢
      rw [srch, if_neg b, fX6_turnTo_13]
      rw [← nI_1] at h2
      exact bs (h.len hi) (ns h0 (bs m1 (bs (h.len hi) (bs rm_base (bs (h.len hj) (bs sm (ps (bI_0.mpr (Bool.eq_false_iff.mpr b)) h2)))))))
theorem tx_stn (h : TC ts tc N) (hi : i < 7) {b k : Nat} (hb : b < N i) (hk : k < N i) : fX4_signTurned ts tc i (nI b) (nI k) = some (turnF (tc i) (N i) b k) := by
  have hNi := (h i hi).2.1
  have ei := (h i hi).1
  unfold fX4_signTurned turnF
  rw [ei, nI_add]
  by_cases z : N i ≤ b + k
  · rw [if_neg (show ¬ k < N i - b by omega), nI_sub z, show b + k - N i = k - (N i - b) by omega]
    exact ps ((nI_leI (by omega) (by omega)).mpr z) (bs (tx_sign h hi (by omega)) (bs (ckC_ch ((h i hi).2.2 _ (by omega))) rfl))
  · rw [if_pos (show k < N i - b by omega)]
    exact ns (fun y => z ((nI_leI (by omega) (by omega)).mp y)) (bs (tx_sign h hi (by omega)) (bs (ckC_ch ((h i hi).2.2 _ (by omega))) rfl))
/-- the first difference of two texts of n signs, from c on; 0 without one -/
def dif (f g : Nat → Int32) : Nat → Nat → Int32
  | 0, _ => 0
  | d + 1, c => if f c = g c then dif f g d (c + 1) else f c - g c
theorem dif_lcp : ∀ (d c : Nat), dif f g d c = if lcp f c g c d < d then f (c + lcp f c g c d) - g (c + lcp f c g c d) else 0 := by
  intro d
  induction d with
  | zero => intro c; rfl
  | succ d ih =>
    intro c
    rw [dif, lcp]
    by_cases e : f c = g c
    · rw [if_pos e, if_pos e, ih (c + 1)]
      by_cases z : lcp f (c + 1) g (c + 1) d < d
      · rw [if_pos z, if_pos (by omega), show c + (lcp f (c + 1) g (c + 1) d + 1) = c + 1 + lcp f (c + 1) g (c + 1) d by omega]
      · rw [if_neg z, if_neg (by omega)]
    · rw [if_neg e, if_neg e, if_pos (by omega)]
      rfl
theorem ct_turns (h : TC ts tc N) (hi : i < 7) {a b : Nat} (ha : a < N i) (hb : b < N i) : ∀ (d c q : Nat), c + d = N i → d < q → fX4_compareTurns_2 fu ts tc i (nI a) (nI b) q (nI c) = some (dif (turnF (tc i) (N i) a) (turnF (tc i) (N i) b) d c) := by
  intro d
  have hNi := (h i hi).2.1
  have ei := (h i hi).1
  induction d with
  | zero =>
    intro c q hc hq
    obtain ⟨q, rfl⟩ : ∃ k, q = k + 1 := ⟨q - 1, by omega⟩
    rw [fX4_compareTurns_2, ei]
    exact ps ((nI_leI (by omega) (by omega)).mpr (by omega)) rfl
  | succ d ih =>
    intro c q hc hq
    obtain ⟨q, rfl⟩ : ∃ k, q = k + 1 := ⟨q - 1, by omega⟩
    have hle : ¬ nI (N i) ≤ nI c := fun z => by have := (nI_leI (by omega) (by omega)).mp z; omega
    rw [fX4_compareTurns_2, ei, dif]
    by_cases e : turnF (tc i) (N i) a c = turnF (tc i) (N i) b c
    · have h2 := ih (c + 1) q (by omega) (by omega)
      rw [← nI_1] at h2
      rw [if_pos e]
      exact ns hle (bs (tx_stn h hi ha (by omega)) (bs (tx_stn h hi hb (by omega)) (ps (sub0.mpr e) h2)))
    · rw [if_neg e]
      exact ns hle (bs (tx_stn h hi ha (by omega)) (bs (tx_stn h hi hb (by omega)) (ns (fun z => e (sub0.mp z)) rfl)))
theorem dif_ord {n : Nat} : dif f g n 0 = ordI f n g n := by
  rw [dif_lcp]
  unfold ordI
  rw [Nat.min_self]
  by_cases z : lcp f 0 g 0 n < n
  · rw [if_pos z, if_pos z, Nat.zero_add]
  · rw [if_neg z, if_neg z, Int32.sub_self]
/-- the least of the turns, from the best so far -/
def lsT (f : Nat → Int32) (n : Nat) : Nat → Nat → Nat → Nat
  | 0, _, y => y
  | d + 1, p, y => if 0 ≤ ordI (turnF f n p) n (turnF f n y) n then lsT f n d (p + 1) y else lsT f n d (p + 1) p
theorem lt_C (I : INV ts tc ce sz N) (hi : i < 6) (hfu : 1000 ≤ fu) : ∀ (d p y q : Nat), p + d = N i → d < q → y < N i → fX5_leastTurn_11 fu ts tc i q (nI y) (nI p) = some (.ok (nI (lsT (tc i) (N i) d p y))) := by
  intro d
  have hNi := (I.1 i (lt7 hi)).2.1
  induction d with
  | zero =>
    intro p y q hp hq hy
    obtain ⟨q, rfl⟩ : ∃ k, q = k + 1 := ⟨q - 1, by omega⟩
    rw [fX5_leastTurn_11]
    exact bs (tx_size I.1 (lt7 hi)) (ps ((nI_leI (by omega) (by omega)).mpr (by omega)) rfl)
  | succ d ih =>
    intro p y q hp hq hy
    obtain ⟨q, rfl⟩ : ∃ k, q = k + 1 := ⟨q - 1, by omega⟩
    have hle : ¬ nI (N i) ≤ nI p := fun z => by have := (nI_leI (by omega) (by omega)).mp z; omega
    have cm := ct_turns (fu := fu) (a := p) (b := y) I.1 (lt7 hi) (by omega) hy (N i) 0 fu (by omega) (by omega)
    rw [dif_ord] at cm
    rw [fX5_leastTurn_11, lsT]
    by_cases z : 0 ≤ ordI (turnF (tc i) (N i) p) (N i) (turnF (tc i) (N i) y) (N i)
    · have h2 := ih (p + 1) y q (by omega) (by omega) hy
      rw [← nI_1] at h2
      rw [if_pos z]
      exact bs (tx_size I.1 (lt7 hi)) (ns hle (bs (show fX4_compareTurns fu ts tc i (nI p) (nI y) = _ from cm) (ps z h2)))
    · have h2 := ih (p + 1) p q (by omega) (by omega) (by omega)
      rw [← nI_1] at h2
      rw [if_neg z]
      exact bs (tx_size I.1 (lt7 hi)) (ns hle (bs (show fX4_compareTurns fu ts tc i (nI p) (nI y) = _ from cm) (ns z h2)))
theorem lt_M (hi : i < 6) (hfu : 1000 ≤ fu) : ∀ (d p y q : Nat) (ce : Nat → Int32), p + d = N i → d < q → y < N i → RM ce sz N T → ∃ ce', fX6_leastTurn_14 fu sz (nI i) q (nI y) (nI p) th ce = some (nI (lsT (T i) (N i) d p y), th, ce') ∧ ∀ k, k < 360 → ce' k = ce k := by
  intro d
  induction d with
  | zero =>
    intro p y q ce hp hq hy h
    have hNi := (h i hi).2.1
    obtain ⟨q, rfl⟩ : ∃ k, q = k + 1 := ⟨q - 1, by omega⟩
    refine ⟨ce, ?_, fun _ _ => rfl⟩
    rw [fX6_leastTurn_14]
    exact bs (h.len hi) (ps ((nI_leI (by omega) (by omega)).mpr (by omega)) rfl)
  | succ d ih =>
    intro p y q ce hp hq hy h
    have hNi := (h i hi).2.1
    obtain ⟨q, rfl⟩ : ∃ k, q = k + 1 := ⟨q - 1, by omega⟩
    have hle : ¬ nI (N i) ≤ nI p := fun z => by have := (nI_leI (by omega) (by omega)).mp z; omega
    obtain ⟨ca, m1, m2, m3⟩ := rm_turns (fu := fu) (o := 360) (b := p) h hi (by omega) (Nat.le_refl 360) (Nat.le_of_ble_eq_true rfl) hfu
    have h' := h.keep (ce' := ca) (fun j hj => m3 j (by omega))
    obtain ⟨cb, m4, m5, m6⟩ := rm_turns (fu := fu) (o := 490) (b := y) h' hi (by omega) (Nat.le_of_ble_eq_true rfl) (Nat.le_of_ble_eq_true rfl) hfu
    have h'' := h'.keep (ce' := cb) (fun j hj => m6 j (by omega))
    have od := rm_order (fu := fu) (m2.keep (ce' := cb) (fun j h1 h2 => m6 j (by omega))) m5 hfu
    rw [← i_360] at m1
    rw [← i_490] at m4
    rw [← i_360, ← i_490] at od
    by_cases z : 0 ≤ ordI (turnF (T i) (N i) p) (N i) (turnF (T i) (N i) y) (N i)
    · obtain ⟨cc, h2, h3⟩ := ih (p + 1) y q cb (by omega) (by omega) hy h''
      refine ⟨cc, ?_, fun k hk => by rw [h3 k hk, m6 k (by omega)]; exact m3 k (by omega)⟩
      rw [← nI_1] at h2
      rw [fX6_leastTurn_14, lsT, if_pos z]
      exact bs (h.len hi) (ns hle (bs m1 (bs m4 (bs (h.len hi) (bs (h.len hi) (bs od (ps z h2)))))))
    · obtain ⟨cc, h2, h3⟩ := ih (p + 1) p q cb (by omega) (by omega) (by omega) h''
      refine ⟨cc, ?_, fun k hk => by rw [h3 k hk, m6 k (by omega)]; exact m3 k (by omega)⟩
      rw [← nI_1] at h2
      rw [fX6_leastTurn_14, lsT, if_neg z]
      exact bs (h.len hi) (ns hle (bs m1 (bs m4 (bs (h.len hi) (bs (h.len hi) (bs od (ns z h2)))))))
/-- round about, a shift of s lets f be what it is -/
def cyc (f : Nat → Int32) (n s : Nat) : Prop := ∀ k, f ((k + s) % n) = f (k % n)
theorem cyc_n {n : Nat} : cyc f n n := fun k => by rw [Nat.add_mod_right]
theorem cyc_sub {n a b : Nat} (ha : cyc f n a) (hb : cyc f n (a + b)) : cyc f n b := fun k => by
  have h1 := ha (k + b)
  have h2 := hb k
  rw [show k + b + a = k + (a + b) by omega] at h1
  rw [← h1, h2]
theorem cyc_mul {n a : Nat} (ha : cyc f n a) : ∀ q, cyc f n (a * q) := by
  intro q
  induction q with
  | zero => intro k; rfl
  | succ q ih => intro k; rw [Nat.mul_succ, ← Nat.add_assoc, ha (k + a * q), ih k]
theorem cyc_gcd {n : Nat} : ∀ a b : Nat, cyc f n a → cyc f n b → cyc f n (Nat.gcd a b) := by
  intro a b
  induction a, b using Nat.gcd.induction with
  | H0 b => intro _ hb; rw [Nat.gcd_zero_left]; exact hb
  | H1 a b h ih =>
    intro ha hb
    rw [Nat.gcd_rec]
    refine ih ?_ ha
    refine cyc_sub (cyc_mul ha (b / a)) ?_
    rw [Nat.div_add_mod]
    exact hb
theorem turn_mod {n b k : Nat} (hb : b ≤ n) (hk : k < n) : turnF f n b k = f ((k + b) % n) := by
  unfold turnF
  by_cases z : k < n - b
  · rw [if_pos z, Nat.mod_eq_of_lt (by omega), Nat.add_comm]
  · rw [if_neg z, Nat.mod_eq_sub_mod (by omega), Nat.mod_eq_of_lt (by omega)]
    congr 1; omega
theorem root_is {n : Nat} (hn : 1 ≤ n) : n % rootN f n = 0 ∧ per f n (rootN f n) = true ∧ ∀ p, 1 ≤ p → p < rootN f n → ¬ (n % p = 0 ∧ per f n p = true) := by
  have sl := srch_le (P := fun p => decide (n % p = 0) && per f n p) (d := n - 1) (p := 1)
  have sy := fun h => srch_yes (P := fun p => decide (n % p = 0) && per f n p) (d := n - 1) (p := 1) h
  have sn := fun q h1 h2 => srch_no (P := fun p => decide (n % p = 0) && per f n p) (d := n - 1) (p := 1) (q := q) h1 h2
  unfold rootN
  refine ⟨?_, ?_, fun p h1 h2 => ?_⟩
  · by_cases z : srch (fun p => decide (n % p = 0) && per f n p) (n - 1) 1 < 1 + (n - 1)
    · have := sy z
      rw [Bool.and_eq_true, decide_eq_true_iff] at this
      exact this.1
    · rw [show srch (fun p => decide (n % p = 0) && per f n p) (n - 1) 1 = n by omega, Nat.mod_self]
  · by_cases z : srch (fun p => decide (n % p = 0) && per f n p) (n - 1) 1 < 1 + (n - 1)
    · have := sy z
      rw [Bool.and_eq_true, decide_eq_true_iff] at this
      exact this.2
    · rw [show srch (fun p => decide (n % p = 0) && per f n p) (n - 1) 1 = n by omega]
      exact per_iff.mpr (fun k hk => by omega)
  · intro z
    have := sn p h1 h2
    rw [decide_eq_true z.1, z.2] at this
    cases this
/-- a period that divides is one round about -/
theorem per_mul {n r : Nat} (hp : per f n r = true) : ∀ q k, k + r * q < n → f (k + r * q) = f k := by
  intro q
  induction q with
  | zero => intro k _; rfl
  | succ q ih =>
    intro k hk
    rw [Nat.mul_succ] at hk ⊢
    have := per_iff.mp hp (k + r * q) (by omega)
    rw [← Nat.add_assoc, this]
    exact ih k (by omega)
theorem per_mod {n r : Nat} (hr : 1 ≤ r) (hp : per f n r = true) {k : Nat} (hk : k < n) : f k = f (k % r) := by
  have h1 := Nat.mod_add_div k r
  have := per_mul hp (k / r) (k % r) (by omega)
  rw [h1] at this
  exact this
theorem per_cyc {n r : Nat} (hn : 1 ≤ n) (hr : 1 ≤ r) (hd : n % r = 0) (hp : per f n r = true) : cyc f n r := by
  intro k
  have hdv : r ∣ n := Nat.dvd_of_mod_eq_zero hd
  rw [per_mod hr hp (Nat.mod_lt _ (by omega)), per_mod hr hp (Nat.mod_lt k (by omega)), Nat.mod_mod_of_dvd _ hdv, Nat.mod_mod_of_dvd _ hdv, Nat.add_mod_right]
theorem cyc_per {n s : Nat} (h : cyc f n s) : per f n s = true := by
  refine per_iff.mpr (fun k hk => ?_)
  have := h k
  rw [Nat.mod_eq_of_lt hk, Nat.mod_eq_of_lt (by omega)] at this
  exact this
theorem cyc_root {n s : Nat} (hn : 1 ≤ n) (hs : 1 ≤ s) (h : cyc f n s) : rootN f n ≤ s := by
  have hg := cyc_gcd s n h cyc_n
  have hg1 : Nat.gcd s n ∣ n := Nat.gcd_dvd_right _ _
  have hg2 : Nat.gcd s n ≤ s := Nat.le_of_dvd hs (Nat.gcd_dvd_left _ _)
  have hg0 : 1 ≤ Nat.gcd s n := Nat.gcd_pos_of_pos_left _ hs
  by_cases z : rootN f n ≤ s
  · exact z
  · exact absurd ⟨Nat.mod_eq_zero_of_dvd hg1, cyc_per hg⟩ ((root_is hn).2.2 (Nat.gcd s n) hg0 (by omega))
/-- two turns are the same -/
def sameT (f : Nat → Int32) (n b c : Nat) : Bool := alk (turnF f n b) 0 (turnF f n c) 0 n
theorem sameT_iff {n b c : Nat} (hb : b ≤ n) (hc : c ≤ n) : sameT f n b c = true ↔ ∀ k, k < n → f ((k + b) % n) = f ((k + c) % n) := by
  unfold sameT
  rw [alk_iff]
  constructor
  · intro h k hk
    have := h k hk
    rw [Nat.zero_add, turn_mod hb hk, turn_mod hc hk] at this
    exact this
  · intro h k hk
    rw [Nat.zero_add, turn_mod hb hk, turn_mod hc hk]
    exact h k hk
theorem sameT_root {n b c : Nat} (hn : 1 ≤ n) (hb : b ≤ n) (hcb : c < b) (h : sameT f n b c = true) : rootN f n ≤ b - c := by
  have h1 := (sameT_iff hb (by omega)).mp h
  refine cyc_root hn (by omega) (fun k => ?_)
  have h2 := h1 ((k + (n - c)) % n) (Nat.mod_lt _ (by omega))
  rw [Nat.mod_add_mod, Nat.mod_add_mod, show k + (n - c) + b = k + (b - c) + n by omega, show k + (n - c) + c = k + n by omega, Nat.add_mod_right, Nat.add_mod_right] at h2
  exact h2
theorem root_sameT {n b : Nat} (hn : 1 ≤ n) (hb : b ≤ n) (hr : rootN f n ≤ b) : sameT f n b (b - rootN f n) = true := by
  obtain ⟨d, p, _⟩ := root_is (f := f) hn
  have r1 := (root_le (f := f) hn).1
  refine (sameT_iff hb (by omega)).mpr (fun k hk => ?_)
  have := per_cyc hn r1 d p (k + (b - rootN f n))
  rw [show k + (b - rootN f n) + rootN f n = k + b by omega] at this
  exact this
/-- is none of the turns below b, from c on, the turn b? -/
def newT (f : Nat → Int32) (n b : Nat) : Nat → Nat → Bool
  | 0, _ => true
  | d + 1, c => !(sameT f n c b) && newT f n b d (c + 1)
theorem newT_iff {n b : Nat} : ∀ (d c : Nat), newT f n b d c = true ↔ ∀ k, k < d → sameT f n (c + k) b = false := by
  intro d
  induction d with
  | zero => intro c; exact ⟨fun _ k hk => by omega, fun _ => rfl⟩
  | succ d ih =>
    intro c
    rw [newT, Bool.and_eq_true, ih]
    constructor
    · rintro ⟨h1, h2⟩ k hk
      cases k with
      | zero => simpa using h1
      | succ k => have := h2 k (by omega); rw [show c + 1 + k = c + (k + 1) by omega] at this; exact this
    · intro h
      refine ⟨by have := h 0 (by omega); rw [Nat.add_zero] at this; rw [this]; rfl, fun k hk => ?_⟩
      have := h (k + 1) (by omega)
      rw [show c + 1 + k = c + (k + 1) by omega]
      exact this
theorem newT_root {n b : Nat} (hn : 1 ≤ n) (hb : b ≤ n) : newT f n b b 0 = decide (b < rootN f n) := by
  have r1 := (root_le (f := f) hn).1
  have sym : ∀ c, c ≤ n → sameT f n c b = true → sameT f n b c = true := fun c hc h => (sameT_iff hb hc).mpr (fun k hk => ((sameT_iff hc hb).mp h k hk).symm)
  by_cases z : b < rootN f n
  · rw [decide_eq_true z]
    refine (newT_iff b 0).mpr (fun k hk => Bool.eq_false_iff.mpr (fun h => ?_))
    rw [Nat.zero_add] at h
    have := sameT_root hn hb hk (sym k (by omega) h)
    omega
  · rw [decide_eq_false z]
    refine Bool.eq_false_iff.mpr (fun h => ?_)
    have h1 := (newT_iff b 0).mp h (b - rootN f n) (by omega)
    rw [Nat.zero_add] at h1
    have h2 := root_sameT hn hb (show rootN f n ≤ b by omega)
    have h3 : sameT f n (b - rootN f n) b = true := (sameT_iff (by omega) hb).mpr (fun k hk => ((sameT_iff hb (by omega)).mp h2 k hk).symm)
    rw [h3] at h1
    cases h1
theorem cnt_below {r : Nat} : ∀ (d p : Nat), (∀ k, p ≤ k → k < p + d → P k = decide (k < r)) → cntB P d p = min d (r - p) := by
  intro d
  induction d with
  | zero => intro p _; rw [cntB]; omega
  | succ d ih =>
    intro p h
    rw [cntB, ih (p + 1) (fun k h1 h2 => h k (by omega) (by omega)), h p (Nat.le_refl _) (by omega)]
    by_cases z : p < r
    · rw [decide_eq_true z, if_pos rfl]; omega
    · rw [decide_eq_false z, if_neg (by decide)]; omega
theorem tn_in (hi : i < 6) (hfu : 1000 ≤ fu) {b : Nat} {y2 : Int32} {K : Int32 → Int32 → Int32 → (Nat → Int32) → Option (Int32 × Int32 × (Nat → Int32))} (hb : b ≤ N i) : ∀ (d c q : Nat) (y : Bool) (ce : Nat → Int32), c + d = b → d < q → RM ce sz N T → RW ce 360 (N i) (turnF (T i) (N i) b) → ∃ ce', (∀ k, k < 360 → ce' k = ce k) ∧ fX6_turnings_39 fu sz (nI i) y2 (nI b) K q (bI y) (nI c) th ce = fX6_turnings_98 fu sz (nI i) y2 (nI b) (bI (y && newT (T i) (N i) b d c)) K th ce' := by
  intro d
  induction d with
  | zero =>
    intro c q y ce hc hq h hw
    have hNi := (h i hi).2.1
    obtain ⟨q, rfl⟩ : ∃ k, q = k + 1 := ⟨q - 1, by omega⟩
    refine ⟨ce, fun _ _ => rfl, ?_⟩
    rw [fX6_turnings_39, newT, Bool.and_true]
    exact ps ((nI_leI (by omega) (by omega)).mpr (by omega)) rfl
  | succ d ih =>
    intro c q y ce hc hq h hw
    have hNi := (h i hi).2.1
    obtain ⟨q, rfl⟩ : ∃ k, q = k + 1 := ⟨q - 1, by omega⟩
    have hle : ¬ nI b ≤ nI c := fun z => by have := (nI_leI (by omega) (by omega)).mp z; omega
    cases y with
    | false =>
      refine ⟨ce, fun _ _ => rfl, ?_⟩
      rw [fX6_turnings_39, Bool.false_and]
      exact ns hle (ps rfl rfl)
    | true =>
      obtain ⟨ca, m1, m2, m3⟩ := rm_turns (fu := fu) (o := 490) (b := c) h hi (by omega) (Nat.le_of_ble_eq_true rfl) (Nat.le_of_ble_eq_true rfl) hfu
      have h' := h.keep (ce' := ca) (fun j hj => m3 j (by omega))
      have hw' := hw.keep (ce' := ca) (fun j h1 h2 => m3 j (by omega))
      have sm := rm_same (fu := fu) hw' m2 hfu
      rw [← i_490] at m1
      rw [← i_360, ← i_490, decide_eq_true rfl, Bool.true_and] at sm
      have symm : alk (turnF (T i) (N i) b) 0 (turnF (T i) (N i) c) 0 (N i) = sameT (T i) (N i) c b := by
        unfold sameT
        apply Bool.eq_iff_iff.mpr
        rw [alk_iff, alk_iff]
        exact ⟨fun z k hk => (z k hk).symm, fun z k hk => (z k hk).symm⟩
      rw [symm] at sm
      rw [newT, Bool.true_and]
      cases e : sameT (T i) (N i) c b with
      | true =>
        rw [e] at sm
        obtain ⟨cb, g1, g2⟩ := ih (c + 1) q false ca (by omega) (by omega) h' hw'
        rw [← nI_1] at g2
        refine ⟨cb, fun k hk => by rw [g1 k hk]; exact m3 k (by omega), ?_⟩
        rw [fX6_turnings_39]
        exact ns hle (ns i32_10 (bs m1 (bs (h.len hi) (bs (h.len hi) (bs sm (ns i32_10 g2))))))
      | false =>
        rw [e] at sm
        obtain ⟨cb, g1, g2⟩ := ih (c + 1) q true ca (by omega) (by omega) h' hw'
        rw [← nI_1] at g2
        refine ⟨cb, fun k hk => by rw [g1 k hk]; exact m3 k (by omega), ?_⟩
        rw [fX6_turnings_39]
        exact ns hle (ns i32_10 (bs m1 (bs (h.len hi) (bs (h.len hi) (bs sm (ps rfl g2))))))
theorem tn_out (hi : i < 6) (hfu : 1000 ≤ fu) : ∀ (d b c q : Nat) (ce : Nat → Int32), b + d = N i + 1 → d < q → RM ce sz N T → ∃ ce', (∀ k, k < 360 → ce' k = ce k) ∧ fX6_turnings_14 fu sz (nI i) q (nI c) (nI b) th ce = some (nI (c + cntB (fun b => newT (T i) (N i) b b 0) d b), th, ce') := by
  intro d
  induction d with
  | zero =>
    intro b c q ce hc hq h
    have hNi := (h i hi).2.1
    obtain ⟨q, rfl⟩ : ∃ k, q = k + 1 := ⟨q - 1, by omega⟩
    refine ⟨ce, fun _ _ => rfl, ?_⟩
    rw [fX6_turnings_14]
    exact bs (h.len hi) (ps ((nI_ltI (by omega) (by omega)).mpr (by omega)) rfl)
  | succ d ih =>
    intro b c q ce hc hq h
    have hNi := (h i hi).2.1
    obtain ⟨q, rfl⟩ : ∃ k, q = k + 1 := ⟨q - 1, by omega⟩
    have hle : ¬ nI (N i) < nI b := fun z => by have := (nI_ltI (by omega) (by omega)).mp z; omega
    obtain ⟨ca, m1, m2, m3⟩ := rm_turns (fu := fu) (o := 360) (b := b) h hi (by omega) (Nat.le_refl 360) (Nat.le_of_ble_eq_true rfl) hfu
    have h' := h.keep (ce' := ca) (fun j hj => m3 j (by omega))
    obtain ⟨cb, g1, g2⟩ := tn_in (fu := fu) (y2 := nI c) (K := fX6_turnings_14 fu sz (nI i) q) (th := th) (b := b) hi hfu (by omega) b 0 fu true ca (by omega) (by omega) h' m2
    have h'' := h'.keep (ce' := cb) (fun j hj => g1 j (by omega))
    rw [← i_360] at m1
    rw [Bool.true_and] at g2
    rw [cntB]
    cases e : newT (T i) (N i) b b 0 with
    | true =>
      obtain ⟨cc, k1, k2⟩ := ih (b + 1) (c + 1) q cb (by omega) (by omega) h''
      rw [← nI_1, ← nI_1] at k2
      refine ⟨cc, fun k hk => by rw [k1 k hk, g1 k hk]; exact m3 k (by omega), ?_⟩
      rw [fX6_turnings_14, if_pos rfl, ← Nat.add_assoc]
      rw [e] at g2
      exact bs (h.len hi) (ns hle (bs m1 (g2.trans (ns i32_10 k2))))
    | false =>
      obtain ⟨cc, k1, k2⟩ := ih (b + 1) c q cb (by omega) (by omega) h''
      rw [← nI_1] at k2
      refine ⟨cc, fun k hk => by rw [k1 k hk, g1 k hk]; exact m3 k (by omega), ?_⟩
      rw [fX6_turnings_14, if_neg (by decide), Nat.zero_add]
      rw [e] at g2
      have k3 : fX6_turnings_14 fu sz (nI i) q (nI c + 0) (nI b + 1) th cb = some (nI (c + cntB (fun b => newT (T i) (N i) b b 0) d (b + 1)), th, cc) := by rw [Int32.add_zero]; exact k2
      exact bs (h.len hi) (ns hle (bs m1 (g2.trans (ps rfl k3))))
end QH
theorem q_turnTo {fu : Nat} {ts : Nat → Int32} {tc : Nat → Nat → Int32} {ol : Nat → Int64} {ce : Nat → Int32} {sz : Nat → Int32} {th : Int32} {N : Nat → Nat} (I : INV ts tc ce sz N) (hfu : 2000 ≤ fu) (x1 x2 : Int32) : ∃ (k : Int32) (g : Nat → Int64) (b : Int32) (t : Int32) (ce' : Nat → Int32), fL_turnTo fu ts tc ol x1 x2 = some (k, g) ∧ fX6_turnTo fu th ce sz x1 x2 = some (b, t, ce') ∧ t = k ∧ (k = 0 → g 0 = b.toInt64) ∧ ∃ N', INV ts tc ce' sz N' := by
  rcases slots x1 with ⟨j1, h1, rfl⟩ | ⟨b1, b2⟩
  · rcases slots x2 with ⟨j2, h2, rfl⟩ | ⟨b1, b2⟩
    · have hN1 := (I.1 j1 (by omega)).2.1
      have c1 := tt_C (fu := fu) I h1 h2 (by omega) (N j1 + 1) 0 fu (by omega) (by omega)
      obtain ⟨ce', m1, m2⟩ := tt_M (fu := fu) (th := 0) h1 h2 (by omega) (N j1 + 1) 0 fu ce (by omega) (by omega) I.2.1
      exact ⟨0, _, _, 0, ce', wo_turnTo (bs (sl_ok h1) (es (bs (sl_ok h2) (es (c1))))), bs (no2_ok h1 h2 _) (ps (rfl) (m1)), rfl, fun _ => upd_s, N, inv_ce I m2⟩
    · exact ⟨1, ol, 0, 1, ce, we_turnTo_1 (bs (sl_ok h1) (es (bs (b1) (er (rfl))))), by simp [fX6_turnTo, fX6_isNoOf, fX6_isNoOfAll, fX6_isNoPlace, sl_no h1, b2], rfl, fun h => absurd h (by decide), N, I⟩
  · exact ⟨1, ol, 0, 1, ce, we_turnTo_1 (bs (b1) (er (rfl))), by simp [fX6_turnTo, fX6_isNoOf, fX6_isNoOfAll, fX6_isNoPlace, b2], rfl, fun h => absurd h (by decide), N, I⟩
theorem q_leastTurn {fu : Nat} {ts : Nat → Int32} {tc : Nat → Nat → Int32} {ol : Nat → Int64} {ce : Nat → Int32} {sz : Nat → Int32} {th : Int32} {N : Nat → Nat} (I : INV ts tc ce sz N) (hfu : 2000 ≤ fu) (x1 : Int32) : ∃ (k : Int32) (g : Nat → Int64) (b : Int32) (t : Int32) (ce' : Nat → Int32), fL_leastTurn fu ts tc ol x1 = some (k, g) ∧ fX6_leastTurn fu th ce sz x1 = some (b, t, ce') ∧ t = k ∧ (k = 0 → g 0 = b.toInt64) ∧ ∃ N', INV ts tc ce' sz N' := by
  rcases slots x1 with ⟨j1, h1, rfl⟩ | ⟨b1, b2⟩
  · have hN1 := (I.1 j1 (by omega)).2.1
    by_cases e : N j1 = 0
    · obtain ⟨f2, rfl⟩ : ∃ k, fu = k + 1 := ⟨fu - 1, by omega⟩
      have h0 : nI (N j1) ≤ 1 := by rw [e]; decide
      have c1 : fX5_leastTurn_11 (f2 + 1) ts tc j1 (f2 + 1) 0 1 = some (.ok 0) := by
        rw [fX5_leastTurn_11]
        exact bs (tx_size I.1 (lt7 h1)) (ps h0 rfl)
      have m1 : fX6_leastTurn_14 (f2 + 1) sz (nI j1) (f2 + 1) 0 1 0 ce = some (0, 0, ce) := by
        rw [fX6_leastTurn_14]
        exact bs (I.2.1.len h1) (ps h0 rfl)
      exact ⟨0, _, _, 0, ce, wo_leastTurn (bs (sl_ok h1) (es (c1))), bs (sl_no h1 _) (ps (rfl) (m1)), rfl, fun _ => upd_s, N, I⟩
    · have c1 := lt_C (fu := fu) I h1 (by omega) (N j1 - 1) 1 0 fu (by omega) (by omega) (by omega)
      obtain ⟨ce', m1, m2⟩ := lt_M (fu := fu) (th := 0) h1 (by omega) (N j1 - 1) 1 0 fu ce (by omega) (by omega) (by omega) I.2.1
      exact ⟨0, _, _, 0, ce', wo_leastTurn (bs (sl_ok h1) (es (c1))), bs (sl_no h1 _) (ps (rfl) (m1)), rfl, fun _ => upd_s, N, inv_ce I m2⟩
  · exact ⟨1, ol, 0, 1, ce, we_leastTurn_1 (bs (b1) (er (rfl))), by simp [fX6_leastTurn, fX6_isNoOf, fX6_isNoOfAll, fX6_isNoPlace, b2], rfl, fun h => absurd h (by decide), N, I⟩
theorem q_turnings {fu : Nat} {ts : Nat → Int32} {tc : Nat → Nat → Int32} {ol : Nat → Int64} {ce : Nat → Int32} {sz : Nat → Int32} {th : Int32} {N : Nat → Nat} (I : INV ts tc ce sz N) (hfu : 2000 ≤ fu) (x1 : Int32) : ∃ (k : Int32) (g : Nat → Int64) (b : Int32) (t : Int32) (ce' : Nat → Int32), fL_turnings fu ts tc ol x1 = some (k, g) ∧ fX6_turnings fu th ce sz x1 = some (b, t, ce') ∧ t = k ∧ (k = 0 → g 0 = b.toInt64) ∧ ∃ N', INV ts tc ce' sz N' := by
  rcases slots x1 with ⟨j1, h1, rfl⟩ | ⟨b1, b2⟩
  · have hN1 := (I.1 j1 (by omega)).2.1
    obtain ⟨ce', m2, m1⟩ := tn_out (fu := fu) (th := 0) h1 (by omega) (N j1 + 1) 0 0 fu ce (by omega) (by omega) I.2.1
    rw [Nat.zero_add] at m1
    by_cases e : N j1 = 0
    · have hem : fX4_isEmpty ts j1 = some 1 := ps (by rw [(I.1 j1 (lt7 h1)).1, e]; rfl) rfl
      have e1 : cntB (fun b => newT (tc j1) (N j1) b b 0) (N j1 + 1) 0 = 1 := by rw [e]; rfl
      rw [e1] at m1
      exact ⟨0, _, _, 0, ce', wo_turnings (bs (sl_ok h1) (es (bs (hem) (ns (i32_10) (rfl))))), bs (sl_no h1 _) (ps (rfl) (m1)), rfl, fun _ => upd_s, N, inv_ce I m2⟩
    · have hem : fX4_isEmpty ts j1 = some 0 := ns (by rw [(I.1 j1 (lt7 h1)).1, nI_eq0 (by omega)]; exact e) rfl
      have c1 := tx_root (fu := fu) I.1 (lt7 h1) (by omega)
      rw [if_neg e] at c1
      obtain ⟨r1, r2⟩ := root_le (f := tc j1) (show 1 ≤ N j1 by omega)
      have e1 : cntB (fun b => newT (tc j1) (N j1) b b 0) (N j1 + 1) 0 = rootN (tc j1) (N j1) := by
        rw [cnt_below (r := rootN (tc j1) (N j1)) (N j1 + 1) 0 (fun k h1 h2 => newT_root (by omega) (by omega))]
        omega
      rw [e1] at m1
      exact ⟨0, _, _, 0, ce', wo_turnings (bs (sl_ok h1) (es (bs (hem) (ps (rfl) (bs (c1) (rfl)))))), bs (sl_no h1 _) (ps (rfl) (m1)), rfl, fun _ => upd_s, N, inv_ce I m2⟩
  · exact ⟨1, ol, 0, 1, ce, we_turnings_1 (bs (b1) (er (rfl))), by simp [fX6_turnings, fX6_isNoOf, fX6_isNoOfAll, fX6_isNoPlace, b2], rfl, fun h => absurd h (by decide), N, I⟩
