/-! THE COMPARISONS commute, commonRoot, rootShare, meanPeriod, checksum -/
section QJ
variable {ts : Nat → Int32} {tc tc0 : Nat → Nat → Int32} {ce sz : Nat → Int32} {N : Nat → Nat} {T : Nat → Nat → Int32} {i j s fu r : Nat} {th : Int32} {f g F : Nat → Int32} {P : Nat → Bool}
/-- f and g commute -/
def com (f : Nat → Int32) (n : Nat) (g : Nat → Int32) (m : Nat) : Bool := alk (catF f n g) 0 (catF g m f) 0 (n + m)
theorem com_iff {n m : Nat} : com f n g m = true ↔ ∀ k, k < n + m → catF f n g k = catF g m f k := by
  unfold com
  rw [alk_iff]
  exact ⟨fun h k hk => by have := h k hk; rw [Nat.zero_add] at this; exact this, fun h k hk => by rw [Nat.zero_add]; exact h k hk⟩
theorem sj_C (h : TC ts tc N) (hi : i < 7) (hj : j < 7) {k : Nat} (hk : k < N i + N j) : fX3_signJoined ts tc i j (nI k) = some (catF (tc i) (N i) (tc j) k) := by
  have hNi := (h i hi).2.1
  have hNj := (h j hj).2.1
  unfold fX3_signJoined catF
  by_cases z : k < N i
  · rw [if_pos z]
    exact bs (tx_size h hi) (ns (fun y => by have := (nI_leI (by omega) (by omega)).mp y; omega) (bs (tx_sign h hi z) (bs (ckC_ch ((h i hi).2.2 _ (by omega))) rfl)))
  · rw [if_neg z]
    have e : fX4_signOn ts tc j (nI k - nI (N i)) = some (tc j (k - N i)) := by
      rw [nI_sub (by omega)]
      exact tx_sign h hj (by omega)
    exact bs (tx_size h hi) (ps ((nI_leI (by omega) (by omega)).mpr (by omega)) (bs (tx_size h hi) (bs e (bs (ckC_ch ((h j hj).2.2 _ (by omega))) rfl))))
theorem dc_loop (h : TC ts tc N) (hi : i < 7) (hj : j < 7) : ∀ (d c q : Nat), c + d = N i + N j → d < q → fX3_doCommute_12 fu ts tc i j (nI (N i + N j)) q (nI c) = some (bI (alk (catF (tc i) (N i) (tc j)) c (catF (tc j) (N j) (tc i)) c d)) := by
  intro d
  have hNi := (h i hi).2.1
  have hNj := (h j hj).2.1
  induction d with
  | zero =>
    intro c q hc hq
    obtain ⟨q, rfl⟩ : ∃ k, q = k + 1 := ⟨q - 1, by omega⟩
    rw [fX3_doCommute_12]
    exact ps ((nI_leI (by omega) (by omega)).mpr (by omega)) rfl
  | succ d ih =>
    intro c q hc hq
    obtain ⟨q, rfl⟩ : ∃ k, q = k + 1 := ⟨q - 1, by omega⟩
    have hle : ¬ nI (N i + N j) ≤ nI c := fun z => by have := (nI_leI (by omega) (by omega)).mp z; omega
    rw [fX3_doCommute_12, alk]
    by_cases e : catF (tc i) (N i) (tc j) c = catF (tc j) (N j) (tc i) c
    · have h2 := ih (c + 1) q (by omega) (by omega)
      rw [← nI_1] at h2
      rw [decide_eq_true e, Bool.true_and]
      exact ns hle (bs (sj_C h hi hj (by omega)) (bs (sj_C h hj hi (by omega)) (ps e h2)))
    · rw [decide_eq_false e, Bool.false_and]
      exact ns hle (bs (sj_C h hi hj (by omega)) (bs (sj_C h hj hi (by omega)) (ns e rfl)))
theorem tx_com (h : TC ts tc N) (hi : i < 7) (hj : j < 7) (hfu : 1000 ≤ fu) : fX3_doCommute fu ts tc i j = some (bI (com (tc i) (N i) (tc j) (N j))) := by
  have h2 := dc_loop (fu := fu) h hi hj (N i + N j) 0 fu (by omega) (by have := (h i hi).2.1; have := (h j hj).2.1; omega)
  rw [← nI_add] at h2
  exact bs (tx_size h hi) (bs (tx_size h hj) h2)
theorem rm_com (h : RM ce sz N T) (hi : i < 6) (hj : j < 6) (hfu : 1000 ≤ fu) : ∃ ce', fX6_doCommute fu ce sz (nI i) (nI j) = some (bI (com (T i) (N i) (T j) (N j)), ce') ∧ ∀ k, k < 360 → ce' k = ce k := by
  have hNi := (h i hi).2.1
  have hNj := (h j hj).2.1
  obtain ⟨ca, m1, m2, m3⟩ := rm_lays (fu := fu) (o := 360) h hi hj (Nat.le_refl 360) (Nat.le_of_ble_eq_true rfl) hfu
  have h' := h.keep (ce' := ca) (fun j hj => m3 j (by omega))
  obtain ⟨cb, m4, m5, m6⟩ := rm_lays (fu := fu) (o := 490) h' hj hi (Nat.le_of_ble_eq_true rfl) (Nat.le_of_ble_eq_true rfl) hfu
  have h'' := h'.keep (ce' := cb) (fun j hj => m6 j (by omega))
  rw [Nat.add_comm (N j) (N i)] at m5
  have sm := rm_same (fu := fu) (m2.keep (ce' := cb) (fun j h1 h2 => m6 j (by omega))) m5 hfu
  rw [decide_eq_true rfl, Bool.true_and, ← nI_add, ← i_360, ← i_490] at sm
  rw [← i_360] at m1
  rw [← i_490] at m4
  refine ⟨cb, ?_, fun k hk => by rw [m6 k (by omega)]; exact m3 k (by omega)⟩
  exact bs m1 (bs m4 (bs (h.len hi) (bs (h.len hj) (bs (h.len hi) (bs (h.len hj) (bs sm (bs ckZ_b rfl)))))))
theorem com_sym {n m : Nat} (h : com f n g m = true) : com g m f n = true := com_iff.mpr (fun k hk => (com_iff.mp h k (by omega)).symm)
theorem cyc_of {M s : Nat} (hM : 1 ≤ M) (h : ∀ k, k < M → f ((k + s) % M) = f k) : cyc f M s := fun k => by
  have := h (k % M) (Nat.mod_lt _ hM)
  rw [Nat.mod_add_mod] at this
  exact this
/-- what commutes has the sizes' divisor round about, hence one root -/
theorem com_gcd {n m : Nat} (hn : 1 ≤ n) (h : com f n g m = true) : ∀ k, k < n + m → catF f n g k = f (k % Nat.gcd n m) := by
  have hc := com_iff.mp h
  have h1 : cyc (catF f n g) (n + m) n := by
    refine cyc_of (by omega) (fun k hk => ?_)
    rw [hc k hk]
    unfold catF
    by_cases z : k < m
    · rw [Nat.mod_eq_of_lt (by omega), if_neg (by omega), if_pos z, show k + n - n = k by omega]
    · rw [if_neg z, Nat.mod_eq_sub_mod (by omega), Nat.mod_eq_of_lt (by omega), if_pos (by omega), show k + n - (n + m) = k - m by omega]
  have hd0 : 1 ≤ Nat.gcd n m := Nat.gcd_pos_of_pos_left _ hn
  have hg : Nat.gcd n (n + m) = Nat.gcd n m := by rw [Nat.add_comm, Nat.gcd_add_self_right]
  have h2 := cyc_gcd n (n + m) h1 cyc_n
  rw [hg] at h2
  intro k hk
  rw [per_mod hd0 (cyc_per h2) hk]
  have : k % Nat.gcd n m < n := Nat.lt_of_lt_of_le (Nat.mod_lt _ hd0) (Nat.le_of_dvd hn (Nat.gcd_dvd_left _ _))
  unfold catF
  rw [if_pos this]
theorem com_root {n m : Nat} (hn : 1 ≤ n) (hm : 1 ≤ m) (h : com f n g m = true) : rootN g m ≤ rootN f n ∧ rootN f n ≤ n ∧ rootN f n ≤ m ∧ ∀ k, k < rootN f n → f k = g k := by
  have hg := com_gcd hn h
  have hd0 : 1 ≤ Nat.gcd n m := Nat.gcd_pos_of_pos_left _ hn
  have dn : Nat.gcd n m ∣ n := Nat.gcd_dvd_left _ _
  have dm : Nat.gcd n m ∣ m := Nat.gcd_dvd_right _ _
  generalize Nat.gcd n m = d at *
  have dln : d ≤ n := Nat.le_of_dvd hn dn
  have dlm : d ≤ m := Nat.le_of_dvd hm dm
  have hf : ∀ k, k < n → f k = f (k % d) := fun k hk => by
    have := hg k (by omega)
    unfold catF at this
    rw [if_pos hk] at this
    exact this
  have hgm : ∀ k, k < m → g k = f (k % d) := fun k hk => by
    have := hg (k + n) (by omega)
    unfold catF at this
    rw [if_neg (by omega), show k + n - n = k by omega] at this
    obtain ⟨q, hq⟩ := dn
    rw [this, hq, Nat.add_mul_mod_self_left]
  obtain ⟨r1, r2⟩ := root_le (f := f) hn
  obtain ⟨a1, a2, a3⟩ := root_is (f := f) hn
  have cr := per_cyc hn r1 a1 a2
  have cd := per_cyc (f := f) hn hd0 (Nat.mod_eq_zero_of_dvd dn) (per_iff.mpr (fun k hk => by rw [hf (k + d) hk, Nat.add_mod_right, ← hf k (by omega)]))
  have cg := cyc_gcd _ _ cr cd
  have g0 : 1 ≤ Nat.gcd (rootN f n) d := Nat.gcd_pos_of_pos_left _ r1
  have gle := cyc_root hn g0 cg
  have gr : Nat.gcd (rootN f n) d = rootN f n := Nat.le_antisymm (Nat.le_of_dvd r1 (Nat.gcd_dvd_left _ _)) gle
  have rd : rootN f n ∣ d := by rw [← gr]; exact Nat.gcd_dvd_right _ _
  have rld : rootN f n ≤ d := Nat.le_of_dvd hd0 rd
  generalize rootN f n = r at *
  have hr : ∀ x, x < n → f x = f (x % r) := fun x hx => per_mod r1 a2 hx
  have pg : per g m r = true := per_iff.mpr (fun k hk => by
    have l1 := Nat.mod_lt (k + r) (show d > 0 by omega)
    have l2 := Nat.mod_lt k (show d > 0 by omega)
    rw [hgm (k + r) hk, hgm k (by omega), hr ((k + r) % d) (by omega), hr (k % d) (by omega), Nat.mod_mod_of_dvd _ rd, Nat.mod_mod_of_dvd _ rd, Nat.add_mod_right])
  refine ⟨?_, r2, by omega, fun k hk => ?_⟩
  · by_cases z : rootN g m ≤ r
    · exact z
    · exact absurd ⟨Nat.mod_eq_zero_of_dvd (Nat.dvd_trans rd dm), pg⟩ ((root_is (f := g) hm).2.2 r r1 (by omega))
  · rw [hgm k (by omega), Nat.mod_eq_of_lt (by omega)]
theorem root_com {n m : Nat} (hn : 1 ≤ n) (hm : 1 ≤ m) (e : rootN g m = rootN f n) (ha : ∀ k, k < rootN f n → f k = g k) : com f n g m = true := by
  obtain ⟨r1, r2⟩ := root_le (f := f) hn
  obtain ⟨a1, a2, _⟩ := root_is (f := f) hn
  obtain ⟨b1, b2, _⟩ := root_is (f := g) hm
  rw [e] at b1 b2
  generalize rootN f n = r at *
  have hf : ∀ x, x < n → f x = f (x % r) := fun x hx => per_mod r1 a2 hx
  have hg : ∀ x, x < m → g x = f (x % r) := fun x hx => by rw [per_mod r1 b2 hx, ha _ (Nat.mod_lt _ r1)]
  have dn : r ∣ n := Nat.dvd_of_mod_eq_zero a1
  have dm : r ∣ m := Nat.dvd_of_mod_eq_zero b1
  have sh : ∀ k w, r ∣ w → w ≤ k → (k - w) % r = k % r := fun k w hw hk => by
    obtain ⟨q, rfl⟩ := hw
    conv => rhs; rw [show k = k - r * q + r * q by omega]
    rw [Nat.add_mul_mod_self_left]
  refine com_iff.mpr (fun k hk => ?_)
  unfold catF
  by_cases z : k < n
  · rw [if_pos z, hf k z]
    by_cases y : k < m
    · rw [if_pos y, hg k y]
    · rw [if_neg y, hf (k - m) (by omega), sh k m dm (by omega)]
  · rw [if_neg z, hg (k - n) (by omega), sh k n dn (by omega)]
    by_cases y : k < m
    · rw [if_pos y, hg k y]
    · rw [if_neg y, hf (k - m) (by omega), sh k m dm (by omega)]
theorem com_0l {m : Nat} : com f 0 g m = true := com_iff.mpr (fun k hk => by unfold catF; rw [if_neg (by omega), if_pos (by omega)]; rfl)
/-- how many signs the root has that both have -/
def shN (f : Nat → Int32) (n : Nat) (g : Nat → Int32) (m : Nat) : Nat := if n = 0 then (if m = 0 then 0 else rootN g m) else if m = 0 then rootN f n else if rootN g m = rootN f n then (if lcp f 0 g 0 (min n m) < rootN f n then 0 else rootN f n) else 0
theorem shN_com {n m : Nat} (hn : 1 ≤ n) (hm : 1 ≤ m) : com f n g m = decide (¬ shN f n g m = 0) := by
  obtain ⟨r1, r2⟩ := root_le (f := f) hn
  obtain ⟨r3, r4⟩ := root_le (f := g) hm
  unfold shN
  rw [if_neg (by omega), if_neg (by omega)]
  by_cases e : rootN g m = rootN f n
  · rw [if_pos e]
    by_cases z : lcp f 0 g 0 (min n m) < rootN f n
    · rw [if_pos z]
      refine Bool.eq_false_iff.mpr (fun h => ?_)
      obtain ⟨_, _, _, h4⟩ := com_root hn hm h
      have := lcp_ge (f := f) (g := g) (a := 0) (b := 0) (m := min n m) (c := rootN f n) (by omega) (fun k hk => by rw [Nat.zero_add]; exact h4 k hk)
      omega
    · rw [if_neg z, decide_eq_true (by omega)]
      exact root_com hn hm e (fun k hk => by have := lcp_eq (f := f) (g := g) (a := 0) (b := 0) (m := min n m) (k := k) (by omega); rw [Nat.zero_add] at this; exact this)
  · rw [if_neg e]
    refine Bool.eq_false_iff.mpr (fun h => ?_)
    obtain ⟨h1, _⟩ := com_root hn hm h
    obtain ⟨h2, _⟩ := com_root hm hn (com_sym h)
    omega
theorem shN_le {n m : Nat} : shN f n g m ≤ n + m := by
  unfold shN
  split
  · split
    · omega
    · next h => have := (root_le (f := g) (show 1 ≤ m by omega)).2; omega
  · next hn =>
    have := (root_le (f := f) (show 1 ≤ n by omega)).2
    split
    · omega
    · split
      · split <;> omega
      · omega
theorem is_e (h : TC ts tc N) (hi : i < 7) : fX4_isEmpty ts i = some (if N i = 0 then 1 else 0) := by
  have hN := (h i hi).2.1
  by_cases e : N i = 0
  · rw [if_pos e]; exact ps (by rw [(h i hi).1, e]; rfl) rfl
  · rw [if_neg e]; exact ns (by rw [(h i hi).1, nI_eq0 (by omega)]; exact e) rfl
theorem tx_shared (h : TC ts tc N) (hi : i < 7) (hj : j < 7) (hfu : 1000 ≤ fu) : fX3_sharedSize fu ts tc i j = some (nI (shN (tc i) (N i) (tc j) (N j))) := by
  have hNi := (h i hi).2.1
  have hNj := (h j hj).2.1
  have e1 := is_e h hi
  have e2 := is_e h hj
  have r1 := tx_root (fu := fu) h hi hfu
  have r2 := tx_root (fu := fu) h hj hfu
  unfold shN
  by_cases z : N i = 0
  · rw [if_pos z] at e1 ⊢
    exact bs e1 (ns i32_10 (bs r2 rfl))
  · rw [if_neg z] at e1 r1 ⊢
    obtain ⟨q1, q2⟩ := root_le (f := tc i) (show 1 ≤ N i by omega)
    by_cases y : N j = 0
    · rw [if_pos y] at e2 ⊢
      exact bs e1 (ps rfl (bs r1 (bs e2 (ns i32_10 rfl))))
    · rw [if_neg y] at e2 r2 ⊢
      obtain ⟨q3, q4⟩ := root_le (f := tc j) (show 1 ≤ N j by omega)
      have a1 := tx_alike (fu := fu) (a := 0) (b := 0) h hi hj (by omega) (by omega) (by omega)
      have hl := lcp_le (f := tc i) (g := tc j) (a := 0) (b := 0) (m := min (N i) (N j))
      rw [Nat.sub_zero, Nat.sub_zero, ← i_0] at a1
      by_cases x : rootN (tc j) (N j) = rootN (tc i) (N i)
      · rw [if_pos x]
        have lt := nI_ltI (show lcp (tc i) 0 (tc j) 0 (min (N i) (N j)) < 2 ^ 31 by omega) (show rootN (tc i) (N i) < 2 ^ 31 by omega)
        by_cases w : lcp (tc i) 0 (tc j) 0 (min (N i) (N j)) < rootN (tc i) (N i)
        · rw [if_pos w]
          exact bs e1 (ps rfl (bs r1 (bs e2 (ps rfl (bs r2 (ps (by rw [x]) (bs a1 (ps (lt.mpr w) rfl))))))))
        · rw [if_neg w]
          exact bs e1 (ps rfl (bs r1 (bs e2 (ps rfl (bs r2 (ps (by rw [x]) (bs a1 (ns (fun v => w (lt.mp v)) rfl))))))))
      · rw [if_neg x]
        exact bs e1 (ps rfl (bs r1 (bs e2 (ps rfl (bs r2 (ns (fun v => x ((nI_eq (by omega) (by omega)).mp v)) rfl))))))
theorem ckF_ok {x : UInt32} (h : FP.fIsNaN x = false) : ckF x = some x := by
  unfold ckF
  rw [if_pos]
  rw [UInt32.le_iff_toNat_le, UInt32.toNat_and, show (0x7fffffff : UInt32).toNat = 2 ^ 31 - 1 from rfl, Nat.and_two_pow_sub_one_eq_mod]
  have h2 : ¬ FP.fIsNaN x = true := by rw [h]; decide
  have h3 : ¬ 2139095040 < x.toNat % 2 ^ 31 := fun z => h2 ((FP.Core.isNaN_bits32 x).mpr z)
  show x.toNat % 2 ^ 31 ≤ 2139095040
  omega
theorem ckD_ok {x : UInt64} (h : FP.dIsNaN x = false) : ckD x = some x := by
  unfold ckD
  rw [if_pos]
  rw [UInt64.le_iff_toNat_le, UInt64.toNat_and, show (0x7fffffffffffffff : UInt64).toNat = 2 ^ 63 - 1 from rfl, Nat.and_two_pow_sub_one_eq_mod]
  have h2 : ¬ FP.dIsNaN x = true := by rw [h]; decide
  have h3 : ¬ 9218868437227405312 < x.toNat % 2 ^ 63 := fun z => h2 ((FP.Core.isNaN_bits x).mpr z)
  show x.toNat % 2 ^ 63 ≤ 9218868437227405312
  omega
theorem fdiv_ok {a b : Int32} (hb : b ≠ 0) : FP.fIsNaN (FP.fdiv (FP.i2f a) (FP.i2f b)) = false := FP.Core.fdiv_out (FP.Core.i2f_fin a).notNaN (FP.Core.i2f_fin b) (fun z => FP.Core.i2f_ne_zero hb ((FP.Core.zero_bits232 _).mp z))
theorem ddiv_ok {a b : Int32} (hb : b ≠ 0) : FP.dIsNaN (FP.ddiv (FP.i2d a) (FP.i2d b)) = false := FP.Core.ddiv_out (FP.Core.i2d_fin a).notNaN (FP.Core.i2d_fin b) (fun z => FP.Core.i2d_ne_zero hb ((FP.Core.zero_bits2 _).mp z))
theorem f2d_ok {a : UInt32} (h : FP.fIsNaN a = false) : FP.dIsNaN (FP.f2d a) = false := (FP.f2d_nan a).trans h
theorem mp_M (h : RM ce sz N T) (hi : i < 6) (hfu : 1000 ≤ fu) {w : UInt64} : ∀ (d p c q : Nat), 1 ≤ p → p + d = N i + 1 → d < q → ckD (FP.ddiv (FP.i2d (nI (c + sumB (per (T i) (N i)) d p))) (FP.i2d (nI (cntB (per (T i) (N i)) (N i) 1)))) = some w → fX6_meanPeriod_36 fu ce sz (nI i) q (nI c) (nI p) th = some (w, th) := by
  intro d
  have hN := (h i hi).2.1
  induction d with
  | zero =>
    intro p c q hp hc hq hw
    obtain ⟨q, rfl⟩ : ∃ k, q = k + 1 := ⟨q - 1, by omega⟩
    rw [fX6_meanPeriod_36]
    exact bs (h.len hi) (ps ((nI_ltI (by omega) (by omega)).mpr (by omega)) (bs (rm_pers h hi hfu) (bs hw rfl)))
  | succ d ih =>
    intro p c q hp hc hq hw
    obtain ⟨q, rfl⟩ : ∃ k, q = k + 1 := ⟨q - 1, by omega⟩
    have hle : ¬ nI (N i) < nI p := fun z => by have := (nI_ltI (by omega) (by omega)).mp z; omega
    rw [sumB] at hw
    rw [fX6_meanPeriod_36]
    by_cases b : per (T i) (N i) p = true
    · rw [if_pos b, ← Nat.add_assoc] at hw
      have h2 := ih (p + 1) (c + p) q (by omega) (by omega) (by omega) hw
      rw [← nI_1, ← nI_add] at h2
      exact bs (h.len hi) (ns hle (bs (rm_per h hi hp (by omega) hfu) (ns (bI_n0 b) h2)))
    · rw [if_neg b, Nat.zero_add] at hw
      have h2 := ih (p + 1) c q (by omega) (by omega) (by omega) hw
      rw [← nI_1] at h2
      have h3 : fX6_meanPeriod_36 fu ce sz (nI i) q (nI c + 0) (nI p + 1) th = some (w, th) := by rw [Int32.add_zero]; exact h2
      exact bs (h.len hi) (ns hle (bs (rm_per h hi hp (by omega) hfu) (ps (bI_0.mpr (Bool.eq_false_iff.mpr b)) h3)))
theorem cnt_pos : ∀ (d p : Nat), (∃ k, p ≤ k ∧ k < p + d ∧ P k = true) → 1 ≤ cntB P d p := by
  intro d
  induction d with
  | zero => rintro p ⟨k, h1, h2, _⟩; omega
  | succ d ih =>
    rintro p ⟨k, h1, h2, h3⟩
    rw [cntB]
    by_cases z : k = p
    · rw [← z, if_pos h3]; omega
    · have := ih (p + 1) ⟨k, by omega, by omega, h3⟩
      omega
/-- the checksum of d slots from k on, behind v -/
def chk (N : Nat → Nat) (T : Nat → Nat → Int32) : Nat → Nat → Int64 → Int64
  | 0, _, v => v
  | d + 1, k, v => chk N T d (k + 1) ((((((v * (31 : Int64)) + (nI (N k)).toInt64) * (31 : Int64)) + (hs (T k) (N k) 0 0).toInt64) * (31 : Int64)) + (nI (cntB (per (T k) (N k)) (N k) 1)).toInt64)
theorem ck_C (I : INV ts tc ce sz N) (hfu : 1000 ≤ fu) : ∀ (d k q : Nat) (v : Int64), k + d = 6 → d < q → fX5_checksum_6 fu ts tc q v (nI k) = some (chk N tc d k v) := by
  intro d
  induction d with
  | zero =>
    intro k q v hk hq
    obtain ⟨q, rfl⟩ : ∃ k, q = k + 1 := ⟨q - 1, by omega⟩
    rw [fX5_checksum_6]
    exact ps (by rw [i_6]; exact (nI_leI (by omega) (by omega)).mpr (by omega)) rfl
  | succ d ih =>
    intro k q v hk hq
    obtain ⟨q, rfl⟩ : ∃ k, q = k + 1 := ⟨q - 1, by omega⟩
    have h2 := ih (k + 1) q ((((((v * (31 : Int64)) + (nI (N k)).toInt64) * (31 : Int64)) + (hs (tc k) (N k) 0 0).toInt64) * (31 : Int64)) + (nI (cntB (per (tc k) (N k)) (N k) 1)).toInt64) (by omega) (by omega)
    rw [← nI_1] at h2
    rw [fX5_checksum_6, chk]
    have hk6 : k < 6 := by omega
    exact ns (fun z => by rw [i_6] at z; have := (nI_leI (by omega) (by omega)).mp z; omega) (bs (ldA_nI hk6 (by decide)) (bs (tx_size I.1 (lt7 hk6)) (bs (tx_hash I hk6 hfu 0) (bs (tx_cper I.1 (lt7 hk6) hfu) h2))))
theorem ck_M (I : INV ts tc ce sz N) (hfu : 1000 ≤ fu) : ∀ (d k q : Nat) (v : Int64), k + d = 6 → d < q → fX6_checksum_11 fu ce sz q v (nI k) th = some (chk N tc d k v, th) := by
  intro d
  induction d with
  | zero =>
    intro k q v hk hq
    obtain ⟨q, rfl⟩ : ∃ k, q = k + 1 := ⟨q - 1, by omega⟩
    rw [fX6_checksum_11]
    exact ps (by rw [i_6]; exact (nI_leI (by omega) (by omega)).mpr (by omega)) rfl
  | succ d ih =>
    intro k q v hk hq
    obtain ⟨q, rfl⟩ : ∃ k, q = k + 1 := ⟨q - 1, by omega⟩
    have h2 := ih (k + 1) q ((((((v * (31 : Int64)) + (nI (N k)).toInt64) * (31 : Int64)) + (hs (tc k) (N k) 0 0).toInt64) * (31 : Int64)) + (nI (cntB (per (tc k) (N k)) (N k) 1)).toInt64) (by omega) (by omega)
    rw [← nI_1, Int64.mul_comm v 31, Int64.mul_comm _ 31, Int64.mul_comm _ 31] at h2
    rw [fX6_checksum_11, chk, Int64.mul_comm v 31, Int64.mul_comm _ 31, Int64.mul_comm _ 31]
    have hk6 : k < 6 := by omega
    exact ns (fun z => by rw [i_6] at z; have := (nI_leI (by omega) (by omega)).mp z; omega) (bs (I.2.1.len hk6) (bs (rm_hash I hk6 hfu 0) (bs (rm_pers I.2.1 hk6 hfu) h2)))
theorem q_checksum (I : INV ts tc ce sz N) (hfu : 2000 ≤ fu) : ∃ v, fX5_checksum fu ts tc = some v ∧ fX6_checksum fu th ce sz = some (v, 0) := ⟨chk N tc 6 0 7, ck_C I (by omega) 6 0 fu 7 (by omega) (by omega), ck_M I (by omega) 6 0 fu 7 (by omega) (by omega)⟩
end QJ
theorem q_commute {fu : Nat} {ts : Nat → Int32} {tc : Nat → Nat → Int32} {ol : Nat → Int64} {ce : Nat → Int32} {sz : Nat → Int32} {th : Int32} {N : Nat → Nat} (I : INV ts tc ce sz N) (hfu : 2000 ≤ fu) (x1 x2 : Int32) : ∃ (k : Int32) (g : Nat → Int64) (b : Int32) (t : Int32) (ce' : Nat → Int32), fL_commute fu ts tc ol x1 x2 = some (k, g) ∧ fX6_commute fu th ce sz x1 x2 = some (b, t, ce') ∧ t = k ∧ (k = 0 → (b = 0 ∧ g 0 = 0) ∨ (¬ b = 0 ∧ g 0 = 1)) ∧ ∃ N', INV ts tc ce' sz N' := by
  rcases slots x1 with ⟨j1, h1, rfl⟩ | ⟨b1, b2⟩
  · rcases slots x2 with ⟨j2, h2, rfl⟩ | ⟨b1, b2⟩
    · have c1 := tx_com (fu := fu) I.1 (lt7 h1) (lt7 h2) (by omega)
      obtain ⟨ce', m1, m2⟩ := rm_com (fu := fu) I.2.1 h1 h2 (by omega)
      cases e : com (tc j1) (N j1) (tc j2) (N j2) with
      | false =>
        rw [e] at c1 m1
        exact ⟨0, _, 0, 0, ce', wo_commute (bs (sl_ok h1) (es (bs (sl_ok h2) (es (bs (c1) (bs (ckZ_0) (rfl))))))), bs (no2_ok h1 h2 _) (ps (rfl) (bs (m1) (ps (rfl) (rfl)))), rfl, fun _ => Or.inl ⟨rfl, upd_s⟩, N, inv_ce I m2⟩
      | true =>
        rw [e] at c1 m1
        exact ⟨0, _, 1, 0, ce', wo_commute (bs (sl_ok h1) (es (bs (sl_ok h2) (es (bs (c1) (bs (ckZ_1) (rfl))))))), bs (no2_ok h1 h2 _) (ps (rfl) (bs (m1) (ns (i32_10) (rfl)))), rfl, fun _ => Or.inr ⟨i32_10, upd_s⟩, N, inv_ce I m2⟩
    · exact ⟨1, ol, 0, 1, ce, we_commute_1 (bs (sl_ok h1) (es (bs (b1) (er (rfl))))), by simp [fX6_commute, fX6_isNoOf, fX6_isNoOfAll, fX6_isNoPlace, sl_no h1, b2], rfl, fun h => absurd h (by decide), N, I⟩
  · exact ⟨1, ol, 0, 1, ce, we_commute_1 (bs (b1) (er (rfl))), by simp [fX6_commute, fX6_isNoOf, fX6_isNoOfAll, fX6_isNoPlace, b2], rfl, fun h => absurd h (by decide), N, I⟩
theorem cr36 {fu : Nat} {y1 y2 y3 th : Int32} {ce sz : Nat → Int32} : fX6_commonRoot_36 fu y1 y2 y3 th ce sz = some (0, 2, ce, sz) := by
  unfold fX6_commonRoot_36
  exact bs (mo_thrown1 _ _) (ns i32_10 rfl)
theorem q_commonRoot {fu : Nat} {ts : Nat → Int32} {tc : Nat → Nat → Int32} {ol : Nat → Int64} {ce : Nat → Int32} {sz : Nat → Int32} {th : Int32} {N : Nat → Nat} (I : INV ts tc ce sz N) (hfu : 2000 ≤ fu) (x1 x2 x3 : Int32) : ∃ (k : Int32) (ts' : Nat → Int32) (tc' : Nat → Nat → Int32) (g : Nat → Int64) (b : Int32) (t : Int32) (ce' : Nat → Int32) (sz' : Nat → Int32), fL_commonRoot fu ts tc ol x1 x2 x3 = some (k, ts', tc', g) ∧ fX6_commonRoot fu th ce sz x1 x2 x3 = some (b, t, ce', sz') ∧ t = k ∧ (k = 0 → g 0 = b.toInt64) ∧ ∃ N', INV ts' tc' ce' sz' N' := by
  rcases slots x1 with ⟨j1, h1, rfl⟩ | ⟨b1, b2⟩
  · rcases slots x2 with ⟨j2, h2, rfl⟩ | ⟨b1, b2⟩
    · rcases slots x3 with ⟨j3, h3, rfl⟩ | ⟨b1, b2⟩
      · have hN2 := (I.1 j2 (by omega)).2.1
        have hN3 := (I.1 j3 (by omega)).2.1
        have c1 := tx_shared (fu := fu) I.1 (lt7 h2) (lt7 h3) (by omega)
        have hle := shN_le (f := tc j2) (g := tc j3) (n := N j2) (m := N j3)
        have em := is_e I.1 (lt7 h2)
        have s0 := nI_eq0 (show shN (tc j2) (N j2) (tc j3) (N j3) < 2 ^ 31 by omega)
        have z0 : nI (N j2) + nI (N j3) = 0 ↔ N j2 + N j3 = 0 := by rw [nI_add]; exact nI_eq0 (by omega)
        obtain ⟨ce', m1, m2⟩ := rm_com (fu := fu) I.2.1 h2 h3 (by omega)
        have I' := inv_ce I m2
        by_cases e : N j2 + N j3 = 0
        · have e1 : shN (tc j2) (N j2) (tc j3) (N j3) = 0 := by unfold shN; rw [if_pos (by omega), if_pos (by omega)]
          exact ⟨2, ts, tc, ol, 0, 2, ce, sz, we_commonRoot_2 (bs (sl_ok h1) (es (bs (sl_ok h2) (es (bs (sl_ok h3) (es (bs (c1) (ps (s0.mpr e1) (rfl))))))))), bs (no3_ok h1 h2 h3 _) (ps (rfl) (bs (I.2.1.len h2) (bs (I.2.1.len h3) (ps (z0.mpr e) (cr36))))), rfl, fun h => absurd h (by decide), N, I⟩
        · by_cases e1 : shN (tc j2) (N j2) (tc j3) (N j3) = 0
          · have hc : com (tc j2) (N j2) (tc j3) (N j3) = false := by
              by_cases a1 : N j2 = 0
              · exfalso
                unfold shN at e1
                rw [if_pos a1, if_neg (by omega)] at e1
                have := (root_le (f := tc j3) (show 1 ≤ N j3 by omega)).1
                omega
              · by_cases a2 : N j3 = 0
                · exfalso
                  unfold shN at e1
                  rw [if_neg a1, if_pos a2] at e1
                  have := (root_le (f := tc j2) (show 1 ≤ N j2 by omega)).1
                  omega
                · rw [shN_com (by omega) (by omega), e1]; rfl
            rw [hc] at m1
            exact ⟨2, ts, tc, ol, 0, 2, ce', sz, we_commonRoot_2 (bs (sl_ok h1) (es (bs (sl_ok h2) (es (bs (sl_ok h3) (es (bs (c1) (ps (s0.mpr e1) (rfl))))))))), bs (no3_ok h1 h2 h3 _) (ps (rfl) (bs (I.2.1.len h2) (bs (I.2.1.len h3) (ns (fun z => e (z0.mp z)) (bs (m1) (ps (rfl) (cr36))))))), rfl, fun h => absurd h (by decide), N, I'⟩
          · have hc : com (tc j2) (N j2) (tc j3) (N j3) = true := by
              by_cases a1 : N j2 = 0
              · rw [a1]; exact com_0l
              · by_cases a2 : N j3 = 0
                · rw [a2]; exact com_sym com_0l
                · rw [shN_com (by omega) (by omega), decide_eq_true e1]
            rw [hc] at m1
            have s0' := fun z => e1 (s0.mp z)
            by_cases a1 : N j2 = 0
            · have e3 : shN (tc j2) (N j2) (tc j3) (N j3) = rootN (tc j3) (N j3) := by unfold shN; rw [if_pos a1, if_neg (by omega)]
              obtain ⟨r1, r2⟩ := root_le (f := tc j3) (show 1 ≤ N j3 by omega)
              rw [if_pos a1] at em
              rw [e3] at c1 s0'
              obtain ⟨t1, t2, p1, p2⟩ := bp_part (fu := fu) (r := j1) (a := 0) (b := rootN (tc j3) (N j3)) (F := fun k => tc j3 k) I.1 h1 h3 (by omega) r2 (fun k hk => by rw [Nat.zero_add]) (by omega)
              rw [Nat.sub_zero, ← i_0] at p1
              rw [Nat.sub_zero] at p2
              have mr := rm_root (fu := fu) I'.2.1 h3 (by omega) (by omega)
              obtain ⟨cb, m4, m5⟩ := rm_becomeR (fu := fu) (s := j1) (n := rootN (tc j3) (N j3)) (r := 60 * j3) (f := fun k => tc j3 k) I'.2.1 h1 ⟨by omega, fun k hk => (I'.2.1 j3 h3).2.2 k (by omega)⟩ (by omega) (by omega) (by omega)
              exact ⟨0, t1, t2, _, _, 0, cb, _, wo_commonRoot (bs (sl_ok h1) (es (bs (sl_ok h2) (es (bs (sl_ok h3) (es (bs (c1) (ns (s0') (bs (em) (ns (i32_10) (bs (p1) (rfl)))))))))))), bs (no3_ok h1 h2 h3 _) (ps (rfl) (bs (I.2.1.len h2) (bs (I.2.1.len h3) (ns (fun z => e (z0.mp z)) (bs (m1) (ns (i32_10) (show fX6_commonRoot_41 fu (nI j1) (nI j2) (nI j3) 0 0 ce' sz = _ from bs (mo_thrown0 _ _) (ps (rfl) (bs (I'.2.1.len h2) (ps ((nI_eq0 (by omega)).mpr a1) (show fX6_commonRoot_64 fu (nI j1) (nI j3) 0 ce' sz = _ from bs (rm_base) (bs (mr) (bs (m4) (rfl)))))))))))))), rfl, fun _ => upd_s, inv_new I' h1 p2 m5 (fun k hk => I.2.2 j3 h3 _ (by omega))⟩
            · have e3 : shN (tc j2) (N j2) (tc j3) (N j3) = rootN (tc j2) (N j2) := by
                unfold shN at e1 ⊢
                rw [if_neg a1] at e1 ⊢
                by_cases a2 : N j3 = 0
                · rw [if_pos a2]
                · rw [if_neg a2] at e1 ⊢
                  by_cases a3 : rootN (tc j3) (N j3) = rootN (tc j2) (N j2)
                  · rw [if_pos a3] at e1 ⊢
                    by_cases a4 : lcp (tc j2) 0 (tc j3) 0 (min (N j2) (N j3)) < rootN (tc j2) (N j2)
                    · rw [if_pos a4] at e1; exact absurd rfl e1
                    · rw [if_neg a4]
                  · rw [if_neg a3] at e1; exact absurd rfl e1
              obtain ⟨r1, r2⟩ := root_le (f := tc j2) (show 1 ≤ N j2 by omega)
              rw [if_neg a1] at em
              rw [e3] at c1 s0'
              obtain ⟨t1, t2, p1, p2⟩ := bp_part (fu := fu) (r := j1) (a := 0) (b := rootN (tc j2) (N j2)) (F := fun k => tc j2 k) I.1 h1 h2 (by omega) r2 (fun k hk => by rw [Nat.zero_add]) (by omega)
              rw [Nat.sub_zero, ← i_0] at p1
              rw [Nat.sub_zero] at p2
              have mr := rm_root (fu := fu) I'.2.1 h2 (by omega) (by omega)
              obtain ⟨cb, m4, m5⟩ := rm_becomeR (fu := fu) (s := j1) (n := rootN (tc j2) (N j2)) (r := 60 * j2) (f := fun k => tc j2 k) I'.2.1 h1 ⟨by omega, fun k hk => (I'.2.1 j2 h2).2.2 k (by omega)⟩ (by omega) (by omega) (by omega)
              exact ⟨0, t1, t2, _, _, 0, cb, _, wo_commonRoot (bs (sl_ok h1) (es (bs (sl_ok h2) (es (bs (sl_ok h3) (es (bs (c1) (ns (s0') (bs (em) (ps (rfl) (bs (p1) (rfl)))))))))))), bs (no3_ok h1 h2 h3 _) (ps (rfl) (bs (I.2.1.len h2) (bs (I.2.1.len h3) (ns (fun z => e (z0.mp z)) (bs (m1) (ns (i32_10) (show fX6_commonRoot_41 fu (nI j1) (nI j2) (nI j3) 0 0 ce' sz = _ from bs (mo_thrown0 _ _) (ps (rfl) (bs (I'.2.1.len h2) (ns (fun z => a1 ((nI_eq0 (by omega)).mp z)) (show fX6_commonRoot_64 fu (nI j1) (nI j2) 0 ce' sz = _ from bs (rm_base) (bs (mr) (bs (m4) (rfl)))))))))))))), rfl, fun _ => upd_s, inv_new I' h1 p2 m5 (fun k hk => I.2.2 j2 h2 _ (by omega))⟩
      · exact ⟨1, ts, tc, ol, 0, 1, ce, sz, we_commonRoot_1 (bs (sl_ok h1) (es (bs (sl_ok h2) (es (bs (b1) (er (rfl))))))), by simp [fX6_commonRoot, fX6_isNoOf, fX6_isNoOfAll, fX6_isNoPlace, sl_no h1, sl_no h2, b2], rfl, fun h => absurd h (by decide), N, I⟩
    · exact ⟨1, ts, tc, ol, 0, 1, ce, sz, we_commonRoot_1 (bs (sl_ok h1) (es (bs (b1) (er (rfl))))), by simp [fX6_commonRoot, fX6_isNoOf, fX6_isNoOfAll, fX6_isNoPlace, sl_no h1, b2], rfl, fun h => absurd h (by decide), N, I⟩
  · exact ⟨1, ts, tc, ol, 0, 1, ce, sz, we_commonRoot_1 (bs (b1) (er (rfl))), by simp [fX6_commonRoot, fX6_isNoOf, fX6_isNoOfAll, fX6_isNoPlace, b2], rfl, fun h => absurd h (by decide), N, I⟩
theorem q_rootShare {fu : Nat} {ts : Nat → Int32} {tc : Nat → Nat → Int32} {od : Nat → UInt64} {ce : Nat → Int32} {sz : Nat → Int32} {th : Int32} {N : Nat → Nat} (I : INV ts tc ce sz N) (hfu : 2000 ≤ fu) (x1 : Int32) : ∃ (k : Int32) (g : Nat → UInt64) (b : UInt32) (t : Int32), fL_rootShare fu ts tc od x1 = some (k, g) ∧ fX6_rootShare fu th ce sz x1 = some (b, t) ∧ t = k ∧ (k = 0 → ckD (FP.f2d b) = some (g 0)) ∧ ∃ N', INV ts tc ce sz N' := by
  rcases slots x1 with ⟨j1, h1, rfl⟩ | ⟨b1, b2⟩
  · have hN1 := (I.1 j1 (by omega)).2.1
    have em := is_e I.1 (lt7 h1)
    have z0 := nI_eq0 (show N j1 < 2 ^ 31 by omega)
    by_cases e : N j1 = 0
    · rw [if_pos e] at em
      exact ⟨2, od, FP.fconst0, 2, we_rootShare_2 (bs (sl_ok h1) (es (bs (em) (ns (i32_10) (rfl))))), bs (sl_no h1 _) (ps (rfl) (bs (I.2.1.len h1) (ps (z0.mpr e) (show fX6_rootShare_23 fu ce sz (nI j1) 1 0 = _ from bs (mo_thrown1 _ _) (ns (i32_10) (rfl)))))), rfl, fun h => absurd h (by decide), N, I⟩
    · rw [if_neg e] at em
      have c1 := tx_root (fu := fu) I.1 (lt7 h1) (by omega)
      rw [if_neg e] at c1
      have m1 := rm_root (fu := fu) I.2.1 h1 (by omega) (by omega)
      have hnn := fdiv_ok (a := nI (rootN (tc j1) (N j1))) (b := nI (N j1)) (fun z => e (z0.mp z))
      have k1 := ckF_ok hnn
      have k2 := ckD_ok (f2d_ok hnn)
      exact ⟨0, _, _, 0, wo_rootShare (bs (sl_ok h1) (es (bs (em) (ps (rfl) (bs (c1) (bs (tx_size I.1 (lt7 h1)) (bs (k1) (rfl)))))))) k2, bs (sl_no h1 _) (ps (rfl) (bs (I.2.1.len h1) (ns (fun z => e (z0.mp z)) (show fX6_rootShare_23 fu ce sz (nI j1) 0 0 = _ from bs (mo_thrown0 _ _) (ps (rfl) (bs (m1) (bs (I.2.1.len h1) (bs (k1) (rfl))))))))), rfl, fun _ => by rw [upd_s]; exact k2, N, I⟩
  · exact ⟨1, od, FP.fconst0, 1, we_rootShare_1 (bs (b1) (er (rfl))), by simp [fX6_rootShare, fX6_isNoOf, fX6_isNoOfAll, fX6_isNoPlace, b2], rfl, fun h => absurd h (by decide), N, I⟩
theorem q_meanPeriod {fu : Nat} {ts : Nat → Int32} {tc : Nat → Nat → Int32} {od : Nat → UInt64} {ce : Nat → Int32} {sz : Nat → Int32} {th : Int32} {N : Nat → Nat} (I : INV ts tc ce sz N) (hfu : 2000 ≤ fu) (x1 : Int32) : ∃ (k : Int32) (g : Nat → UInt64) (b : UInt64) (t : Int32), fL_meanPeriod fu ts tc od x1 = some (k, g) ∧ fX6_meanPeriod fu th ce sz x1 = some (b, t) ∧ t = k ∧ (k = 0 → g 0 = b ∧ ckD b = some b) ∧ ∃ N', INV ts tc ce sz N' := by
  rcases slots x1 with ⟨j1, h1, rfl⟩ | ⟨b1, b2⟩
  · have hN1 := (I.1 j1 (by omega)).2.1
    have z0 := nI_eq0 (show N j1 < 2 ^ 31 by omega)
    have c1 := tx_cper (fu := fu) I.1 (lt7 h1) (by omega)
    have cl := cntB_le (P := per (tc j1) (N j1)) (d := N j1) (p := 1)
    have y0 := nI_eq0 (show cntB (per (tc j1) (N j1)) (N j1) 1 < 2 ^ 31 by omega)
    by_cases e : N j1 = 0
    · have e1 : cntB (per (tc j1) (N j1)) (N j1) 1 = 0 := by omega
      exact ⟨2, od, FP.dconst0, 2, we_meanPeriod_2 (bs (sl_ok h1) (es (bs (c1) (ps (y0.mpr e1) (rfl))))), bs (sl_no h1 _) (ps (rfl) (bs (I.2.1.len h1) (ps (z0.mpr e) (show fX6_meanPeriod_23 fu ce sz (nI j1) 1 0 = _ from bs (mo_thrown1 _ _) (ns (i32_10) (rfl)))))), rfl, fun h => absurd h (by decide), N, I⟩
    · have e1 : 1 ≤ cntB (per (tc j1) (N j1)) (N j1) 1 := cnt_pos _ _ ⟨N j1, by omega, by omega, per_iff.mpr (fun k hk => by omega)⟩
      have e2 : ¬ nI (cntB (per (tc j1) (N j1)) (N j1) 1) = 0 := fun z => by have := y0.mp z; omega
      have c2 := tx_sper (fu := fu) I.1 (lt7 h1) (by omega)
      have k1 := ckD_ok (ddiv_ok (a := nI (sumB (per (tc j1) (N j1)) (N j1) 1)) e2)
      have m1 := mp_M (fu := fu) (th := 0) I.2.1 h1 (by omega) (N j1) 1 0 fu (by omega) (by omega) (by omega) (by rw [Nat.zero_add]; exact k1)
      exact ⟨0, _, _, 0, wo_meanPeriod (bs (sl_ok h1) (es (bs (c1) (ns (e2) (bs (c2) (bs (k1) (rfl))))))), bs (sl_no h1 _) (ps (rfl) (bs (I.2.1.len h1) (ns (fun z => e (z0.mp z)) (show fX6_meanPeriod_23 fu ce sz (nI j1) 0 0 = _ from bs (mo_thrown0 _ _) (ps (rfl) (m1)))))), rfl, fun _ => ⟨upd_s, ckD_ok (ddiv_ok e2)⟩, N, I⟩
  · exact ⟨1, od, FP.dconst0, 1, we_meanPeriod_1 (bs (b1) (er (rfl))), by simp [fX6_meanPeriod, fX6_isNoOf, fX6_isNoOfAll, fX6_isNoPlace, b2], rfl, fun h => absurd h (by decide), N, I⟩
