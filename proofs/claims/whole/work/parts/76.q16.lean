/-! THE COMPARISON twice: the longest part that stands at two places, and the least of these -/
section QP
variable {ts : Nat → Int32} {tc tc0 : Nat → Nat → Int32} {ce sz rk pl : Nat → Int32} {N : Nat → Nat} {T : Nat → Nat → Int32} {i j s fu r : Nat} {th : Int32} {f g F : Nat → Int32} {n : Nat}
theorem ct_one {w m : Nat} (h : RM ce sz N T) (hi : i < 6) (hw : RW ce w m g) (hfu : 1000 ≤ fu) : ∀ (d p c q : Nat), p + d = N i → d < q → fX6_counted_6 fu ce sz (nI i) (nI w) (nI m) 0 q (nI c) (nI p) = some (nI (c + cntB (stands (T i) (N i) g m) d p)) := by
  intro d
  have hNi := (h i hi).2.1
  induction d with
  | zero =>
    intro p c q hp hq
    obtain ⟨q, rfl⟩ : ∃ k, q = k + 1 := ⟨q - 1, by omega⟩
    rw [fX6_counted_6]
    exact bs (h.len hi) (ps ((nI_leI (by omega) (by omega)).mpr (by omega)) rfl)
  | succ d ih =>
    intro p c q hp hq
    obtain ⟨q, rfl⟩ : ∃ k, q = k + 1 := ⟨q - 1, by omega⟩
    have hle : ¬ nI (N i) ≤ nI p := fun z => by have := (nI_leI (by omega) (by omega)).mp z; omega
    have st := rm_stands (fu := fu) (p := p) (h.rw hi) hw (by omega) hfu
    rw [fX6_counted_6, cntB, ← Nat.add_assoc]
    cases b : stands (T i) (N i) g m p with
    | true =>
      rw [b] at st
      have h2 := ih (p + 1) (c + 1) q (by omega) (by omega)
      rw [← nI_1 p, ← nI_1 c] at h2
      rw [if_pos rfl]
      exact bs (h.len hi) (ns hle (bs rm_base (bs (h.len hi) (bs st (ns i32_10 (ns i32_10 (ps rfl h2)))))))
    | false =>
      rw [b] at st
      have h2 := ih (p + 1) c q (by omega) (by omega)
      rw [← nI_1 p] at h2
      rw [if_neg (by decide), Nat.add_zero]
      have h3 : fX6_counted_49 fu ce sz (nI i) (nI w) (nI m) 0 (nI p) 0 (fX6_counted_6 fu ce sz (nI i) (nI w) (nI m) 0 q) 0 (nI c) = some (nI (c + cntB (stands (T i) (N i) g m) d (p + 1))) := by
        unfold fX6_counted_49
        rw [Int32.add_zero]
        exact ps rfl h2
      exact bs (h.len hi) (ns hle (bs rm_base (bs (h.len hi) (bs st (ps rfl h3)))))
/-- the part of L signs at p stands at another place too -/
def rp (f : Nat → Int32) (n p L : Nat) : Prop := p + L ≤ n ∧ ∃ q, q < n ∧ q ≠ p ∧ q + L ≤ n ∧ ∀ k, k < L → f (q + k) = f (p + k)
/-- the part of L signs at p is less than that at q -/
def pls (f : Nat → Int32) (L p q : Nat) : Prop := ∃ k, k < L ∧ (∀ j, j < k → f (p + j) = f (q + j)) ∧ (f (p + k)).toInt < (f (q + k)).toInt
theorem pls_trans {L a b c : Nat} (h1 : pls f L a b) (h2 : pls f L b c) : pls f L a c := by
  obtain ⟨k, k1, k2, k3⟩ := h1
  obtain ⟨l, l1, l2, l3⟩ := h2
  rcases Nat.lt_trichotomy k l with z | z | z
  · exact ⟨k, k1, fun j hj => (k2 j hj).trans (l2 j (by omega)), by rw [← l2 k z]; exact k3⟩
  · subst z
    exact ⟨k, k1, fun j hj => (k2 j hj).trans (l2 j hj), by omega⟩
  · exact ⟨l, l1, fun j hj => (k2 j (by omega)).trans (l2 j hj), by rw [k2 l z]; exact l3⟩
theorem pls_same {L a b : Nat} (h1 : ¬ pls f L a b) (h2 : ¬ pls f L b a) : ∀ k, k < L → f (a + k) = f (b + k) := by
  have hl := lcp_le (f := f) (g := f) (a := a) (b := b) (m := L)
  by_cases c : lcp f a f b L < L
  · exfalso
    have ne := lcp_ne c
    have ne2 : (f (a + lcp f a f b L)).toInt ≠ (f (b + lcp f a f b L)).toInt := fun z => ne (Int32.toInt_inj.mp z)
    by_cases z : (f (a + lcp f a f b L)).toInt < (f (b + lcp f a f b L)).toInt
    · exact h1 ⟨_, c, fun j hj => lcp_eq hj, z⟩
    · exact h2 ⟨_, c, fun j hj => (lcp_eq hj).symm, by omega⟩
  · exact fun k hk => lcp_eq (m := L) (by omega)
theorem pls_ord {L p q : Nat} (hL : L ≤ 60) (hsm : small f n) (hp : p + L ≤ n) (hq : q + L ≤ n) : (¬ 0 ≤ ordI (fun k => f (p + k)) L (fun k => f (q + k)) L) ↔ pls f L p q := by
  rw [ord_neg hL hL (fun k hk => hsm (p + k) (by omega)) (fun k hk => hsm (q + k) (by omega))]
  constructor
  · rintro ⟨k, k1, k2, k3, k4⟩
    rcases k4 with k4 | k4
    · omega
    · exact ⟨k, k2, k3, k4.2⟩
  · rintro ⟨k, k1, k2, k3⟩
    exact ⟨k, by omega, k1, k2, Or.inr ⟨k1, k3⟩⟩
theorem ls_pls {L a b : Nat} (h : ls f n a b) (ha : a + L ≤ n) : ¬ pls f L b a := by
  rintro ⟨k, k1, k2, k3⟩
  obtain ⟨l, l1, l2, l3, l4⟩ := h
  rcases Nat.lt_trichotomy l k with z | z | z
  · rcases l4 with l4 | ⟨l4, l5⟩
    · omega
    · rw [k2 l z] at l5; omega
  · subst z
    rcases l4 with l4 | ⟨l4, l5⟩ <;> omega
  · rw [l3 k z] at k3; omega
theorem rp_cnt {p L : Nat} (hp : p < n) (hpL : p + L ≤ n) : 2 ≤ cntB (stands f n (fun k => f (p + k)) L) n 0 ↔ rp f n p L := by
  have self : stands f n (fun k => f (p + k)) L p = true := stands_iff.mpr ⟨hpL, fun k hk => rfl⟩
  constructor
  · intro h
    by_cases z : ∃ q, q < n ∧ q ≠ p ∧ q + L ≤ n ∧ ∀ k, k < L → f (q + k) = f (p + k)
    · exact ⟨hpL, z⟩
    · exfalso
      rw [cnt_sN, sN_one (a := p) n hp (fun k hk hne => by
        rw [Nat.zero_add, if_neg]
        intro y
        obtain ⟨y1, y2⟩ := stands_iff.mp y
        exact z ⟨k, hk, hne, y1, y2⟩), Nat.zero_add, if_pos self] at h
      omega
  · rintro ⟨_, q, q1, q2, q3, q4⟩
    have sq : stands f n (fun k => f (p + k)) L q = true := stands_iff.mpr ⟨q3, q4⟩
    have h1 := cnt_lt (P := fun k => decide (k = q)) (Q := stands f n (fun k => f (p + k)) L) (a := p) n 0 (fun k _ _ hk => by rw [of_decide_eq_true hk]; exact sq) (by omega) (by omega) (decide_eq_false (fun z => q2 z.symm)) self
    have h2 := cnt_pos (P := fun k => decide (k = q)) n 0 ⟨q, by omega, by omega, decide_eq_true rfl⟩
    omega
theorem rp_sh {L : Nat} (hn : n ≤ 60) (hsm : small f n) (hL : 1 ≤ L) : (∃ p, rp f n p L) ↔ ∃ r, r < n ∧ L ≤ shR f n r := by
  constructor
  · rintro ⟨p, p1, q, q1, q2, q3, q4⟩
    have hp : p < n := by omega
    by_cases z : cr f n 0 q < cr f n 0 p
    · exact ⟨cr f n 0 p, by have := cr_bd (f := f) (lo := 0) hn hsm (Nat.zero_le p) hp; omega, (shR_iff hn hsm hp hL p1).mpr ⟨q, q1, q3, q4, z⟩⟩
    · have : cr f n 0 p ≠ cr f n 0 q := fun y => q2 (cr_inj hn hsm hp q1 y).symm
      exact ⟨cr f n 0 q, by have := cr_bd (f := f) (lo := 0) hn hsm (Nat.zero_le q) q1; omega, (shR_iff hn hsm q1 hL q3).mpr ⟨p, hp, p1, fun k hk => (q4 k hk).symm, by omega⟩⟩
  · rintro ⟨r, r1, r2⟩
    obtain ⟨h1, h2⟩ := eR_is hn hsm r1
    have hs := shR_le (f := f) (n := n) (r := r)
    have r2' : L ≤ shR f n (cr f n 0 (eR f n r)) := by rw [h2]; exact r2
    obtain ⟨q, q1, q2, q3, q4⟩ := (shR_iff hn hsm h1 hL (by omega)).mp r2'
    exact ⟨eR f n r, by omega, q, q1, fun z => by rw [z] at q4; omega, q2, q3⟩
/-- what the class has found among the ranks below r -/
def TW (f : Nat → Int32) (n r L e : Nat) : Prop := (∀ r', r' < r → r' < n → shR f n r' ≤ L) ∧ ((L = 0 ∧ e = 0) ∨ (1 ≤ L ∧ ∃ r0, r0 < n ∧ e = eR f n r0 ∧ shR f n r0 = L ∧ ∀ r', r' < r0 → shR f n r' < L))
theorem tw_C (h : TC ts tc N) (hi : i < 7) (hsm : small (tc i) (N i)) (ha : ARR (tc i) (N i) rk pl) (hfu : 1000 ≤ fu) : ∀ (d r L e q : Nat), N i ≤ r + d → r ≤ N i + 1 → d < q → TW (tc i) (N i) r L e → ∃ L' e', TW (tc i) (N i) (N i) L' e' ∧ ∀ v, (fX5_becomePart fu ts tc s i (nI e') (nI e' + nI L')) = some v → fX5_twice_31 fu s i q (nI L) (nI e) (nI r) ts tc rk pl = some (.ok v.1, v.2.1, v.2.2, rk, pl) := by
  intro d
  have hNi := (h i hi).2.1
  have done : ∀ (r L e q : Nat), N i ≤ r → r ≤ N i + 1 → 0 < q → TW (tc i) (N i) r L e → ∃ L' e', TW (tc i) (N i) (N i) L' e' ∧ ∀ v, (fX5_becomePart fu ts tc s i (nI e') (nI e' + nI L')) = some v → fX5_twice_31 fu s i q (nI L) (nI e) (nI r) ts tc rk pl = some (.ok v.1, v.2.1, v.2.2, rk, pl) := by
    intro r L e q hr hr2 hq ht
    obtain ⟨q, rfl⟩ : ∃ k, q = k + 1 := ⟨q - 1, by omega⟩
    refine ⟨L, e, ⟨fun r' h1 h2 => ht.1 r' (by omega) h2, ht.2⟩, fun v hv => ?_⟩
    rw [fX5_twice_31]
    exact bs (tx_size h hi) (ps ((nI_leI (by omega) (by omega)).mpr hr) (bs hv rfl))
  induction d with
  | zero => intro r L e q hr hr2 hq ht; exact done r L e q (by omega) hr2 (by omega) ht
  | succ d ih =>
    intro r L e q hr hr2 hq ht
    by_cases z : N i ≤ r
    · exact done r L e q z hr2 (by omega) ht
    · obtain ⟨q, rfl⟩ : ∃ k, q = k + 1 := ⟨q - 1, by omega⟩
      have hle : ¬ nI (N i) ≤ nI r := fun y => z ((nI_leI (by omega) (by omega)).mp y)
      have sb := sb_C (fu := fu) h hi hsm ha (r := r) (by omega) hfu
      have pb := pb_C (r := r) hNi hsm ha (by omega)
      have hs := shR_le (f := tc i) (n := N i) (r := r)
      have hL60 : L ≤ 60 := by
        rcases ht.2 with ⟨y, _⟩ | ⟨_, r0, y1, y2, y3, _⟩
        · omega
        · have := shR_le (f := tc i) (n := N i) (r := r0); omega
      have le := nI_leI (show shR (tc i) (N i) r < 2 ^ 31 by omega) (show L < 2 ^ 31 by omega)
      by_cases c : shR (tc i) (N i) r ≤ L
      · obtain ⟨L', e', t1, t2⟩ := ih (r + 1) L e q (by omega) (by omega) (by omega) ⟨fun r' h1 h2 => by
          by_cases y : r' = r
          · rw [y]; exact c
          · exact ht.1 r' (by omega) h2, ht.2⟩
        refine ⟨L', e', t1, fun v hv => ?_⟩
        have t3 := t2 v hv
        rw [← nI_1] at t3
        rw [fX5_twice_31]
        exact bs (tx_size h hi) (ns hle (bs sb (ps (le.mpr c) t3)))
      · obtain ⟨L', e', t1, t2⟩ := ih (r + 1) (shR (tc i) (N i) r) (eR (tc i) (N i) r) q (by omega) (by omega) (by omega) ⟨fun r' h1 h2 => by
          by_cases y : r' = r
          · rw [y]; exact Nat.le_refl _
          · have := ht.1 r' (by omega) h2; omega, Or.inr ⟨by omega, r, by omega, rfl, rfl, fun r' h1 => by have := ht.1 r' h1 (by omega); omega⟩⟩
        refine ⟨L', e', t1, fun v hv => ?_⟩
        have t3 := t2 v hv
        rw [← nI_1] at t3
        rw [fX5_twice_31]
        exact bs (tx_size h hi) (ns hle (bs sb (ns (fun y => c (le.mp y)) (bs pb t3))))
/-- the model's best so far: none, or the least of the parts that stand twice, begun below p -/
def BS (f : Nat → Int32) (n L p : Nat) (y : Int32) : Prop := (y = -1 ∧ ∀ p', p' < p → ¬ rp f n p' L) ∨ ∃ b, y = nI b ∧ b < n ∧ rp f n b L ∧ ∀ p', p' < p → rp f n p' L → ¬ pls f L p' b
theorem nI_m {b : Nat} (h : b < 2 ^ 31) : ¬ nI b = -1 := fun z => by
  have := congrArg Int32.toInt z
  rw [nI_toInt h, show (-1 : Int32).toInt = -1 from rfl] at this
  omega
theorem pls_irr {L a : Nat} : ¬ pls f L a a := by
  rintro ⟨k, _, _, h⟩
  omega
theorem t80_none {x1 : Int32} {L p : Nat} {K : Int32 → Int32 → Int32 → (Nat → Int32) → (Nat → Int32) → Option (Int32 × Int32 × (Nat → Int32) × (Nat → Int32))} (w : Bool) : fX6_twice_80 fu x1 (nI i) (-1) (nI L) (nI p) K (bI w) th ce sz = K (if w = true then nI p else -1) (nI p + 1) th ce sz := by
  unfold fX6_twice_80 fX6_twice_111 fX6_twice_116
  cases w with
  | false => exact ps rfl (ps rfl rfl)
  | true => exact ps rfl (ns i32_10 (ns i32_10 rfl))
theorem t80_some (h : RM ce sz N T) (hi : i < 6) (hfu : 1000 ≤ fu) {x1 : Int32} {L p b : Nat} (hp : p + L ≤ N i) (hb : b + L ≤ N i) {K : Int32 → Int32 → Int32 → (Nat → Int32) → (Nat → Int32) → Option (Int32 × Int32 × (Nat → Int32) × (Nat → Int32))} (w : Bool) : fX6_twice_80 fu x1 (nI i) (nI b) (nI L) (nI p) K (bI w) th ce sz = K (if (w && decide (¬ 0 ≤ ordI (fun k => T i (p + k)) L (fun k => T i (b + k)) L)) = true then nI p else nI b) (nI p + 1) th ce sz := by
  have hNi := (h i hi).2.1
  have od := rm_order (fu := fu) ((h.rw hi).sub (a := p) (b := L) hp) ((h.rw hi).sub (a := b) (b := L) hb) hfu
  rw [← nI_add, ← nI_add] at od
  have nm := nI_m (show b < 2 ^ 31 by omega)
  unfold fX6_twice_80 fX6_twice_111 fX6_twice_116
  by_cases z : 0 ≤ ordI (fun k => T i (p + k)) L (fun k => T i (b + k)) L
  · rw [decide_eq_false (fun y => y z), Bool.and_false, if_neg (show ¬ false = true by decide)]
    cases w with
    | false => exact ns nm (bs rm_base (bs rm_base (bs od (ps z (ps rfl rfl)))))
    | true => exact ns nm (bs rm_base (bs rm_base (bs od (ps z (ns i32_10 (ps rfl rfl))))))
  · rw [decide_eq_true z, Bool.and_true]
    cases w with
    | false => exact ns nm (bs rm_base (bs rm_base (bs od (ns z (ps rfl rfl)))))
    | true => exact ns nm (bs rm_base (bs rm_base (bs od (ns z (ns i32_10 (ns i32_10 rfl))))))
theorem ti_M (h : RM ce sz N T) (hi : i < 6) (hsm : small (T i) (N i)) (hfu : 1000 ≤ fu) {x1 : Int32} {L : Nat} (hL : 1 ≤ L) (hLn : L ≤ N i) {K : Int32 → Int32 → Int32 → (Nat → Int32) → (Nat → Int32) → Option (Int32 × Int32 × (Nat → Int32) × (Nat → Int32))} : ∀ (d p q : Nat) (y : Int32), p + d + L = N i + 1 → d < q → BS (T i) (N i) L p y → ∃ y', BS (T i) (N i) L (N i) y' ∧ fX6_twice_37 fu x1 (nI i) (nI L) K q y (nI p) th ce sz = K y' (nI L) th ce sz := by
  intro d
  have hNi := (h i hi).2.1
  have hl0 : ¬ nI L ≤ 0 := fun z => by rw [i_0] at z; have := (nI_leI (by omega) (by omega)).mp z; omega
  induction d with
  | zero =>
    intro p q y hp hq hb
    obtain ⟨q, rfl⟩ : ∃ k, q = k + 1 := ⟨q - 1, by omega⟩
    refine ⟨y, ?_, ?_⟩
    · have no : ∀ p', ¬ p' < p → ¬ rp (T i) (N i) p' L := fun p' h1 h2 => by have := h2.1; omega
      rcases hb with ⟨b1, b2⟩ | ⟨b, b1, b2, b3, b4⟩
      · exact Or.inl ⟨b1, fun p' _ h2 => by
          by_cases c : p' < p
          · exact b2 p' c h2
          · exact no p' c h2⟩
      · exact Or.inr ⟨b, b1, b2, b3, fun p' _ h2 => by
          by_cases c : p' < p
          · exact b4 p' c h2
          · exact absurd h2 (no p' c)⟩
    · rw [fX6_twice_37]
      exact ns hl0 (bs (h.len hi) (ps (by rw [nI_add]; exact (nI_ltI (by omega) (by omega)).mpr (by omega)) rfl))
  | succ d ih =>
    intro p q y hp hq hb
    obtain ⟨q, rfl⟩ : ∃ k, q = k + 1 := ⟨q - 1, by omega⟩
    have hlt : ¬ nI (N i) < nI p + nI L := fun z => by rw [nI_add] at z; have := (nI_ltI (by omega) (by omega)).mp z; omega
    have ct := ct_one (fu := fu) h hi ((h.rw hi).sub (a := p) (b := L) (by omega)) hfu (N i) 0 0 fu (by omega) (by omega)
    rw [Nat.zero_add, ← nI_add] at ct
    have cl := cntB_le (P := stands (T i) (N i) (fun k => T i (p + k)) L) (d := N i) (p := 0)
    have key := rp_cnt (f := T i) (n := N i) (p := p) (L := L) (by omega) (by omega)
    have le1 : nI (cntB (stands (T i) (N i) (fun k => T i (p + k)) L) (N i) 0) ≤ 1 ↔ ¬ rp (T i) (N i) p L := by
      rw [← key, i_1, nI_leI (by omega) (by omega)]; omega
    have go : ∀ (w : Bool) (y2 : Int32), (w = true ↔ rp (T i) (N i) p L) → (∀ K' : Int32 → Int32 → Int32 → (Nat → Int32) → (Nat → Int32) → Option (Int32 × Int32 × (Nat → Int32) × (Nat → Int32)), fX6_twice_80 fu x1 (nI i) y (nI L) (nI p) K' (bI w) th ce sz = K' y2 (nI p + 1) th ce sz) → BS (T i) (N i) L (p + 1) y2 → ∃ y', BS (T i) (N i) L (N i) y' ∧ fX6_twice_37 fu x1 (nI i) (nI L) K (q + 1) y (nI p) th ce sz = K y' (nI L) th ce sz := by
      intro w y2 hw ht hb2
      obtain ⟨y', e1, e2⟩ := ih (p + 1) q y2 (by omega) (by omega) hb2
      rw [← nI_1] at e2
      refine ⟨y', e1, ?_⟩
      rw [fX6_twice_37]
      cases w with
      | false => exact ns hl0 (bs (h.len hi) (ns hlt (bs rm_base (bs ct (ps (le1.mpr (fun z => by have := hw.mpr z; cases this)) ((ht _).trans e2))))))
      | true => exact ns hl0 (bs (h.len hi) (ns hlt (bs rm_base (bs ct (ns (fun z => le1.mp z (hw.mp rfl)) ((ht _).trans e2))))))
    by_cases c : rp (T i) (N i) p L
    · rcases hb with ⟨b1, b2⟩ | ⟨b, b1, b2, b3, b4⟩
      · subst b1
        refine go true (nI p) ⟨fun _ => c, fun _ => rfl⟩ (fun K' => t80_none true) (Or.inr ⟨p, rfl, by omega, c, fun p' h1 h2 => ?_⟩)
        by_cases e : p' = p
        · rw [e]; exact pls_irr
        · exact absurd h2 (b2 p' (by omega))
      · subst b1
        have po := pls_ord (f := T i) (n := N i) (p := p) (q := b) (by omega) hsm c.1 b3.1
        by_cases z : pls (T i) L p b
        · refine go true (nI p) ⟨fun _ => c, fun _ => rfl⟩ (fun K' => by rw [t80_some h hi hfu c.1 b3.1 true, decide_eq_true (po.mpr z)]; rfl) (Or.inr ⟨p, rfl, by omega, c, fun p' h1 h2 h3 => ?_⟩)
          by_cases e : p' = p
          · rw [e] at h3; exact pls_irr h3
          · exact b4 p' (by omega) h2 (pls_trans h3 z)
        · refine go true (nI b) ⟨fun _ => c, fun _ => rfl⟩ (fun K' => by rw [t80_some h hi hfu c.1 b3.1 true, decide_eq_false (fun y => z (po.mp y))]; rfl) (Or.inr ⟨b, rfl, b2, b3, fun p' h1 h2 => ?_⟩)
          by_cases e : p' = p
          · rw [e]; exact z
          · exact b4 p' (by omega) h2
    · rcases hb with ⟨b1, b2⟩ | ⟨b, b1, b2, b3, b4⟩
      · subst b1
        refine go false (-1) ⟨fun z => Bool.noConfusion z, fun z => absurd z c⟩ (fun K' => t80_none false) (Or.inl ⟨rfl, fun p' h1 h2 => ?_⟩)
        by_cases e : p' = p
        · rw [e] at h2; exact c h2
        · exact b2 p' (by omega) h2
      · subst b1
        refine go false (nI b) ⟨fun z => Bool.noConfusion z, fun z => absurd z c⟩ (fun K' => by rw [t80_some h hi hfu (by omega) b3.1 false, Bool.false_and]; rfl) (Or.inr ⟨b, rfl, b2, b3, fun p' h1 h2 => ?_⟩)
        by_cases e : p' = p
        · rw [e] at h2; exact absurd h2 c
        · exact b4 p' (by omega) h2
/-- what the model finds -/
def MW (f : Nat → Int32) (n L : Nat) (y : Int32) : Prop := (∀ L', L < L' → ∀ p, ¬ rp f n p L') ∧ ((L = 0 ∧ y = -1) ∨ (1 ≤ L ∧ ∃ b, y = nI b ∧ b < n ∧ rp f n b L ∧ ∀ p', p' < n → rp f n p' L → ¬ pls f L p' b))
theorem to_M (h : RM ce sz N T) (hi : i < 6) (hsm : small (T i) (N i)) (hfu : 1000 ≤ fu) {x1 : Int32} : ∀ (m q : Nat), m ≤ N i → m < q → (∀ L', m ≤ L' → 1 ≤ L' → ∀ p, ¬ rp (T i) (N i) p L') → ∃ L y, MW (T i) (N i) L y ∧ fX6_twice_21 fu x1 (nI i) q (-1) (nI m) th ce sz = fX6_twice_144 fu x1 (nI i) y (nI L) th ce sz := by
  intro m
  have hNi := (h i hi).2.1
  have zero : ∀ q, 0 < q → (∀ L', 0 ≤ L' → 1 ≤ L' → ∀ p, ¬ rp (T i) (N i) p L') → MW (T i) (N i) 0 (-1) ∧ fX6_twice_21 fu x1 (nI i) q (-1) (nI 0) th ce sz = fX6_twice_144 fu x1 (nI i) (-1) (nI 0) th ce sz := by
    intro q hq hno
    obtain ⟨q, rfl⟩ : ∃ k, q = k + 1 := ⟨q - 1, by omega⟩
    refine ⟨⟨fun L' h1 => hno L' (by omega) (by omega), Or.inl ⟨rfl, rfl⟩⟩, ?_⟩
    rw [fX6_twice_21]
    exact ps rfl (ps (by decide) rfl)
  induction m with
  | zero =>
    intro q hm hq hno
    exact ⟨0, -1, (zero q hq hno).1, (zero q hq hno).2⟩
  | succ m ih =>
    intro q hm hq hno
    obtain ⟨q, rfl⟩ : ∃ k, q = k + 1 := ⟨q - 1, by omega⟩
    have e1 : nI (m + 1) + (-1) = nI m := by rw [nI_m1 (by omega)]; rfl
    have hl : ¬ nI (m + 1) ≤ 0 := fun z => by rw [i_0] at z; have := (nI_leI (by omega) (by omega)).mp z; omega
    by_cases z : m = 0
    · subst z
      obtain ⟨a1, a2⟩ := zero q (by omega) (fun L' _ h2 => hno L' (by omega) h2)
      refine ⟨0, -1, a1, ?_⟩
      rw [fX6_twice_21]
      refine ps rfl (ns hl ?_)
      rw [e1]
      obtain ⟨f2, rfl⟩ : ∃ k, fu = k + 1 := ⟨fu - 1, by omega⟩
      rw [fX6_twice_37]
      exact ps (by decide) a2
    · obtain ⟨y', b1, b2⟩ := ti_M (fu := fu) (th := th) (x1 := x1) (K := fX6_twice_21 fu x1 (nI i) q) h hi hsm hfu (show 1 ≤ m by omega) (by omega) (N i + 1 - m) 0 fu (-1) (by omega) (by omega) (Or.inl ⟨rfl, fun p' h1 => by omega⟩)
      rw [← i_0] at b2
      have step : fX6_twice_21 fu x1 (nI i) (q + 1) (-1) (nI (m + 1)) th ce sz = fX6_twice_21 fu x1 (nI i) q y' (nI m) th ce sz := by
        rw [fX6_twice_21]
        refine ps rfl (ns hl ?_)
        rw [e1]
        exact b2
      rw [step]
      rcases b1 with ⟨c1, c2⟩ | ⟨b, c1, c2, c3, c4⟩
      · subst c1
        refine ih q (by omega) (by omega) (fun L' h1 h2 p hp => ?_)
        by_cases e : L' = m
        · rw [e] at hp; exact c2 p (by have := hp.1; omega) hp
        · exact hno L' (by omega) h2 p hp
      · subst c1
        refine ⟨m, nI b, ⟨fun L' h1 => hno L' (by omega) (by omega), Or.inr ⟨by omega, b, rfl, c2, c3, c4⟩⟩, ?_⟩
        obtain ⟨q, rfl⟩ : ∃ k, q = k + 1 := ⟨q - 1, by omega⟩
        rw [fX6_twice_21]
        exact ns (nI_m (by omega)) rfl
theorem rp_e {r0 : Nat} (hn : n ≤ 60) (hsm : small f n) (hr : r0 < n) (hL : 1 ≤ shR f n r0) : rp f n (eR f n r0) (shR f n r0) := by
  obtain ⟨h1, h2⟩ := eR_is hn hsm hr
  have hs := shR_le (f := f) (n := n) (r := r0)
  have : shR f n r0 ≤ shR f n (cr f n 0 (eR f n r0)) := by rw [h2]; exact Nat.le_refl _
  obtain ⟨q, q1, q2, q3, q4⟩ := (shR_iff hn hsm h1 hL (by omega)).mp this
  exact ⟨by omega, q, q1, fun z => by rw [z] at q4; omega, q2, q3⟩
theorem tw_same {L L' e : Nat} {y : Int32} (hn : n ≤ 60) (hsm : small f n) (hC : TW f n n L e) (hM : MW f n L' y) : L' = L ∧ ((L = 0 ∧ e = 0 ∧ y = -1) ∨ (1 ≤ L ∧ e + L ≤ n ∧ ∃ b, y = nI b ∧ b + L ≤ n ∧ ∀ k, k < L → f (b + k) = f (e + k))) := by
  obtain ⟨c1, c2⟩ := hC
  obtain ⟨m1, m2⟩ := hM
  have up : L' ≤ L := by
    rcases m2 with ⟨m2, _⟩ | ⟨m2, b, _, _, b3, _⟩
    · omega
    · obtain ⟨r, r1, r2⟩ := (rp_sh hn hsm m2).mp ⟨b, b3⟩
      have := c1 r r1 r1
      omega
  rcases c2 with ⟨d1, d2⟩ | ⟨d1, r0, d2, d3, d4, d5⟩
  · refine ⟨by omega, Or.inl ⟨d1, d2, ?_⟩⟩
    rcases m2 with ⟨_, m3⟩ | ⟨m2, _⟩
    · exact m3
    · omega
  · subst d3
    have re := rp_e hn hsm d2 (by omega)
    rw [d4] at re
    have eq : L' = L := by
      by_cases z : L' < L
      · exact absurd re (m1 L z _)
      · omega
    subst eq
    rcases m2 with ⟨m2, _⟩ | ⟨m2, b, b1, b2, b3, b4⟩
    · omega
    · refine ⟨rfl, Or.inr ⟨d1, re.1, b, b1, b3.1, ?_⟩⟩
      obtain ⟨he, hr0⟩ := eR_is hn hsm d2
      have n1 := b4 _ he re
      have n2 : ¬ pls f L' b (eR f n r0) := by
        -- of the two places of b's part, the one that is later in the order of ends
        obtain ⟨x, x1, x2, x3, x4⟩ : ∃ x, x < n ∧ x + L' ≤ n ∧ (∀ k, k < L' → f (x + k) = f (b + k)) ∧ L' ≤ shR f n (cr f n 0 x) := by
          obtain ⟨p1, q, q1, q2, q3, q4⟩ := b3
          by_cases z : cr f n 0 q < cr f n 0 b
          · exact ⟨b, b2, p1, fun k _ => rfl, (shR_iff hn hsm b2 d1 p1).mpr ⟨q, q1, q3, q4, z⟩⟩
          · have : cr f n 0 b ≠ cr f n 0 q := fun y => q2 (cr_inj hn hsm b2 q1 y).symm
            exact ⟨q, q1, q3, q4, (shR_iff hn hsm q1 d1 q3).mpr ⟨b, b2, p1, fun k hk => (q4 k hk).symm, by omega⟩⟩
        have rx : r0 ≤ cr f n 0 x := by
          by_cases z : cr f n 0 x < r0
          · have := d5 _ z; omega
          · omega
        have nx : ¬ pls f L' x (eR f n r0) := by
          by_cases z : x = eR f n r0
          · rw [z]; exact pls_irr
          · have hne : cr f n 0 (eR f n r0) ≠ cr f n 0 x := fun y => z (cr_inj hn hsm he x1 y).symm
            exact ls_pls ((cr_iff (lo := 0) hn hsm (by omega) he (by omega) x1).mp (by omega)) re.1
        rintro ⟨k, k1, k2, k3⟩
        exact nx ⟨k, k1, fun j hj => (x3 j (by omega)).trans (k2 j hj), by rw [x3 k k1]; exact k3⟩
      exact pls_same n2 n1
end QP
theorem q_twice {fu : Nat} {ts : Nat → Int32} {tc : Nat → Nat → Int32} {rk : Nat → Int32} {pl : Nat → Int32} {ol : Nat → Int64} {ce : Nat → Int32} {sz : Nat → Int32} {th : Int32} {N : Nat → Nat} (I : INV ts tc ce sz N) (hfu : 2000 ≤ fu) (x1 x2 : Int32) : ∃ (k : Int32) (ts' : Nat → Int32) (tc' : Nat → Nat → Int32) (rk' : Nat → Int32) (pl' : Nat → Int32) (g : Nat → Int64) (b : Int32) (t : Int32) (ce' : Nat → Int32) (sz' : Nat → Int32), fL_twice fu ts tc rk pl ol x1 x2 = some (k, ts', tc', rk', pl', g) ∧ fX6_twice fu th ce sz x1 x2 = some (b, t, ce', sz') ∧ t = k ∧ (k = 0 → g 0 = b.toInt64) ∧ ∃ N', INV ts' tc' ce' sz' N' := by
  rcases slots x1 with ⟨j1, h1, rfl⟩ | ⟨b1, b2⟩
  · rcases slots x2 with ⟨j2, h2, rfl⟩ | ⟨b1, b2⟩
    · have hN2 := (I.1 j2 (by omega)).2.1
      have hsm := inv_small I h2
      obtain ⟨rk', pl', a1, a2⟩ := tx_arr (fu := fu) (rk := rk) (pl := pl) I.1 (lt7 h2) hsm (by omega)
      obtain ⟨L, e, t1, t2⟩ := tw_C (fu := fu) (s := j1) I.1 (lt7 h2) hsm a2 (by omega) (N j2) 1 0 0 fu (by omega) (by omega) (by omega) ⟨fun r' h1 h2 => by rw [show r' = 0 by omega]; exact Nat.le_refl 0, Or.inl ⟨rfl, rfl⟩⟩
      obtain ⟨L', y, m1, m2⟩ := to_M (fu := fu) (th := 0) (x1 := nI j1) I.2.1 h2 hsm (by omega) (N j2) fu (Nat.le_refl _) (by omega) (fun L' k1 k2 p hp => by
        obtain ⟨p1, q, q1, q2, q3, _⟩ := hp
        omega)
      obtain ⟨e1, e2⟩ := tw_same hN2 hsm t1 m1
      subst e1
      rcases e2 with ⟨c1, c2, c3⟩ | ⟨c1, c2, b, c3, c4, c5⟩
      · subst c1 c2 c3
        obtain ⟨u1, u2, p1, p2⟩ := bp_part (fu := fu) (r := j1) (a := 0) (b := 0) (F := fun k => tc j2 k) I.1 h1 h2 (Nat.le_refl _) (by omega) (fun k hk => by omega) (by omega)
        have t3 := t2 _ (by rw [nI_add]; exact p1)
        obtain ⟨cb, m4, m5⟩ := rm_becomeR (fu := fu) (s := j1) (n := 0) (r := 60 * j2) (f := fun k => tc j2 k) I.2.1 h1 ⟨by omega, fun k hk => by omega⟩ (by omega) (by omega) (by omega)
        have m6 : fX6_become fu ce sz (nI j1) (nI (60 * j2) + 0) 0 = some (0, cb, updL sz j1 0) := by rw [Int32.add_zero]; exact m4
        have m7 : fX6_twice_144 fu (nI j1) (nI j2) (-1) (nI 0) 0 ce sz = some (0, 0, cb, updL sz j1 0) := bs rm_base (ps rfl (show fX6_twice_160 fu (-1) (nI 0) 0 (nI (60 * j2)) (nI j1) 0 ce sz = _ from ps rfl (bs m6 rfl)))
        exact ⟨0, u1, u2, rk', pl', _, 0, 0, cb, _, wo_twice (bs (sl_ok h1) (es (bs (sl_ok h2) (es (bs (a1) (t3)))))), bs (no2_ok h1 h2 _) (ps (rfl) (bs (I.2.1.len h2) (m2.trans m7))), rfl, fun _ => upd_s, inv_new I h1 p2 m5 (fun k hk => by omega)⟩
      · subst c3
        obtain ⟨u1, u2, p1, p2⟩ := bp_part (fu := fu) (r := j1) (a := e) (b := e + L') (F := fun k => tc j2 (e + k)) I.1 h1 h2 (by omega) c2 (fun k hk => rfl) (by omega)
        rw [show e + L' - e = L' by omega] at p1 p2
        have t3 := t2 _ (by rw [nI_add]; exact p1)
        obtain ⟨cb, m4, m5⟩ := rm_becomeR (fu := fu) (s := j1) (n := L') (r := 60 * j2 + b) (f := fun k => tc j2 (e + k)) I.2.1 h1 ⟨by omega, fun k hk => by rw [Nat.add_assoc, (I.2.1 j2 h2).2.2 (b + k) (by omega)]; exact c5 k hk⟩ (by omega) (by omega) (by omega)
        rw [← nI_add] at m4
        have nm := nI_m (show b < 2 ^ 31 by omega)
        have m7 : fX6_twice_144 fu (nI j1) (nI j2) (nI b) (nI L') 0 ce sz = some (nI L', 0, cb, updL sz j1 (nI L')) := bs rm_base (ns nm (show fX6_twice_160 fu (nI b) (nI L') (nI b) (nI (60 * j2)) (nI j1) 0 ce sz = _ from ns nm (bs m4 rfl)))
        exact ⟨0, u1, u2, rk', pl', _, _, 0, cb, _, wo_twice (bs (sl_ok h1) (es (bs (sl_ok h2) (es (bs (a1) (t3)))))), bs (no2_ok h1 h2 _) (ps (rfl) (bs (I.2.1.len h2) (m2.trans m7))), rfl, fun _ => upd_s, inv_new I h1 p2 m5 (fun k hk => I.2.2 j2 h2 _ (by omega))⟩
    · exact ⟨1, ts, tc, rk, pl, ol, 0, 1, ce, sz, we_twice_1 (bs (sl_ok h1) (es (bs (b1) (er (rfl))))), by simp [fX6_twice, fX6_isNoOf, fX6_isNoOfAll, fX6_isNoPlace, sl_no h1, b2], rfl, fun h => absurd h (by decide), N, I⟩
  · exact ⟨1, ts, tc, rk, pl, ol, 0, 1, ce, sz, we_twice_1 (bs (b1) (er (rfl))), by simp [fX6_twice, fX6_isNoOf, fX6_isNoOfAll, fX6_isNoPlace, b2], rfl, fun h => absurd h (by decide), N, I⟩
