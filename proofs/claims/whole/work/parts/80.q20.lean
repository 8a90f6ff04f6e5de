/-! isFree, the model's rounds, and the comparison -/
section QT
variable {ts : Nat → Int32} {tc tc0 : Nat → Nat → Int32} {ce sz sl bg op : Nat → Int32} {kn : Nat → Int64} {rm : Int32} {N : Nat → Nat} {T : Nat → Nat → Int32} {i j s fu r : Nat} {th x : Int32}
def cntO (op : Nat → Int32) : Nat := cntB (fun y => decide (¬ op y = 0)) 360 0
theorem om_loop : ∀ (d y c q : Nat), y + d = 360 → d < q → fX6_openMany_4 fu op q (nI c) (nI y) = some (nI (c + cntB (fun y => decide (¬ op y = 0)) d y)) := by
  intro d
  induction d with
  | zero =>
    intro y c q hy hq
    obtain ⟨q, rfl⟩ : ∃ k, q = k + 1 := ⟨q - 1, by omega⟩
    rw [fX6_openMany_4]
    exact ps (by rw [i_360]; exact (nI_leI (by omega) (by omega)).mpr (by omega)) rfl
  | succ d ih =>
    intro y c q hy hq
    obtain ⟨q, rfl⟩ : ∃ k, q = k + 1 := ⟨q - 1, by omega⟩
    have hle : ¬ 360 ≤ nI y := fun z => by rw [i_360] at z; have := (nI_leI (by omega) (by omega)).mp z; omega
    have l1 : ldA op 360 (nI y) = some (op y) := ldA_nI (by omega) (by decide)
    rw [fX6_openMany_4, cntB]
    by_cases z : op y = 0
    · have h2 := ih (y + 1) c q (by omega) (by omega)
      rw [← nI_1 y] at h2
      rw [if_neg (show ¬ decide (¬ op y = 0) = true from fun w => of_decide_eq_true w z), Nat.zero_add]
      have h3 : fX6_openMany_4 fu op q (nI c + 0) (nI y + 1) = some (nI (c + cntB (fun y => decide (¬ op y = 0)) d (y + 1))) := by rw [Int32.add_zero]; exact h2
      exact ns hle (bs l1 (ps z h3))
    · have h2 := ih (y + 1) (c + 1) q (by omega) (by omega)
      rw [← nI_1 y, ← nI_1 c] at h2
      rw [if_pos (show decide (¬ op y = 0) = true from decide_eq_true z), ← Nat.add_assoc]
      exact ns hle (bs l1 (ns z h2))
theorem om_M (hfu : 1000 ≤ fu) : fX6_openMany fu op = some (nI (cntO op)) := by
  have h2 := om_loop (fu := fu) (op := op) 360 0 0 fu (by omega) (by omega)
  rw [Nat.zero_add] at h2
  exact h2
theorem cntO_le : cntO op ≤ 360 := cntB_le
theorem cntO_mono {op' : Nat → Int32} (hm : mono op op') (h : cntO op' ≤ cntO op) : ∀ y, y < 360 → ¬ op' y = 0 → ¬ op y = 0 := fun y hy h1 h2 => by
  have := cnt_lt (P := fun y => decide (¬ op y = 0)) (Q := fun y => decide (¬ op' y = 0)) (a := y) 360 0 (fun k _ _ hk => decide_eq_true (hm k (of_decide_eq_true hk))) (by omega) (by omega) (decide_eq_false (fun z => z h2)) (decide_eq_true h1)
  unfold cntO at h
  omega
theorem r116_1 {y3 : Int32} {K : Int32 → Int32 → Int32 → (Nat → Int32) → Option (Int32 × Int32 × (Nat → Int32))} : ∀ (d y q : Nat), y + d = 360 → d < q → fX6_isFree_116 fu ce sz x y3 K q 1 (nI y) th op = K 1 y3 th op := by
  intro d
  induction d with
  | zero =>
    intro y q hy hq
    obtain ⟨q, rfl⟩ : ∃ k, q = k + 1 := ⟨q - 1, by omega⟩
    rw [fX6_isFree_116]
    exact ps (by rw [i_360]; exact (nI_leI (by omega) (by omega)).mpr (by omega)) rfl
  | succ d ih =>
    intro y q hy hq
    obtain ⟨q, rfl⟩ : ∃ k, q = k + 1 := ⟨q - 1, by omega⟩
    have h2 := ih (y + 1) q (by omega) (by omega)
    rw [← nI_1] at h2
    rw [fX6_isFree_116]
    exact ns (fun z => by rw [i_360] at z; have := (nI_leI (by omega) (by omega)).mp z; omega) (ns i32_10 h2)
theorem r116_0 (h : RM ce sz N T) (hfu : 1000 ≤ fu) {op0 : Nat → Int32} {y3 : Int32} {K : Int32 → Int32 → Int32 → (Nat → Int32) → Option (Int32 × Int32 × (Nat → Int32))} : ∀ (d y q : Nat) (op : Nat → Int32), y + d = 360 → d < q → GS x N T op → mono op0 op → (∀ y', y' < y → ¬ op0 y' = 0 → ∀ c, c < 6 → DM x N T op (y' / 60) (y' % 60) c) → ∃ op', (fX6_isFree_116 fu ce sz x y3 K q 0 (nI y) th op = K 1 y3 th op' ∧ Bad x N T) ∨ (fX6_isFree_116 fu ce sz x y3 K q 0 (nI y) th op = K 0 y3 th op' ∧ GS x N T op' ∧ mono op op' ∧ ∀ y', y' < 360 → ¬ op0 y' = 0 → ∀ c, c < 6 → DM x N T op' (y' / 60) (y' % 60) c) := by
  intro d
  induction d with
  | zero =>
    intro y q op hy hq hg hm hd
    obtain ⟨q, rfl⟩ : ∃ k, q = k + 1 := ⟨q - 1, by omega⟩
    refine ⟨op, Or.inr ⟨?_, hg, mono.refl, fun y' hy' => hd y' (by omega)⟩⟩
    rw [fX6_isFree_116]
    exact ps (by rw [i_360]; exact (nI_leI (by omega) (by omega)).mpr (by omega)) rfl
  | succ d ih =>
    intro y q op hy hq hg hm hd
    obtain ⟨q, rfl⟩ : ∃ k, q = k + 1 := ⟨q - 1, by omega⟩
    have hle : ¬ 360 ≤ nI y := fun z => by rw [i_360] at z; have := (nI_leI (by omega) (by omega)).mp z; omega
    have l1 : ldA op 360 (nI y) = some (op y) := ldA_nI (by omega) (by decide)
    by_cases z : op y = 0
    · obtain ⟨op', e⟩ := ih (y + 1) q op (by omega) (by omega) hg hm (fun y' hy' h0 => by
        by_cases w : y' = y
        · rw [w] at h0; exact absurd z (hm y h0)
        · exact hd y' (by omega) h0)
      have st : fX6_isFree_116 fu ce sz x y3 K (q + 1) 0 (nI y) th op = fX6_isFree_116 fu ce sz x y3 K q 0 (nI (y + 1)) th op := by
        rw [fX6_isFree_116, ← nI_1 y]
        exact ns hle (ps rfl (bs l1 (ps z rfl)))
      rw [st]
      exact ⟨op', e⟩
    · have hr := hg y (by omega) z
      obtain ⟨v1, v2, v3, v4⟩ := rch_valid hr
      have dv : dvI (nI y) 60 = some (nI (y / 60)) := by rw [i_60]; exact dvI_nI (by omega) (by omega) (by omega)
      have md : rmI (nI y) 60 = some (nI (y % 60)) := by rw [i_60]; exact rmI_nI (by omega) (by omega) (by omega)
      obtain ⟨r, op1, m1, m2⟩ := ma_0 (fu := fu) (x := x) h hfu v1 v4 (fun c a' b' hc _ hn => rch_step hr hc hn) 6 0 fu op (by omega) (by omega) hg (fun c' hc' => by omega)
      have m1' : fX6_meetsAny fu ce sz op x (nI (y / 60)) (nI (y % 60)) = some (r, op1) := m1
      rcases m2 with ⟨m3, c', c1, _, c3⟩ | ⟨m3, m4, m5, m6⟩
      · subst m3
        refine ⟨op1, Or.inl ⟨?_, Or.inr ⟨_, _, c', hr, c1, c3⟩⟩⟩
        have h2 := r116_1 (fu := fu) (ce := ce) (sz := sz) (x := x) (th := th) (op := op1) (y3 := y3) (K := K) d (y + 1) q (by omega) (by omega)
        rw [← nI_1] at h2
        rw [fX6_isFree_116]
        exact ns hle (ps rfl (bs l1 (ns z (bs dv (bs md (bs m1' (ns i32_10 h2)))))))
      · subst m3
        obtain ⟨op', e⟩ := ih (y + 1) q op1 (by omega) (by omega) m4 (hm.trans m5) (fun y' hy' h0 c hc => by
          by_cases w : y' = y
          · rw [w]; exact m6 c hc (fun v => by omega)
          · exact (hd y' (by omega) h0 c hc).mono m5)
        have st : fX6_isFree_116 fu ce sz x y3 K (q + 1) 0 (nI y) th op = fX6_isFree_116 fu ce sz x y3 K q 0 (nI (y + 1)) th op1 := by
          rw [fX6_isFree_116, ← nI_1 y]
          exact ns hle (ps rfl (bs l1 (ns z (bs dv (bs md (bs m1' (ps rfl rfl)))))))
        rw [st]
        refine ⟨op', ?_⟩
        rcases e with e | ⟨e1, e2, e3, e4⟩
        · exact Or.inl e
        · exact Or.inr ⟨e1, e2, m5.trans e3, e4⟩
/-- the first meetings have been laid open -/
def INI (x : Int32) (N : Nat → Nat) (T : Nat → Nat → Int32) (op : Nat → Int32) : Prop := ∀ i j, i < 6 → j < 6 → i ≠ j → usd x N i = true → DM x N T op i 0 j
theorem r96_step (h : RM ce sz N T) (hfu : 1000 ≤ fu) (e q : Nat) (op : Nat → Int32) (y3 : Int32) (he : 360 ≤ cntO op + e) (hq : e + 2 < q) (hg : GS x N T op) (hi : INI x N T op) (hy : ¬ y3 = nI (cntO op)) (rec : ∀ op' : Nat → Int32, GS x N T op' → INI x N T op' → cntO op < cntO op' → ∃ r op'', fX6_isFree_96 fu ce sz x (q - 1) 0 (nI (cntO op)) th op' = some (r, th, op'') ∧ ((r = 0 ∧ Bad x N T) ∨ (r = 1 ∧ ¬ Bad x N T))) : ∃ r op', fX6_isFree_96 fu ce sz x q 0 y3 th op = some (r, th, op') ∧ ((r = 0 ∧ Bad x N T) ∨ (r = 1 ∧ ¬ Bad x N T)) := by
  obtain ⟨q, rfl⟩ : ∃ k, q = k + 1 := ⟨q - 1, by omega⟩
  rw [Nat.add_sub_cancel] at rec
  have om := om_M (fu := fu) (op := op) hfu
  obtain ⟨op1, e1⟩ := r116_0 (fu := fu) (x := x) (th := th) (op0 := op) (y3 := nI (cntO op)) (K := fX6_isFree_96 fu ce sz x q) h hfu 360 0 fu op (by omega) (by omega) hg mono.refl (fun y' hy' => by omega)
  have st : fX6_isFree_96 fu ce sz x (q + 1) 0 y3 th op = fX6_isFree_116 fu ce sz x (nI (cntO op)) (fX6_isFree_96 fu ce sz x q) fu 0 (nI 0) th op := by
    rw [fX6_isFree_96]
    exact ps rfl (bs om (ns hy (bs om rfl)))
  rw [st]
  rcases e1 with ⟨a1, a2⟩ | ⟨a1, a2, a3, a4⟩
  · rw [a1]
    obtain ⟨q, rfl⟩ : ∃ k, q = k + 1 := ⟨q - 1, by omega⟩
    refine ⟨0, op1, ?_, Or.inl ⟨rfl, a2⟩⟩
    rw [fX6_isFree_96]
    exact ns i32_10 (ns i32_10 rfl)
  · rw [a1]
    have hi1 : INI x N T op1 := fun i j h1 h2 h3 h4 => (hi i j h1 h2 h3 h4).mono a3
    by_cases z : cntO op < cntO op1
    · exact rec op1 a2 hi1 z
    · have same := cntO_mono a3 (by omega)
      have le : cntO op ≤ cntO op1 := cnt_le 360 0 (fun k _ _ hk => decide_eq_true (a3 k (of_decide_eq_true hk)))
      have eqc : cntO op = cntO op1 := by omega
      obtain ⟨q, rfl⟩ : ∃ k, q = k + 1 := ⟨q - 1, by omega⟩
      have om1 := om_M (fu := fu) (op := op1) hfu
      refine ⟨1, op1, ?_, Or.inr ⟨rfl, fun hb => ?_⟩⟩
      · rw [fX6_isFree_96]
        exact ps rfl (bs om1 (ps (by rw [eqc]) (ps rfl rfl)))
      · rcases hb with ⟨i, j, b1, b2, b3, b4, b5⟩ | ⟨a, b, c, b1, b2, b3⟩
        · exact (hi1 i j b1 b2 b3 b4).1 b5
        · have key : a < 6 ∧ b < 60 ∧ ¬ op1 (60 * a + b) = 0 := by
            have hv := rch_valid b1
            have hN := (h a hv.1).2.1
            refine ⟨hv.1, by omega, ?_⟩
            refine (b1 (fun a b => a < 6 ∧ b < 60 ∧ ¬ op1 (60 * a + b) = 0) (fun i j a' b' h1 h2 h3 h4 hn => ?_) (fun a b c a' b' hs hc hn => ?_)).2.2
            · have nv := nx_valid h1 h4 (usd_pos h4) h2 hn
              have := (h a' nv.1).2.1
              exact ⟨nv.1, by omega, (hi1 i j h1 h2 h3 h4).2 a' b' hn⟩
            · obtain ⟨s1, s2, s3⟩ := hs
              have ra := a2 (60 * a + b) (by omega) s3
              rw [show (60 * a + b) / 60 = a by omega, show (60 * a + b) % 60 = b by omega] at ra
              have va := rch_valid ra
              have nv := nx_valid va.1 va.2.1 va.2.2.2 hc hn
              have := (h a' nv.1).2.1
              have dm := a4 (60 * a + b) (by omega) (same _ (by omega) s3) c hc
              rw [show (60 * a + b) / 60 = a by omega, show (60 * a + b) % 60 = b by omega] at dm
              exact ⟨nv.1, by omega, dm.2 a' b' hn⟩
          obtain ⟨k1, k2, k3⟩ := key
          have dm := a4 (60 * a + b) (by omega) (same _ (by omega) k3) c b2
          rw [show (60 * a + b) / 60 = a by omega, show (60 * a + b) % 60 = b by omega] at dm
          exact dm.1 b3
theorem r96 (h : RM ce sz N T) (hfu : 1000 ≤ fu) : ∀ (e q : Nat) (op : Nat → Int32) (y3 : Int32), 360 ≤ cntO op + e → e + 2 < q → GS x N T op → INI x N T op → ¬ y3 = nI (cntO op) → ∃ r op', fX6_isFree_96 fu ce sz x q 0 y3 th op = some (r, th, op') ∧ ((r = 0 ∧ Bad x N T) ∨ (r = 1 ∧ ¬ Bad x N T)) := by
  intro e
  induction e with
  | zero =>
    intro q op y3 he hq hg hi hy
    exact r96_step h hfu 0 q op y3 he hq hg hi hy (fun op' hg' hi' hlt => by have := cntO_le (op := op'); omega)
  | succ e ih =>
    intro q op y3 he hq hg hi hy
    refine r96_step h hfu (e + 1) q op y3 he hq hg hi hy (fun op' hg' hi' hlt => ?_)
    exact ih (q - 1) op' (nI (cntO op)) (by omega) (by omega) hg' hi' (fun z => by
      have a := cntO_le (op := op)
      have b := cntO_le (op := op')
      have := (nI_eq (by omega) (by omega)).mp z
      omega)
theorem l53_1 : ∀ (d i q : Nat), i + d = 6 → d < q → fX6_isFree_53 fu ce sz x q 1 (nI i) th op = fX6_isFree_96 fu ce sz x fu 1 (-1) th op := by
  intro d
  induction d with
  | zero =>
    intro y q hy hq
    obtain ⟨q, rfl⟩ : ∃ k, q = k + 1 := ⟨q - 1, by omega⟩
    rw [fX6_isFree_53]
    exact ps (by rw [i_6]; exact (nI_leI (by omega) (by omega)).mpr (by omega)) rfl
  | succ d ih =>
    intro y q hy hq
    obtain ⟨q, rfl⟩ : ∃ k, q = k + 1 := ⟨q - 1, by omega⟩
    have h2 := ih (y + 1) q (by omega) (by omega)
    rw [← nI_1] at h2
    rw [fX6_isFree_53]
    exact ns (fun z => by rw [i_6] at z; have := (nI_leI (by omega) (by omega)).mp z; omega) (ns i32_10 h2)
theorem l53_0 (h : RM ce sz N T) (hfu : 1000 ≤ fu) : ∀ (d i q : Nat) (op : Nat → Int32), i + d = 6 → d < q → GS x N T op → (∀ i' j, i' < i → j < 6 → i' ≠ j → usd x N i' = true → DM x N T op i' 0 j) → ∃ op', (fX6_isFree_53 fu ce sz x q 0 (nI i) th op = fX6_isFree_96 fu ce sz x fu 1 (-1) th op' ∧ Bad x N T) ∨ (fX6_isFree_53 fu ce sz x q 0 (nI i) th op = fX6_isFree_96 fu ce sz x fu 0 (-1) th op' ∧ GS x N T op' ∧ INI x N T op') := by
  intro d
  induction d with
  | zero =>
    intro i q op hi hq hg hd
    obtain ⟨q, rfl⟩ : ∃ k, q = k + 1 := ⟨q - 1, by omega⟩
    refine ⟨op, Or.inr ⟨?_, hg, fun i' j h1 h2 => hd i' j (by omega) h2⟩⟩
    rw [fX6_isFree_53]
    exact ps (by rw [i_6]; exact (nI_leI (by omega) (by omega)).mpr (by omega)) rfl
  | succ d ih =>
    intro i q op hi hq hg hd
    obtain ⟨q, rfl⟩ : ∃ k, q = k + 1 := ⟨q - 1, by omega⟩
    have hle : ¬ 6 ≤ nI i := fun z => by rw [i_6] at z; have := (nI_leI (by omega) (by omega)).mp z; omega
    have us := us_M h (show i < 6 by omega) x
    by_cases u : usd x N i = true
    · rw [u] at us
      obtain ⟨r, op1, m1, m2⟩ := ma_0 (fu := fu) (x := x) (a := i) (b := 0) h hfu (by omega) (usd_pos u) (fun c a' b' hc hne hn => rch_init (by omega) hc (fun z => hne ⟨rfl, z.symm⟩) u hn) 6 0 fu op (by omega) (by omega) hg (fun c' hc' => by omega)
      have m1' : fX6_meetsAny fu ce sz op x (nI i) 0 = some (r, op1) := m1
      rcases m2 with ⟨m3, c', c1, c2, c3⟩ | ⟨m3, m4, m5, m6⟩
      · subst m3
        refine ⟨op1, Or.inl ⟨?_, Or.inl ⟨i, c', by omega, c1, fun z => c2 ⟨rfl, z.symm⟩, u, c3⟩⟩⟩
        have h2 := l53_1 (fu := fu) (ce := ce) (sz := sz) (x := x) (th := th) (op := op1) d (i + 1) q (by omega) (by omega)
        rw [← nI_1] at h2
        rw [fX6_isFree_53]
        exact ns hle (ps rfl (bs us (ns i32_10 (bs m1' (ns i32_10 h2)))))
      · subst m3
        obtain ⟨op', e⟩ := ih (i + 1) q op1 (by omega) (by omega) m4 (fun i' j h1 h2 h3 h4 => by
          by_cases w : i' = i
          · rw [w] at h3 ⊢; exact m6 j h2 (fun v => h3 v.2.symm)
          · exact (hd i' j (by omega) h2 h3 h4).mono m5)
        have st : fX6_isFree_53 fu ce sz x (q + 1) 0 (nI i) th op = fX6_isFree_53 fu ce sz x q 0 (nI (i + 1)) th op1 := by
          rw [fX6_isFree_53, ← nI_1 i]
          exact ns hle (ps rfl (bs us (ns i32_10 (bs m1' (ps rfl rfl)))))
        rw [st]
        exact ⟨op', e⟩
    · rw [Bool.eq_false_iff.mpr u] at us
      obtain ⟨op', e⟩ := ih (i + 1) q op (by omega) (by omega) hg (fun i' j h1 h2 h3 h4 => by
        by_cases w : i' = i
        · rw [w] at h4; exact absurd h4 u
        · exact hd i' j (by omega) h2 h3 h4)
      have st : fX6_isFree_53 fu ce sz x (q + 1) 0 (nI i) th op = fX6_isFree_53 fu ce sz x q 0 (nI (i + 1)) th op := by
        rw [fX6_isFree_53, ← nI_1 i]
        exact ns hle (ps rfl (bs us (ps rfl rfl)))
      rw [st]
      exact ⟨op', e⟩
theorem l31 {y2 : Int32} : ∀ (d k q : Nat) (op : Nat → Int32), k + d = 360 → d < q → (∀ y, y < k → op y = 0) → ∃ op', (∀ y, y < 360 → op' y = 0) ∧ fX6_isFree_31 fu ce sz x y2 q (nI k) th op = fX6_isFree_53 fu ce sz x fu y2 0 th op' := by
  intro d
  induction d with
  | zero =>
    intro k q op hk hq hz
    obtain ⟨q, rfl⟩ : ∃ k, q = k + 1 := ⟨q - 1, by omega⟩
    refine ⟨op, fun y hy => hz y (by omega), ?_⟩
    rw [fX6_isFree_31]
    exact ps (by rw [i_360]; exact (nI_leI (by omega) (by omega)).mpr (by omega)) rfl
  | succ d ih =>
    intro k q op hk hq hz
    obtain ⟨q, rfl⟩ : ∃ k, q = k + 1 := ⟨q - 1, by omega⟩
    obtain ⟨op', e1, e2⟩ := ih (k + 1) q (updL op k (vp_nar .boolean (0 : Int32))) (by omega) (by omega) (fun y hy => by
      by_cases z : y = k
      · rw [z, upd_s, nb0]
      · rw [upd_n z]; exact hz y (by omega))
    refine ⟨op', e1, ?_⟩
    rw [← nI_1] at e2
    rw [fX6_isFree_31]
    exact ns (fun z => by rw [i_360] at z; have := (nI_leI (by omega) (by omega)).mp z; omega) (bs (stA_nI (by omega) (by decide)) e2)
theorem rm_free (h : RM ce sz N T) (hfu : 2000 ≤ fu) : ∃ r op', fX6_isFree_31 fu ce sz x 0 fu 0 th op = some (r, th, op') ∧ ((r = 0 ∧ Bad x N T) ∨ (r = 1 ∧ ¬ Bad x N T)) := by
  obtain ⟨op0, a1, a2⟩ := l31 (fu := fu) (ce := ce) (sz := sz) (x := x) (th := th) (y2 := 0) 360 0 fu op (by omega) (by omega) (fun y hy => by omega)
  have a2' : fX6_isFree_31 fu ce sz x 0 fu 0 th op = fX6_isFree_53 fu ce sz x fu 0 0 th op0 := a2
  obtain ⟨op1, e⟩ := l53_0 (fu := fu) (x := x) (th := th) h (by omega) 6 0 fu op0 (by omega) (by omega) (fun y hy hne => absurd (a1 y hy) hne) (fun i' j hi' => by omega)
  rcases e with ⟨e1, e2⟩ | ⟨e1, e2, e3⟩
  · obtain ⟨f2, rfl⟩ : ∃ k, fu = k + 1 := ⟨fu - 1, by omega⟩
    have e4 : fX6_isFree_96 (f2 + 1) ce sz x (f2 + 1) 1 (-1) th op1 = some (0, th, op1) := by
      rw [fX6_isFree_96]
      exact ns i32_10 (ns i32_10 rfl)
    exact ⟨0, op1, a2'.trans (e1.trans e4), Or.inl ⟨rfl, e2⟩⟩
  · obtain ⟨r, op', f1, f2⟩ := r96 (fu := fu) (x := x) (th := th) h (by omega) 360 fu op1 (-1) (by omega) (by omega) e2 e3 (fun z => nI_m (by have := cntO_le (op := op1); omega) z.symm)
    exact ⟨r, op', a2'.trans (e1.trans f1), f2⟩
end QT
theorem q_isFree {fu : Nat} {ts : Nat → Int32} {tc : Nat → Nat → Int32} {sl : Nat → Int32} {bg : Nat → Int32} {kn : Nat → Int64} {rm : Int32} {ol : Nat → Int64} {ce : Nat → Int32} {sz : Nat → Int32} {th : Int32} {op : Nat → Int32} {N : Nat → Nat} (I : INV ts tc ce sz N) (hfu : 2000 ≤ fu) (x1 : Int32) : ∃ (k : Int32) (sl' : Nat → Int32) (bg' : Nat → Int32) (kn' : Nat → Int64) (rm' : Int32) (g : Nat → Int64) (b : Int32) (t : Int32) (op' : Nat → Int32), fL_isFree fu ts tc sl bg kn rm ol x1 = some (k, sl', bg', kn', rm', g) ∧ fX6_isFree fu th ce sz op x1 = some (b, t, op') ∧ t = k ∧ (k = 0 → (b = 0 ∧ g 0 = 0) ∨ (¬ b = 0 ∧ g 0 = 1)) ∧ ∃ N', INV ts tc ce sz N' := by
  have sC := set_C x1
  have sM := set_M x1
  by_cases b : 0 ≤ x1.toInt ∧ x1.toInt ≤ 63
  · rw [if_pos b] at sC
    rw [decide_eq_true b] at sM
    obtain ⟨r, sl', bg', kn', rm', c1, c2⟩ := tx_free (fu := fu) (sl := sl) (bg := bg) (kn := kn) (rm := rm) (x := x1) I.1 (by omega)
    obtain ⟨r2, op', m1, m2⟩ := rm_free (fu := fu) (op := op) (x := x1) (th := 0) I.2.1 hfu
    have mm : ∀ t, fX6_isFree fu th ce sz op x1 = t ↔ fX6_isFree_31 fu ce sz x1 0 fu 0 0 op = t := fun t => by
      have : fX6_isFree fu th ce sz op x1 = fX6_isFree_31 fu ce sz x1 0 fu 0 0 op := bs (sM) (ns (i32_10) (show fX6_isFree_18 fu ce sz x1 0 th op = _ from bs (mo_thrown0 _ _) (ps (rfl) (rfl))))
      rw [this]
    rcases c2 with ⟨rfl, hb⟩ | ⟨rfl, hb⟩
    · rcases m2 with ⟨rfl, _⟩ | ⟨_, hb2⟩
      · exact ⟨0, sl', bg', kn', rm', _, 0, 0, op', wo_isFree (bs (sC) (es (bs (c1) (bs (ckZ_0) (rfl))))), (mm _).mpr m1, rfl, fun _ => Or.inl ⟨rfl, upd_s⟩, N, I⟩
      · exact absurd hb hb2
    · rcases m2 with ⟨_, hb2⟩ | ⟨rfl, _⟩
      · exact absurd hb2 hb
      · exact ⟨0, sl', bg', kn', rm', _, 1, 0, op', wo_isFree (bs (sC) (es (bs (c1) (bs (ckZ_1) (rfl))))), (mm _).mpr m1, rfl, fun _ => Or.inr ⟨i32_10, upd_s⟩, N, I⟩
  · rw [if_neg b] at sC
    rw [decide_eq_false b] at sM
    exact ⟨1, sl, bg, kn, rm, ol, 0, 1, op, we_isFree_1 (bs (sC) (er (rfl))), bs (sM) (ps (rfl) (show fX6_isFree_18 fu ce sz x1 1 th op = _ from bs (mo_thrown1 _ _) (ns (i32_10) (rfl)))), rfl, fun h => absurd h (by decide), N, I⟩
