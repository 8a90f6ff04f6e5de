/-! isFree, the class's side: its work list ends with 0 iff a word can be left over -/
section QR
variable {ts : Nat → Int32} {tc tc0 : Nat → Nat → Int32} {ce sz sl bg : Nat → Int32} {kn : Nat → Int64} {rm : Int32} {N : Nat → Nat} {T : Nat → Nat → Int32} {i j s fu r : Nat} {th x : Int32}
def Rch (x : Int32) (N : Nat → Nat) (T : Nat → Nat → Int32) (a b : Nat) : Prop := ∀ S : Nat → Nat → Prop, (∀ i j a' b', i < 6 → j < 6 → i ≠ j → usd x N i = true → nx x N T i 0 j a' b' → S a' b') → (∀ a b c a' b', S a b → c < 6 → nx x N T a b c a' b' → S a' b') → S a b
def Bad (x : Int32) (N : Nat → Nat) (T : Nat → Nat → Int32) : Prop := (∃ i j, i < 6 ∧ j < 6 ∧ i ≠ j ∧ usd x N i = true ∧ hit x N T i 0 j) ∨ ∃ a b c, Rch x N T a b ∧ c < 6 ∧ hit x N T a b c
theorem rch_init {i j a b : Nat} (hi : i < 6) (hj : j < 6) (hne : i ≠ j) (hu : usd x N i = true) (h : nx x N T i 0 j a b) : Rch x N T a b := fun S h1 _ => h1 i j a b hi hj hne hu h
theorem rch_step {a b c a' b' : Nat} (h : Rch x N T a b) (hc : c < 6) (hn : nx x N T a b c a' b') : Rch x N T a' b' := fun S h1 h2 => h2 a b c a' b' (h S h1 h2) hc hn
theorem nx_valid {a b c a' b' : Nat} (ha : a < 6) (hu : usd x N a = true) (hb : b < N a) (hc : c < 6) (h : nx x N T a b c a' b') : a' < 6 ∧ usd x N a' = true ∧ 1 ≤ b' ∧ b' < N a' := by
  obtain ⟨u, h⟩ := h
  have := usd_pos u
  rcases h with ⟨h1, _, rfl, rfl⟩ | ⟨h1, _, rfl, rfl⟩
  · exact ⟨ha, hu, by omega, by omega⟩
  · exact ⟨hc, u, by omega, h1⟩
theorem rch_valid {a b : Nat} (h : Rch x N T a b) : a < 6 ∧ usd x N a = true ∧ 1 ≤ b ∧ b < N a := by
  refine h (fun a b => a < 6 ∧ usd x N a = true ∧ 1 ≤ b ∧ b < N a) (fun i j a' b' hi hj _ hu hn => nx_valid hi hu (usd_pos hu) hj hn) (fun a b c a' b' hs hc hn => nx_valid hs.1 hs.2.1 hs.2.2.2 hc hn)
theorem hit_sym {i j : Nat} (hu : usd x N i = true) (h : hit x N T i 0 j) : hit x N T j 0 i := by
  obtain ⟨u, h1, h2⟩ := h
  rw [Nat.sub_zero] at h1
  exact ⟨hu, by omega, fun k hk => by have := h2 k (by omega); rw [Nat.zero_add] at this ⊢; exact this.symm⟩
theorem nx_sym {i j a b : Nat} (hu : usd x N i = true) (h : nx x N T i 0 j a b) : nx x N T j 0 i a b := by
  obtain ⟨u, h⟩ := h
  refine ⟨hu, ?_⟩
  rcases h with ⟨h1, h2, h3, h4⟩ | ⟨h1, h2, h3, h4⟩
  · exact Or.inr ⟨by omega, fun k hk => by have := h2 k (by omega); rw [Nat.zero_add] at this ⊢; exact this.symm, h3, by omega⟩
  · exact Or.inl ⟨by omega, fun k hk => by have := h2 k (by omega); rw [Nat.zero_add] at this ⊢; exact this.symm, h3, by omega⟩
/-- the word c has been laid against what is left of a from b on, and what it leaves is listed -/
def DP (x : Int32) (N : Nat → Nat) (T : Nat → Nat → Int32) (A B : Nat → Nat) (m a b c : Nat) : Prop := ¬ hit x N T a b c ∧ ∀ a' b', nx x N T a b c a' b' → ∃ k, k < m ∧ A k = a' ∧ B k = b'
def Ext (A B : Nat → Nat) (m : Nat) (A' B' : Nat → Nat) (m' : Nat) : Prop := m ≤ m' ∧ ∀ k, k < m → A' k = A k ∧ B' k = B k
theorem Ext.refl {A B : Nat → Nat} {m : Nat} : Ext A B m A B m := ⟨Nat.le_refl _, fun _ _ => ⟨rfl, rfl⟩⟩
theorem Ext.trans {A B A' B' A'' B'' : Nat → Nat} {m m' m'' : Nat} (h1 : Ext A B m A' B' m') (h2 : Ext A' B' m' A'' B'' m'') : Ext A B m A'' B'' m'' := ⟨Nat.le_trans h1.1 h2.1, fun k hk => by
  have a := h1.2 k hk
  have b := h2.2 k (Nat.lt_of_lt_of_le hk h1.1)
  exact ⟨b.1.trans a.1, b.2.trans a.2⟩⟩
theorem DP.ext {A B A' B' : Nat → Nat} {m m' a b c : Nat} (h : DP x N T A B m a b c) (e : Ext A B m A' B' m') : DP x N T A' B' m' a b c := ⟨h.1, fun a' b' hn => by
  obtain ⟨k, k1, k2, k3⟩ := h.2 a' b' hn
  have := e.2 k k1
  exact ⟨k, Nat.lt_of_lt_of_le k1 e.1, this.1.trans k2, this.2.trans k3⟩⟩
theorem mb_C {A B : Nat → Nat} {m a b c : Nat} (h : TC ts tc N) (hw : WL (Rch x N tc) sl bg kn rm A B m) (ha : a < 6) (hb : b < N a) (hc : c < 6) (hP : ∀ a' b', nx x N tc a b c a' b' → Rch x N tc a' b') (hfu : 1000 ≤ fu) : ∃ r sl' bg' kn' rm' A' B' m', fX2_isMatchedBy fu ts tc sl bg kn rm x (nI a) (nI b) (nI c) = some (r, sl', bg', kn', rm') ∧ WL (Rch x N tc) sl' bg' kn' rm' A' B' m' ∧ Ext A B m A' B' m' ∧ ((r = 1 ∧ hit x N tc a b c) ∨ (r = 0 ∧ DP x N tc A' B' m' a b c)) := by
  have hNa := (h a (lt7 ha)).2.1
  have hNc := (h c (lt7 hc)).2.1
  have ne1 : ¬ nI a < 0 := nI_pos (by omega)
  have ne2 : ¬ 6 ≤ nI a := fun z => by rw [i_6] at z; have := (nI_leI (by omega) (by omega)).mp z; omega
  have us := us_C h hc x
  have l1 : ldA (fun k : Nat => k) 6 (nI a) = some a := ldA_nI ha (by decide)
  have l2 : ldA (fun k : Nat => k) 6 (nI c) = some c := ldA_nI hc (by decide)
  have al := tx_alike (fu := fu) (a := b) (b := 0) h (lt7 ha) (lt7 hc) (by omega) (by omega) (by omega)
  rw [Nat.sub_zero, ← i_0] at al
  have hl := lcp_le (f := tc a) (g := tc c) (a := b) (b := 0) (m := min (N a - b) (N c))
  have he : ∀ k, k < lcp (tc a) b (tc c) 0 (min (N a - b) (N c)) → tc a (b + k) = tc c k := fun k hk => by have := lcp_eq hk; rw [Nat.zero_add] at this; exact this
  have hg : ∀ q, q ≤ min (N a - b) (N c) → (∀ k, k < q → tc a (b + k) = tc c k) → q ≤ lcp (tc a) b (tc c) 0 (min (N a - b) (N c)) := fun q hq hk => lcp_ge hq (fun k h2 => by rw [Nat.zero_add]; exact hk k h2)
  generalize lcp (tc a) b (tc c) 0 (min (N a - b) (N c)) = l at *
  have q1 : nI l = nI (N a) - nI b ↔ l = N a - b := by rw [nI_sub (by omega)]; exact nI_eq (by omega) (by omega)
  have q2 : nI l = nI (N c) ↔ l = N c := nI_eq (by omega) (by omega)
  cases u : usd x N c with
  | false =>
    rw [u] at us
    refine ⟨0, sl, bg, kn, rm, A, B, m, ns ne1 (ns ne2 (bs us (ps rfl rfl))), hw, Ext.refl, Or.inr ⟨rfl, fun z => ?_, fun a' b' z => ?_⟩⟩
    · rw [z.1] at u; cases u
    · rw [z.1] at u; cases u
  | true =>
    rw [u] at us
    have up := usd_pos u
    by_cases c1 : l = N a - b
    · by_cases c2 : l = N c
      · exact ⟨1, sl, bg, kn, rm, A, B, m, ns ne1 (ns ne2 (bs us (ns i32_10 (bs l1 (bs (tx_size h (lt7 ha)) (bs l2 (bs (tx_size h (lt7 hc)) (bs l1 (bs l2 (bs al (ps (q1.mpr c1) (ps (q2.mpr c2) rfl)))))))))))), hw, Ext.refl, Or.inl ⟨rfl, u, by omega, fun k hk => he k (by omega)⟩⟩
      · have hn : nx x N tc a b c c (N a - b) := ⟨u, Or.inr ⟨by omega, fun k hk => he k (by omega), rfl, rfl⟩⟩
        obtain ⟨sl', bg', kn', rm', A', B', m', e1, e2, e3, e4, e5⟩ := kr_C hw hc (show 1 ≤ N a - b by omega) (show N a - b < 60 by omega) (hP _ _ hn)
        rw [← nI_sub (by omega)] at e1
        refine ⟨0, sl', bg', kn', rm', A', B', m', ns ne1 (ns ne2 (bs us (ns i32_10 (bs l1 (bs (tx_size h (lt7 ha)) (bs l2 (bs (tx_size h (lt7 hc)) (bs l1 (bs l2 (bs al (ps (q1.mpr c1) (ns (fun z => c2 (q2.mp z)) (show fX2_isMatchedBy_73 fu ts tc (nI a) (nI b) (nI c) (nI (N a) - nI b) (nI (N c)) (nI l) sl bg kn rm = _ from ns (fun z => c2 (q2.mp z)) (ps (q1.mpr c1) (bs e1 rfl))))))))))))))), e2, ⟨e3, e4⟩, Or.inr ⟨rfl, fun z => ?_, fun a' b' z => ?_⟩⟩
        · have := z.2.1; omega
        · rcases z.2 with ⟨z1, _⟩ | ⟨_, _, z3, z4⟩
          · omega
          · rw [z3, z4]; exact e5
    · by_cases c2 : l = N c
      · have hn : nx x N tc a b c a (b + N c) := ⟨u, Or.inl ⟨by omega, fun k hk => he k (by omega), rfl, rfl⟩⟩
        obtain ⟨sl', bg', kn', rm', A', B', m', e1, e2, e3, e4, e5⟩ := kr_C hw ha (show 1 ≤ b + N c by omega) (show b + N c < 60 by omega) (hP _ _ hn)
        rw [← nI_add] at e1
        refine ⟨0, sl', bg', kn', rm', A', B', m', ns ne1 (ns ne2 (bs us (ns i32_10 (bs l1 (bs (tx_size h (lt7 ha)) (bs l2 (bs (tx_size h (lt7 hc)) (bs l1 (bs l2 (bs al (ns (fun z => c1 (q1.mp z)) (show fX2_isMatchedBy_73 fu ts tc (nI a) (nI b) (nI c) (nI (N a) - nI b) (nI (N c)) (nI l) sl bg kn rm = _ from ps (q2.mpr c2) (bs e1 rfl))))))))))))), e2, ⟨e3, e4⟩, Or.inr ⟨rfl, fun z => ?_, fun a' b' z => ?_⟩⟩
        · have := z.2.1; omega
        · rcases z.2 with ⟨_, _, z3, z4⟩ | ⟨z1, _⟩
          · rw [z3, z4]; exact e5
          · omega
      · refine ⟨0, sl, bg, kn, rm, A, B, m, ns ne1 (ns ne2 (bs us (ns i32_10 (bs l1 (bs (tx_size h (lt7 ha)) (bs l2 (bs (tx_size h (lt7 hc)) (bs l1 (bs l2 (bs al (ns (fun z => c1 (q1.mp z)) (show fX2_isMatchedBy_73 fu ts tc (nI a) (nI b) (nI c) (nI (N a) - nI b) (nI (N c)) (nI l) sl bg kn rm = _ from ns (fun z => c2 (q2.mp z)) (ns (fun z => c1 (q1.mp z)) rfl))))))))))))), hw, Ext.refl, Or.inr ⟨rfl, fun z => ?_, fun a' b' z => ?_⟩⟩
        · have := hg (N c) (by have := z.2.1; omega) z.2.2
          have := z.2.1
          omega
        · rcases z.2 with ⟨z1, z2, _⟩ | ⟨z1, z2, _⟩
          · have := hg (N c) (by omega) z2; omega
          · have := hg (N a - b) (by omega) z2; omega
/-- how a stretch of the class's work ends: with 0, or at K with more listed -/
def Out (x : Int32) (N : Nat → Nat) (T : Nat → Nat → Int32) (A B : Nat → Nat) (m : Nat) (Q : (Nat → Nat) → (Nat → Nat) → Nat → Prop) (K : (Nat → Int32) → (Nat → Int32) → (Nat → Int64) → Int32 → Option (Int32 × (Nat → Int32) × (Nat → Int32) × (Nat → Int64) × Int32)) (o : Option (Int32 × (Nat → Int32) × (Nat → Int32) × (Nat → Int64) × Int32)) : Prop := (Bad x N T ∧ ∃ sl bg kn rm, o = some (0, sl, bg, kn, rm)) ∨ ∃ sl' bg' kn' rm' A' B' m', o = K sl' bg' kn' rm' ∧ WL (Rch x N T) sl' bg' kn' rm' A' B' m' ∧ Ext A B m A' B' m' ∧ Q A' B' m'
theorem l15 (h : TC ts tc N) (hfu : 1000 ≤ fu) {i : Nat} (hi : i < 6) {k6 : Int32 → (Nat → Int32) → (Nat → Int32) → (Nat → Int64) → Int32 → Option (Int32 × (Nat → Int32) × (Nat → Int32) × (Nat → Int64) × Int32)} : ∀ (d j q : Nat) (sl bg : Nat → Int32) (kn : Nat → Int64) (rm : Int32) (A B : Nat → Nat) (m : Nat), j + d = i → d < q → WL (Rch x N tc) sl bg kn rm A B m → (usd x N i = true → ∀ j', j' < j → DP x N tc A B m i 0 j') → Out x N tc A B m (fun A' B' m' => usd x N i = true → ∀ j', j' < i → DP x N tc A' B' m' i 0 j') (k6 (nI (i + 1))) (fX2_areFree_15 fu ts tc x (nI i) k6 q (nI j) sl bg kn rm) := by
  intro d
  induction d with
  | zero =>
    intro j q sl bg kn rm A B m hj hq hw hd
    obtain ⟨q, rfl⟩ : ∃ k, q = k + 1 := ⟨q - 1, by omega⟩
    refine Or.inr ⟨sl, bg, kn, rm, A, B, m, ?_, hw, Ext.refl, fun hu j' hj' => hd hu j' (by omega)⟩
    rw [fX2_areFree_15, ← nI_1 i]
    exact ps ((nI_leI (by omega) (by omega)).mpr (by omega)) rfl
  | succ d ih =>
    intro j q sl bg kn rm A B m hj hq hw hd
    obtain ⟨q, rfl⟩ : ∃ k, q = k + 1 := ⟨q - 1, by omega⟩
    have hle : ¬ nI i ≤ nI j := fun z => by have := (nI_leI (by omega) (by omega)).mp z; omega
    have us := us_C h hi x
    by_cases u : usd x N i = true
    case neg =>
      rw [Bool.eq_false_iff.mpr u] at us
      have e := ih (j + 1) q sl bg kn rm A B m (by omega) (by omega) hw (fun z => absurd z u)
      have st : fX2_areFree_15 fu ts tc x (nI i) k6 (q + 1) (nI j) sl bg kn rm = fX2_areFree_15 fu ts tc x (nI i) k6 q (nI (j + 1)) sl bg kn rm := by
        rw [fX2_areFree_15, ← nI_1 j]
        exact ns hle (bs us (ps rfl rfl))
      rw [st]
      exact e
    case pos =>
      rw [u] at us
      obtain ⟨r, sl', bg', kn', rm', A', B', m', f1, f2, f3, f4⟩ := mb_C (fu := fu) (a := i) (b := 0) (c := j) h hw hi (usd_pos u) (by omega) (fun a' b' hn => rch_init hi (by omega) (by omega) u hn) hfu
      rw [← i_0] at f1
      rcases f4 with ⟨f5, f6⟩ | ⟨f5, f6⟩
      · subst f5
        refine Or.inl ⟨Or.inl ⟨i, j, hi, by omega, by omega, u, f6⟩, sl', bg', kn', rm', ?_⟩
        rw [fX2_areFree_15]
        exact ns hle (bs us (ns i32_10 (bs f1 (ns i32_10 rfl))))
      · subst f5
        have e := ih (j + 1) q sl' bg' kn' rm' A' B' m' (by omega) (by omega) f2 (fun hu j' hj' => by
          by_cases z : j' = j
          · rw [z]; exact f6
          · exact (hd hu j' (by omega)).ext f3)
        have st : fX2_areFree_15 fu ts tc x (nI i) k6 (q + 1) (nI j) sl bg kn rm = fX2_areFree_15 fu ts tc x (nI i) k6 q (nI (j + 1)) sl' bg' kn' rm' := by
          rw [fX2_areFree_15, ← nI_1 j]
          exact ns hle (bs us (ns i32_10 (bs f1 (ps rfl rfl))))
        rw [st]
        rcases e with e | ⟨sa, ba, ka, ra, Aa, Ba, ma, g1, g2, g3, g4⟩
        · exact Or.inl e
        · exact Or.inr ⟨sa, ba, ka, ra, Aa, Ba, ma, g1, g2, f3.trans g3, g4⟩
theorem Out.after {A B A1 B1 : Nat → Nat} {m m1 : Nat} {Q : (Nat → Nat) → (Nat → Nat) → Nat → Prop} {K : (Nat → Int32) → (Nat → Int32) → (Nat → Int64) → Int32 → Option (Int32 × (Nat → Int32) × (Nat → Int32) × (Nat → Int64) × Int32)} {o : Option (Int32 × (Nat → Int32) × (Nat → Int32) × (Nat → Int64) × Int32)} (he : Ext A B m A1 B1 m1) (h : Out x N T A1 B1 m1 Q K o) : Out x N T A B m Q K o := by
  rcases h with e | ⟨sa, ba, ka, ra, Aa, Ba, ma, g1, g2, g3, g4⟩
  · exact Or.inl e
  · exact Or.inr ⟨sa, ba, ka, ra, Aa, Ba, ma, g1, g2, he.trans g3, g4⟩
theorem l6 (h : TC ts tc N) (hfu : 1000 ≤ fu) : ∀ (d i q : Nat) (sl bg : Nat → Int32) (kn : Nat → Int64) (rm : Int32) (A B : Nat → Nat) (m : Nat), i + d = 6 → d < q → WL (Rch x N tc) sl bg kn rm A B m → (∀ i', i' < i → usd x N i' = true → ∀ j', j' < i' → DP x N tc A B m i' 0 j') → Out x N tc A B m (fun A' B' m' => ∀ i', i' < 6 → usd x N i' = true → ∀ j', j' < i' → DP x N tc A' B' m' i' 0 j') (fX2_areFree_59 fu ts tc x fu 0) (fX2_areFree_6 fu ts tc x q (nI i) sl bg kn rm) := by
  intro d
  induction d with
  | zero =>
    intro i q sl bg kn rm A B m hi hq hw hd
    obtain ⟨q, rfl⟩ : ∃ k, q = k + 1 := ⟨q - 1, by omega⟩
    refine Or.inr ⟨sl, bg, kn, rm, A, B, m, ?_, hw, Ext.refl, fun i' hi' => hd i' (by omega)⟩
    rw [fX2_areFree_6]
    exact ps (by rw [i_6]; exact (nI_leI (by omega) (by omega)).mpr (by omega)) rfl
  | succ d ih =>
    intro i q sl bg kn rm A B m hi hq hw hd
    obtain ⟨q, rfl⟩ : ∃ k, q = k + 1 := ⟨q - 1, by omega⟩
    have hle : ¬ 6 ≤ nI i := fun z => by rw [i_6] at z; have := (nI_leI (by omega) (by omega)).mp z; omega
    have e := l15 (fu := fu) (x := x) (k6 := fX2_areFree_6 fu ts tc x q) h hfu (show i < 6 by omega) i 0 fu sl bg kn rm A B m (by omega) (by omega) hw (fun _ j' hj' => by omega)
    have st : fX2_areFree_6 fu ts tc x (q + 1) (nI i) sl bg kn rm = fX2_areFree_15 fu ts tc x (nI i) (fX2_areFree_6 fu ts tc x q) fu (nI 0) sl bg kn rm := by
      rw [fX2_areFree_6]
      exact ns hle rfl
    rw [st]
    rcases e with e | ⟨sa, ba, ka, ra, Aa, Ba, ma, g1, g2, g3, g4⟩
    · exact Or.inl e
    · rw [g1]
      refine Out.after g3 (ih (i + 1) q sa ba ka ra Aa Ba ma (by omega) (by omega) g2 (fun i' hi' hu j' hj' => ?_))
      by_cases z : i' = i
      · rw [z] at hu hj' ⊢; exact g4 hu j' hj'
      · exact (hd i' (by omega) hu j' hj').ext g3
theorem l79 (h : TC ts tc N) (hfu : 1000 ≤ fu) {k : Nat} {k59 : Int32 → (Nat → Int32) → (Nat → Int32) → (Nat → Int64) → Int32 → Option (Int32 × (Nat → Int32) × (Nat → Int32) × (Nat → Int64) × Int32)} : ∀ (d c q : Nat) (sl bg : Nat → Int32) (kn : Nat → Int64) (rm : Int32) (A B : Nat → Nat) (m : Nat), c + d = 6 → d < q → WL (Rch x N tc) sl bg kn rm A B m → k < m → (∀ c', c' < c → DP x N tc A B m (A k) (B k) c') → Out x N tc A B m (fun A' B' m' => ∀ c', c' < 6 → DP x N tc A' B' m' (A' k) (B' k) c') (k59 (nI (k + 1))) (fX2_areFree_77 fu ts tc x (nI k) k59 q (nI c) sl bg kn rm) := by
  intro d
  induction d with
  | zero =>
    intro c q sl bg kn rm A B m hc hq hw hk hd
    obtain ⟨q, rfl⟩ : ∃ k, q = k + 1 := ⟨q - 1, by omega⟩
    refine Or.inr ⟨sl, bg, kn, rm, A, B, m, ?_, hw, Ext.refl, fun c' hc' => hd c' (by omega)⟩
    rw [fX2_areFree_77, ← nI_1 k]
    exact ps (by rw [i_6]; exact (nI_leI (by omega) (by omega)).mpr (by omega)) rfl
  | succ d ih =>
    intro c q sl bg kn rm A B m hc hq hw hk hd
    obtain ⟨q, rfl⟩ : ∃ k, q = k + 1 := ⟨q - 1, by omega⟩
    have hle : ¬ 6 ≤ nI c := fun z => by rw [i_6] at z; have := (nI_leI (by omega) (by omega)).mp z; omega
    have hm := hw.2.1
    obtain ⟨w1, w2, w3, w4, w5, w6⟩ := hw.2.2.1 k hk
    obtain ⟨_, v2, v3, v4⟩ := rch_valid w6
    have d1 : ldA sl 360 (nI k) = some (nI (A k)) := by rw [ldA_nI (by omega) (by decide), w1]
    have d2 : ldA bg 360 (nI k) = some (nI (B k)) := by rw [ldA_nI (by omega) (by decide), w2]
    obtain ⟨r, sl', bg', kn', rm', A', B', m', f1, f2, f3, f4⟩ := mb_C (fu := fu) (a := A k) (b := B k) (c := c) h hw w3 v4 (by omega) (fun a' b' hn => rch_step w6 (by omega) hn) hfu
    rcases f4 with ⟨f5, f6⟩ | ⟨f5, f6⟩
    · subst f5
      refine Or.inl ⟨Or.inr ⟨A k, B k, c, w6, by omega, f6⟩, sl', bg', kn', rm', ?_⟩
      rw [fX2_areFree_77]
      exact ns hle (bs d1 (bs d2 (bs f1 (ns i32_10 rfl))))
    · subst f5
      have st : fX2_areFree_77 fu ts tc x (nI k) k59 (q + 1) (nI c) sl bg kn rm = fX2_areFree_77 fu ts tc x (nI k) k59 q (nI (c + 1)) sl' bg' kn' rm' := by
        rw [fX2_areFree_77, ← nI_1 c]
        exact ns hle (bs d1 (bs d2 (bs f1 (ps rfl rfl))))
      rw [st]
      have ek := f3.2 k hk
      refine Out.after f3 (ih (c + 1) q sl' bg' kn' rm' A' B' m' (by omega) (by omega) f2 (Nat.lt_of_lt_of_le hk f3.1) (fun c' hc' => ?_))
      rw [ek.1, ek.2]
      by_cases z : c' = c
      · rw [z]; exact f6
      · exact (hd c' (by omega)).ext f3
theorem l59 (h : TC ts tc N) (hfu : 1000 ≤ fu) : ∀ (d k q : Nat) (sl bg : Nat → Int32) (kn : Nat → Int64) (rm : Int32) (A B : Nat → Nat) (m : Nat), k + d = 360 → d < q → WL (Rch x N tc) sl bg kn rm A B m → (∀ k', k' < k → k' < m → ∀ c', c' < 6 → DP x N tc A B m (A k') (B k') c') → ∃ r sl' bg' kn' rm' A' B' m', fX2_areFree_59 fu ts tc x q (nI k) sl bg kn rm = some (r, sl', bg', kn', rm') ∧ ((r = 0 ∧ Bad x N tc) ∨ (r = 1 ∧ Ext A B m A' B' m' ∧ ∀ k', k' < m' → ∀ c', c' < 6 → DP x N tc A' B' m' (A' k') (B' k') c')) := by
  intro d
  induction d with
  | zero =>
    intro k q sl bg kn rm A B m hk hq hw hd
    obtain ⟨q, rfl⟩ : ∃ k, q = k + 1 := ⟨q - 1, by omega⟩
    have hm := hw.2.1
    refine ⟨1, sl, bg, kn, rm, A, B, m, ?_, Or.inr ⟨rfl, Ext.refl, fun k' hk' => hd k' (by omega) hk'⟩⟩
    rw [fX2_areFree_59, hw.1]
    exact ps ((nI_leI (by omega) (by omega)).mpr (by omega)) rfl
  | succ d ih =>
    intro k q sl bg kn rm A B m hk hq hw hd
    obtain ⟨q, rfl⟩ : ∃ k, q = k + 1 := ⟨q - 1, by omega⟩
    have hm := hw.2.1
    by_cases z : m ≤ k
    · refine ⟨1, sl, bg, kn, rm, A, B, m, ?_, Or.inr ⟨rfl, Ext.refl, fun k' hk' => hd k' (by omega) hk'⟩⟩
      rw [fX2_areFree_59, hw.1]
      exact ps ((nI_leI (by omega) (by omega)).mpr z) rfl
    · have n1 : ¬ rm ≤ nI k := fun y => by rw [hw.1] at y; have := (nI_leI (by omega) (by omega)).mp y; omega
      have n2 : ¬ 360 ≤ nI k := fun y => by rw [i_360] at y; have := (nI_leI (by omega) (by omega)).mp y; omega
      have e := l79 (fu := fu) (x := x) (k := k) (k59 := fX2_areFree_59 fu ts tc x q) h hfu 6 0 fu sl bg kn rm A B m (by omega) (by omega) hw (by omega) (fun c' hc' => by omega)
      have st : fX2_areFree_59 fu ts tc x (q + 1) (nI k) sl bg kn rm = fX2_areFree_77 fu ts tc x (nI k) (fX2_areFree_59 fu ts tc x q) fu (nI 0) sl bg kn rm := by
        rw [fX2_areFree_59]
        exact ns n1 (ns n2 rfl)
      rw [st]
      rcases e with ⟨e1, s1, b1, k1, r1, e2⟩ | ⟨sa, ba, ka, ra, Aa, Ba, ma, g1, g2, g3, g4⟩
      · exact ⟨0, s1, b1, k1, r1, A, B, m, e2, Or.inl ⟨rfl, e1⟩⟩
      · rw [g1]
        obtain ⟨r, s2, b2, k2, r2, A2, B2, m2, e1, e2⟩ := ih (k + 1) q sa ba ka ra Aa Ba ma (by omega) (by omega) g2 (fun k' h1 h2 c' hc' => by
          by_cases y : k' = k
          · rw [y]; exact g4 c' hc'
          · have ek := g3.2 k' (by omega)
            rw [ek.1, ek.2]
            exact (hd k' (by omega) (by omega) c' hc').ext g3)
        refine ⟨r, s2, b2, k2, r2, A2, B2, m2, e1, ?_⟩
        rcases e2 with e2 | ⟨e3, e4, e5⟩
        · exact Or.inl e2
        · exact Or.inr ⟨e3, g3.trans e4, e5⟩
theorem fg_C : ∀ (d k q : Nat) (kn : Nat → Int64), k + d = 6 → d < q → (∀ a, a < k → kn a = 0) → ∃ kn', fX2_forgetRemainders_7 fu q (nI k) kn 0 = some (kn', 0) ∧ ∀ a, a < 6 → kn' a = 0 := by
  intro d
  induction d with
  | zero =>
    intro k q kn hk hq hz
    obtain ⟨q, rfl⟩ : ∃ k, q = k + 1 := ⟨q - 1, by omega⟩
    refine ⟨kn, ?_, fun a ha => hz a (by omega)⟩
    rw [fX2_forgetRemainders_7]
    exact ps (by rw [i_6]; exact (nI_leI (by omega) (by omega)).mpr (by omega)) rfl
  | succ d ih =>
    intro k q kn hk hq hz
    obtain ⟨q, rfl⟩ : ∃ k, q = k + 1 := ⟨q - 1, by omega⟩
    obtain ⟨kn', e1, e2⟩ := ih (k + 1) q (updL kn k 0) (by omega) (by omega) (fun a ha => by
      by_cases z : a = k
      · rw [z, upd_s]
      · rw [upd_n z]; exact hz a (by omega))
    refine ⟨kn', ?_, e2⟩
    rw [← nI_1] at e1
    rw [fX2_forgetRemainders_7]
    exact ns (fun z => by rw [i_6] at z; have := (nI_leI (by omega) (by omega)).mp z; omega) (bs (stA_nI (by omega) (by decide)) e1)
/-- the class's answer: 1 iff no word can be left over -/
theorem tx_free (h : TC ts tc N) (hfu : 1000 ≤ fu) : ∃ r sl' bg' kn' rm', fX2_areFree fu ts tc sl bg kn rm x = some (r, sl', bg', kn', rm') ∧ ((r = 0 ∧ Bad x N tc) ∨ (r = 1 ∧ ¬ Bad x N tc)) := by
  obtain ⟨kn0, a1, a2⟩ := fg_C (fu := fu) 6 0 fu kn (by omega) (by omega) (fun a ha => by omega)
  have hw : WL (Rch x N tc) sl bg kn0 0 (fun _ => 0) (fun _ => 0) 0 := ⟨rfl, by omega, fun k hk => by omega, fun k l hk => by omega, fun a b ha hb => by
    rw [a2 a ha, bt_0]
    exact ⟨fun z => Bool.noConfusion z, fun ⟨k, hk, _⟩ => absurd hk (Nat.not_lt_zero k)⟩⟩
  have e := l6 (fu := fu) (x := x) h hfu 6 0 fu sl bg kn0 0 _ _ 0 (by omega) (by omega) hw (fun i' hi' => by omega)
  have st : fX2_areFree fu ts tc sl bg kn rm x = fX2_areFree_6 fu ts tc x fu (nI 0) sl bg kn0 0 := bs (show fX2_forgetRemainders fu kn rm = some (kn0, 0) from a1) rfl
  rw [st]
  rcases e with ⟨e1, s1, b1, k1, r1, e2⟩ | ⟨sa, ba, ka, ra, Aa, Ba, ma, g1, g2, g3, g4⟩
  · exact ⟨0, s1, b1, k1, r1, e2, Or.inl ⟨rfl, e1⟩⟩
  · rw [g1]
    obtain ⟨r, s2, b2, k2, r2, A2, B2, m2, e1, e2⟩ := l59 (fu := fu) (x := x) h hfu 360 0 fu sa ba ka ra Aa Ba ma (by omega) (by omega) g2 (fun k' hk' => by omega)
    refine ⟨r, s2, b2, k2, r2, e1, ?_⟩
    rcases e2 with e2 | ⟨e3, e4, e5⟩
    · exact Or.inl e2
    · refine Or.inr ⟨e3, fun hb => ?_⟩
      have ini : ∀ i j, i < 6 → j < 6 → i ≠ j → usd x N i = true → ¬ hit x N tc i 0 j ∧ ∀ a' b', nx x N tc i 0 j a' b' → ∃ k, k < m2 ∧ A2 k = a' ∧ B2 k = b' := fun i j hi hj hne hu => by
        by_cases z : j < i
        · exact (g4 i hi hu j z).ext e4
        · refine ⟨fun y => ((g4 j hj y.1 i (by omega)).1 (hit_sym hu y)), fun a' b' y => ((g4 j hj y.1 i (by omega)).ext e4).2 a' b' (nx_sym hu y)⟩
      rcases hb with ⟨i, j, hi, hj, hne, hu, hh⟩ | ⟨a, b, c, hr, hc, hh⟩
      · exact (ini i j hi hj hne hu).1 hh
      · obtain ⟨k, k1, k2, k3⟩ := hr (fun a b => ∃ k, k < m2 ∧ A2 k = a ∧ B2 k = b) (fun i j a' b' hi hj hne hu hn => (ini i j hi hj hne hu).2 a' b' hn) (fun a b c a' b' hs hc hn => by
          obtain ⟨k, k1, k2, k3⟩ := hs
          rw [← k2, ← k3] at hn
          exact (e5 k k1 c hc).2 a' b' hn)
        rw [← k2, ← k3] at hh
        exact (e5 k k1 c hc).1 hh
end QR
