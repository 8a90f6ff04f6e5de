/-! isTrue: the class's account of itself is true -/
section QK
variable {ts : Nat → Int32} {tc tc0 : Nat → Nat → Int32} {ce sz : Nat → Int32} {N : Nat → Nat} {T : Nat → Nat → Int32} {i j s fu r : Nat} {th : Int32} {f g F : Nat → Int32} {P : Nat → Bool}
theorem ly_cat {L1 L2 : Nat} (h1 : Ly g L1) (h2 : Ly (fun k => g (L1 + k)) L2) (p1 : 1 ≤ L1) (hlt : (L1 < L2 ∧ ∀ k, k < L1 → g k = g (L1 + k)) ∨ ∃ k, k < L1 ∧ k < L2 ∧ (∀ j, j < k → g j = g (L1 + j)) ∧ (g k).toInt < (g (L1 + k)).toInt) : Ly g (L1 + L2) := by
  intro t t1 t2
  by_cases c1 : t < L1
  · obtain ⟨m, m1, m2, m3⟩ := h1 t t1 c1
    exact ⟨m, by omega, m2, m3⟩
  · rcases hlt with ⟨hl, ha⟩ | ⟨k, k1, k2, k3, k4⟩
    · -- the first is a beginning of the second
      by_cases c2 : t = L1
      · subst c2
        obtain ⟨m, m1, m2, m3⟩ := h2 t p1 hl
        refine ⟨t + m, by omega, fun k hk => ?_, m3⟩
        by_cases z : k < t
        · exact ha k z
        · have := m2 (k - t) (by omega)
          show g k = g (t + k)
          have e : t + (t + (k - t)) = t + k := by omega
          have e2 : t + (k - t) = k := by omega
          simp only [e, e2] at this
          exact this
      · obtain ⟨m, m1, m2, m3⟩ := h2 (t - L1) (by omega) (by omega)
        have m2' : ∀ k, k < m → g (L1 + k) = g (t + k) := fun k hk => by
          have : g (L1 + k) = g (L1 + (t - L1 + k)) := m2 k hk
          rw [show L1 + (t - L1 + k) = t + k by omega] at this
          exact this
        by_cases z : m < L1
        · refine ⟨m, by omega, fun k hk => ?_, ?_⟩
          · rw [ha k (by omega)]
            exact m2' k hk
          · rw [ha m z]
            have m3' : (g (L1 + m)).toInt < (g (L1 + (t - L1 + m))).toInt := m3
            rw [show L1 + (t - L1 + m) = t + m by omega] at m3'
            exact m3'
        · obtain ⟨m', n1, n2, n3⟩ := h2 (t - L1 + L1) (by omega) (by omega)
          refine ⟨L1 + m', by omega, fun k hk => ?_, ?_⟩
          · by_cases y : k < L1
            · rw [ha k y]
              exact m2' k (by omega)
            · have := n2 (k - L1) (by omega)
              have this' : g (L1 + (k - L1)) = g (L1 + (t - L1 + L1 + (k - L1))) := this
              rw [show L1 + (k - L1) = k by omega, show L1 + (t - L1 + L1 + (k - L1)) = t + k by omega] at this'
              exact this'
          · have n3' : (g (L1 + m')).toInt < (g (L1 + (t - L1 + L1 + m'))).toInt := n3
            rw [show L1 + (t - L1 + L1 + m') = t + (L1 + m') by omega] at n3'
            exact n3'
    · by_cases c2 : t = L1
      · subst c2
        exact ⟨k, by omega, k3, k4⟩
      · obtain ⟨m, m1, m2, m3⟩ := h2 (t - L1) (by omega) (by omega)
        have m2' : ∀ k, k < m → g (L1 + k) = g (t + k) := fun k hk => by
          have : g (L1 + k) = g (L1 + (t - L1 + k)) := m2 k hk
          rw [show L1 + (t - L1 + k) = t + k by omega] at this
          exact this
        have m3' : (g (L1 + m)).toInt < (g (t + m)).toInt := by
          have : (g (L1 + m)).toInt < (g (L1 + (t - L1 + m))).toInt := m3
          rw [show L1 + (t - L1 + m) = t + m by omega] at this
          exact this
        rcases Nat.lt_trichotomy k m with z | z | z
        · exact ⟨k, by omega, fun j hj => by rw [k3 j hj]; exact m2' j (by omega), by rw [← m2' k z]; exact k4⟩
        · subst z
          exact ⟨k, by omega, fun j hj => by rw [k3 j hj]; exact m2' j hj, by omega⟩
        · exact ⟨m, by omega, fun j hj => by rw [k3 j (by omega)]; exact m2' j hj, by rw [k3 m z]; exact m3'⟩
theorem li_C (h : TC ts tc N) (hi : i < 7) {L : Nat} (hL : Ly (fun k => tc i (s + k)) L) (hs : s + L ≤ N i) (hfu : 1000 ≤ fu) : ∀ (d t q : Nat), 1 ≤ t → t + d = L → d < q → fX1_isLessThanItsEnds_4 fu ts tc i (nI s) (nI (s + L)) q (nI (s + t)) = some 1 := by
  intro d
  have hNi := (h i hi).2.1
  induction d with
  | zero =>
    intro t q ht hc hq
    obtain ⟨q, rfl⟩ : ∃ k, q = k + 1 := ⟨q - 1, by omega⟩
    rw [fX1_isLessThanItsEnds_4]
    exact ps ((nI_leI (by omega) (by omega)).mpr (by omega)) rfl
  | succ d ih =>
    intro t q ht hc hq
    obtain ⟨q, rfl⟩ : ∃ k, q = k + 1 := ⟨q - 1, by omega⟩
    obtain ⟨m, m1, m2, m3⟩ := hL t ht (by omega)
    have h2 := ih (t + 1) q (by omega) (by omega) (by omega)
    rw [show s + (t + 1) = s + t + 1 by omega, ← nI_1] at h2
    have a1 := tx_alike (fu := fu) (a := s) (b := s + t) h hi hi (by omega) (by omega) (by omega)
    have e1 : lcp (tc i) s (tc i) (s + t) (min (N i - s) (N i - (s + t))) = m := by
      refine lcp_is (by omega) (fun k hk => ?_) (fun _ => ?_)
      · rw [Nat.add_assoc]; exact m2 k hk
      · intro z
        rw [Nat.add_assoc] at z
        have m3' : (tc i (s + m)).toInt < (tc i (s + (t + m))).toInt := m3
        rw [z] at m3'
        omega
    rw [e1] at a1
    have s1 := tx_sign h hi (show s + m < N i by omega)
    have s2 := tx_sign h hi (show s + t + m < N i by omega)
    rw [← nI_add s m] at s1
    rw [← nI_add (s + t) m] at s2
    have c1 : ¬ nI (s + L) - nI (s + t) ≤ nI m := by
      rw [nI_sub (by omega)]
      exact fun z => by have := (nI_leI (by omega) (by omega)).mp z; omega
    have c2 : tc i (s + m) ≤ tc i (s + t + m) := by
      rw [Int32.le_iff_toInt_le]
      have m3' : (tc i (s + m)).toInt < (tc i (s + (t + m))).toInt := m3
      rw [Nat.add_assoc]
      omega
    rw [fX1_isLessThanItsEnds_4]
    exact ns (fun z => by have := (nI_leI (by omega) (by omega)).mp z; omega) (bs a1 (ns c1 (bs s1 (bs s2 (ps c2 h2)))))
theorem cn_C (h : TC ts tc N) (hi : i < 7) {s1 L1 L2 : Nat} (hsm : small (tc i) (N i)) (p1 : 1 ≤ L1) (p2 : 1 ≤ L2) (hs : s1 + L1 + L2 ≤ N i) (h1 : Ly (fun k => tc i (s1 + k)) L1) (h2 : Ly (fun k => tc i (s1 + L1 + k)) L2) (hno : ¬ Ly (fun k => tc i (s1 + k)) (L1 + L2)) (hfu : 1000 ≤ fu) : ∃ v, fX4_compareNeighbours fu ts tc i (nI s1) (nI (s1 + L1)) (nI (s1 + L1) + nI L2) = some v ∧ 0 ≤ v := by
  have hNi := (h i hi).2.1
  have a1 := tx_alike (fu := fu) (a := s1) (b := s1 + L1) h hi hi (by omega) (by omega) (by omega)
  have hl := lcp_le (f := tc i) (g := tc i) (a := s1) (b := s1 + L1) (m := min (N i - s1) (N i - (s1 + L1)))
  have he : ∀ k, k < lcp (tc i) s1 (tc i) (s1 + L1) (min (N i - s1) (N i - (s1 + L1))) → tc i (s1 + k) = tc i (s1 + (L1 + k)) := fun k hk => by rw [← Nat.add_assoc]; exact lcp_eq hk
  have hn := lcp_ne (f := tc i) (g := tc i) (a := s1) (b := s1 + L1) (m := min (N i - s1) (N i - (s1 + L1)))
  generalize lcp (tc i) s1 (tc i) (s1 + L1) (min (N i - s1) (N i - (s1 + L1))) = l at *
  have w : (fun k => tc i (s1 + L1 + k)) = (fun k => (fun k => tc i (s1 + k)) (L1 + k)) := by
    funext k
    show tc i (s1 + L1 + k) = tc i (s1 + (L1 + k))
    rw [Nat.add_assoc]
  rw [w] at h2
  have cat := fun z => hno (ly_cat h1 h2 p1 z)
  unfold fX4_compareNeighbours
  have q1 : nI (s1 + L1) - nI s1 = nI L1 := by rw [nI_sub (by omega)]; congr 1; omega
  have q2 : nI (s1 + L1) + nI L2 - nI (s1 + L1) = nI L2 := by rw [nI_add, nI_sub (by omega)]; congr 1; omega
  rw [q1, q2, miI_nI (by omega) (by omega)]
  have q3 : miI (nI l) (nI (min L1 L2)) = nI (min l (min L1 L2)) := miI_nI (by omega) (by omega)
  have q4 : nI (min L1 L2) ≤ miI (nI l) (nI (min L1 L2)) ↔ min L1 L2 ≤ l := by rw [q3, nI_leI (by omega) (by omega)]; omega
  by_cases c : min L1 L2 ≤ l
  · refine ⟨nI L1 - nI L2, bs a1 (ps (q4.mpr c) rfl), ?_⟩
    rw [i32_0le, pk_sub_toInt (by omega) (by omega)]
    by_cases z : L2 ≤ L1
    · omega
    · exact absurd (Or.inl ⟨by omega, fun k hk => he k (by omega)⟩) cat
  · have s1' := tx_sign h hi (show s1 + l < N i by omega)
    have s2' := tx_sign h hi (show s1 + L1 + l < N i by omega)
    have e1 : fX4_signOn ts tc i (nI s1 + miI (nI l) (nI (min L1 L2))) = some (tc i (s1 + l)) := by rw [q3, nI_add, show min l (min L1 L2) = l by omega]; exact s1'
    have e2 : fX4_signOn ts tc i (nI (s1 + L1) + miI (nI l) (nI (min L1 L2))) = some (tc i (s1 + L1 + l)) := by rw [q3, nI_add, show min l (min L1 L2) = l by omega]; exact s2'
    refine ⟨tc i (s1 + l) - tc i (s1 + L1 + l), bs a1 (ns (fun z => c (q4.mp z)) (bs e1 (bs e2 rfl))), ?_⟩
    rw [i32_0le, sub_small (hsm _ (by omega)) (hsm _ (by omega))]
    by_cases z : (tc i (s1 + L1 + l)).toInt ≤ (tc i (s1 + l)).toInt
    · omega
    · exact absurd (Or.inr ⟨l, by omega, by omega, he, by
        show (tc i (s1 + l)).toInt < (tc i (s1 + (L1 + l))).toInt
        rw [← Nat.add_assoc]
        omega⟩) cat
theorem at_C (h : TC ts tc N) (hi : i < 7) (hsm : small (tc i) (N i)) (hfu : 1000 ≤ fu) : ∀ (d s1 s c q : Nat), N i ≤ s + d → d < q → s ≤ N i → c ≤ s → (s = 0 ∨ (s1 < N i ∧ s = s1 + fsz (fun k => tc i (s1 + k)) (N i - s1))) → fX1_areTrue_6 fu ts tc i q (nI s1) (nI s) (nI c) = some 1 := by
  intro d
  have hNi := (h i hi).2.1
  have fin : ∀ s, s = N i → fX1_areTrue_69 fu ts tc i (nI s) = some 1 := fun s hs => by
    subst hs
    exact bs (tx_size h hi) (ps rfl rfl)
  induction d with
  | zero =>
    intro s1 s c q hd hq hs hc hst
    obtain ⟨q, rfl⟩ : ∃ k, q = k + 1 := ⟨q - 1, by omega⟩
    rw [fX1_areTrue_6]
    by_cases z : 60 ≤ nI c
    · exact ps z (fin s (by omega))
    · exact ns z (bs (tx_size h hi) (ps ((nI_leI (by omega) (by omega)).mpr (by omega)) (fin s (by omega))))
  | succ d ih =>
    intro s1 s c q hd hq hs hc hst
    obtain ⟨q, rfl⟩ : ∃ k, q = k + 1 := ⟨q - 1, by omega⟩
    rw [fX1_areTrue_6]
    by_cases y : N i ≤ s
    · by_cases z : 60 ≤ nI c
      · exact ps z (fin s (by omega))
      · exact ns z (bs (tx_size h hi) (ps ((nI_leI (by omega) (by omega)).mpr y) (fin s (by omega))))
    · obtain ⟨f1, f2, f3, f4⟩ := fsz_is (g := fun k => tc i (s + k)) (show 1 ≤ N i - s by omega)
      have z : ¬ 60 ≤ nI c := fun z => by rw [i_60] at z; have := (nI_leI (by omega) (by omega)).mp z; omega
      have hle : ¬ nI (N i) ≤ nI s := fun z => y ((nI_leI (by omega) (by omega)).mp z)
      have c1 := tx_fsz (fu := fu) h hi (s := s) (by omega) hfu
      have hst' := fun (hh : s < N i) => ih s (s + fsz (fun k => tc i (s + k)) (N i - s)) (c + 1) q (by omega) (by omega) (by omega) (by omega) (Or.inr ⟨hh, rfl⟩)
      have h2 := hst' (by omega)
      generalize fsz (fun k => tc i (s + k)) (N i - s) = L at *
      have l1 := li_C (fu := fu) h hi f3 (show s + L ≤ N i by omega) hfu (L - 1) 1 fu (Nat.le_refl _) (by omega) (by omega)
      rw [← nI_1, ← nI_add] at l1 h2
      have l2 : fX1_isLessThanItsEnds fu ts tc i (nI s) (nI s + nI L) = some 1 := l1
      rcases hst with hst | ⟨hs1, hst⟩
      · exact ns z (bs (tx_size h hi) (ns hle (bs c1 (bs l2 (ns i32_10 (ps (by rw [hst]; decide) h2))))))
      · obtain ⟨g1, g2, g3, g4⟩ := fsz_is (g := fun k => tc i (s1 + k)) (show 1 ≤ N i - s1 by omega)
        have hpos : ¬ nI s ≤ 0 := fun z => by rw [i_0] at z; have := (nI_leI (by omega) (by omega)).mp z; omega
        generalize fsz (fun k => tc i (s1 + k)) (N i - s1) = L1 at *
        subst hst
        obtain ⟨v, v1, v2⟩ := cn_C (fu := fu) h hi hsm g1 f1 (by omega) g3 f3 (g4 (L1 + L) (by omega) (by omega)) hfu
        exact ns z (bs (tx_size h hi) (ns hle (bs c1 (bs l2 (ns i32_10 (ns hpos (bs v1 (ps v2 h2))))))))
theorem pr_C (h : TC ts tc N) (hi : i < 7) (hj : j < 7) (hfu : 1000 ≤ fu) : fX3_areTrue fu ts tc i j = some 1 := by
  have hNi := (h i hi).2.1
  have hNj := (h j hj).2.1
  have e1 := is_e h hi
  have e2 := is_e h hj
  have c1 := tx_com (fu := fu) h hi hj hfu
  have c2 := tx_shared (fu := fu) h hi hj hfu
  have hle := shN_le (f := tc i) (g := tc j) (n := N i) (m := N j)
  have key : ¬ (N i = 0 ∧ N j = 0) → fX3_areTrue_18 fu ts tc i j = some 1 := by
    intro hne
    have sh : com (tc i) (N i) (tc j) (N j) = decide (¬ shN (tc i) (N i) (tc j) (N j) = 0) := by
      by_cases a1 : N i = 0
      · have : shN (tc i) (N i) (tc j) (N j) = rootN (tc j) (N j) := by unfold shN; rw [if_pos a1, if_neg (by omega)]
        have r := (root_le (f := tc j) (show 1 ≤ N j by omega)).1
        rw [this, decide_eq_true (by omega), a1]
        exact com_0l
      · by_cases a2 : N j = 0
        · have : shN (tc i) (N i) (tc j) (N j) = rootN (tc i) (N i) := by unfold shN; rw [if_neg a1, if_pos a2]
          have r := (root_le (f := tc i) (show 1 ≤ N i by omega)).1
          rw [this, decide_eq_true (by omega), a2]
          exact com_sym com_0l
        · exact shN_com (by omega) (by omega)
    rw [sh] at c1
    have lez : nI (shN (tc i) (N i) (tc j) (N j)) ≤ 0 ↔ shN (tc i) (N i) (tc j) (N j) = 0 := by rw [i_0, nI_leI (by omega) (by omega)]; omega
    by_cases z : shN (tc i) (N i) (tc j) (N j) = 0
    · rw [decide_eq_false (by omega)] at c1
      exact (show fX3_areTrue_19 fu ts tc i j 0 = some 1 from bs c1 (ps rfl (bs c2 (ps (lez.mpr z) (ps rfl rfl)))))
    · rw [decide_eq_true z] at c1
      exact (show fX3_areTrue_19 fu ts tc i j 0 = some 1 from bs c1 (ps rfl (bs c2 (ns (fun y => z (lez.mp y)) (ps rfl rfl)))))
  by_cases a1 : N i = 0
  · rw [if_pos a1] at e1
    by_cases a2 : N j = 0
    · rw [if_pos a2] at e2
      have : com (tc i) (N i) (tc j) (N j) = true := by rw [a1]; exact com_0l
      rw [this] at c1
      exact bs e1 (ns i32_10 (bs e2 (ns i32_10 (show fX3_areTrue_19 fu ts tc i j 1 = some 1 from bs c1 (ns i32_10 (ps rfl rfl))))))
    · rw [if_neg a2] at e2
      exact bs e1 (ns i32_10 (bs e2 (ps rfl (key (fun z => a2 z.2)))))
  · rw [if_neg a1] at e1
    exact bs e1 (ps rfl (key (fun z => a1 z.1)))
theorem it_in (h : TC ts tc N) (hfu : 1000 ≤ fu) {a : Nat} (ha : a < 6) {K : Int32 → Option Int32} : ∀ (d b q : Nat), b + d = a → d < q → fX5_isTrue_24 fu ts tc (nI a) K q (nI b) = K (nI (a + 1)) := by
  intro d
  induction d with
  | zero =>
    intro b q hb hq
    obtain ⟨q, rfl⟩ : ∃ k, q = k + 1 := ⟨q - 1, by omega⟩
    rw [fX5_isTrue_24, ← nI_1]
    exact ps ((nI_leI (by omega) (by omega)).mpr (by omega)) rfl
  | succ d ih =>
    intro b q hb hq
    obtain ⟨q, rfl⟩ : ∃ k, q = k + 1 := ⟨q - 1, by omega⟩
    have h2 := ih (b + 1) q (by omega) (by omega)
    rw [← nI_1 b] at h2
    rw [fX5_isTrue_24]
    exact ns (fun z => by have := (nI_leI (by omega) (by omega)).mp z; omega) (bs (ldA_nI ha (by decide)) (bs (ldA_nI (show b < 6 by omega) (by decide)) (bs (pr_C h (by omega) (by omega) hfu) (ns i32_10 h2))))
theorem it_out (I : INV ts tc ce sz N) (hfu : 1000 ≤ fu) : ∀ (d a q : Nat), a + d = 6 → d < q → fX5_isTrue_2 fu ts tc q (nI a) = some 1 := by
  intro d
  induction d with
  | zero =>
    intro a q ha hq
    obtain ⟨q, rfl⟩ : ∃ k, q = k + 1 := ⟨q - 1, by omega⟩
    rw [fX5_isTrue_2]
    exact ps (by rw [i_6]; exact (nI_leI (by omega) (by omega)).mpr (by omega)) rfl
  | succ d ih =>
    intro a q ha hq
    obtain ⟨q, rfl⟩ : ∃ k, q = k + 1 := ⟨q - 1, by omega⟩
    have ha6 : a < 6 := by omega
    have h2 := ih (a + 1) q (by omega) (by omega)
    have t1 : fX1_areTrue fu ts tc a = some 1 := at_C (fu := fu) I.1 (lt7 ha6) (inv_small I ha6) hfu (N a) 0 0 0 fu (by omega) (by have := (I.1 a (lt7 ha6)).2.1; omega) (by omega) (by omega) (Or.inl rfl)
    rw [fX5_isTrue_2]
    exact ns (fun z => by rw [i_6] at z; have := (nI_leI (by omega) (by omega)).mp z; omega) (bs (ldA_nI ha6 (by decide)) (bs t1 (ns i32_10 ((it_in I.1 hfu ha6 a 0 fu (by omega) (by omega)).trans h2))))
theorem q_isTrue (I : INV ts tc ce sz N) (hfu : 2000 ≤ fu) : fX5_isTrue fu ts tc = some 1 ∧ fX6_isTrue th = some (1, 0) := ⟨it_out I (by omega) 6 0 fu (by omega) (by omega), rfl⟩
end QK
