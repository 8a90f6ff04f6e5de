/-! THE COMPARISONS of periods: periods, periodAt, border, root -/
section QG
variable {ts : Nat → Int32} {tc tc0 : Nat → Nat → Int32} {ce sz : Nat → Int32} {N : Nat → Nat} {T : Nat → Nat → Int32} {i j s fu : Nat} {th : Int32} {f F : Nat → Int32} {P : Nat → Bool}
theorem ip_loop (h : RM ce sz N T) (hi : i < 6) {p : Nat} (hp : 1 ≤ p) (hpn : p ≤ N i) : ∀ (d c q : Nat), c + d + p = N i → d < q → fX6_isPeriod_17 fu ce sz (nI i) (nI p) q 1 (nI c) = some (bI (alk (T i) (p + c) (T i) c d)) := by
  intro d
  have hN := (h i hi).2.1
  induction d with
  | zero =>
    intro c q hc hq
    obtain ⟨q, rfl⟩ : ∃ k, q = k + 1 := ⟨q - 1, by omega⟩
    rw [fX6_isPeriod_17]
    exact ns i32_10 (bs (h.len hi) (ps (by rw [nI_add]; exact (nI_leI (by omega) (by omega)).mpr (by omega)) (bs ckZ_1 rfl)))
  | succ d ih =>
    intro c q hc hq
    obtain ⟨q, rfl⟩ : ∃ k, q = k + 1 := ⟨q - 1, by omega⟩
    have hle : ¬ nI (N i) ≤ nI c + nI p := fun z => by rw [nI_add] at z; have := (nI_leI (by omega) (by omega)).mp z; omega
    have l1 := (h.rw hi).ld (show c < N i by omega)
    have l2 := (h.rw hi).ld (show p + c < N i by omega)
    rw [← nI_add] at l1
    rw [show 60 * i + (p + c) = 60 * i + c + p by omega, ← nI_add, ← nI_add] at l2
    rw [fX6_isPeriod_17, alk]
    by_cases e : T i (p + c) = T i c
    · have h2 := ih (c + 1) q (by omega) (by omega)
      rw [← nI_1, show p + (c + 1) = p + c + 1 by omega] at h2
      rw [decide_eq_true e, Bool.true_and]
      exact ns i32_10 (bs (h.len hi) (ns hle (bs rm_base (bs l1 (bs rm_base (bs l2 (ps e.symm h2)))))))
    · rw [decide_eq_false e, Bool.false_and]
      obtain ⟨q, rfl⟩ : ∃ k, q = k + 1 := ⟨q - 1, by omega⟩
      have h2 : fX6_isPeriod_17 fu ce sz (nI i) (nI p) (q + 1) 0 (nI c + 1) = some (bI false) := by
        rw [fX6_isPeriod_17]
        exact ps rfl (bs ckZ_0 rfl)
      exact ns i32_10 (bs (h.len hi) (ns hle (bs rm_base (bs l1 (bs rm_base (bs l2 (ns (fun z => e z.symm) h2)))))))
theorem rm_per (h : RM ce sz N T) (hi : i < 6) {p : Nat} (hp : 1 ≤ p) (hpn : p ≤ N i) (hfu : 1000 ≤ fu) : fX6_isPeriod fu ce sz (nI i) (nI p) = some (bI (per (T i) (N i) p)) := by
  have hN := (h i hi).2.1
  have hin : fX6_isIn (nI p).toInt64 1 (nI (N i)).toInt64 = some 1 := by
    rw [mo_isIn, decide_eq_true, bI_t]
    refine ⟨?_, ?_⟩
    · rw [i64_le, nI_toInt (by omega), show (1 : Int64).toInt = 1 from rfl]; omega
    · rw [i64_ge, Int32.toInt_toInt64, nI_toInt (by omega), nI_toInt (by omega)]; omega
  have h2 := ip_loop (fu := fu) h hi hp hpn (N i - p) 0 fu (by omega) (by omega)
  exact bs (h.len hi) (bs hin h2)
theorem po_M (h : RM ce sz N T) (hi : i < 6) (hfu : 1000 ≤ fu) : ∀ (d p c q : Nat), 1 ≤ p → p + d = N i + 1 → d < q → fX6_periodsOf_4 fu ce sz (nI i) q (nI c) (nI p) = some (nI (c + cntB (per (T i) (N i)) d p)) := by
  intro d
  have hN := (h i hi).2.1
  induction d with
  | zero =>
    intro p c q hp hc hq
    obtain ⟨q, rfl⟩ : ∃ k, q = k + 1 := ⟨q - 1, by omega⟩
    rw [fX6_periodsOf_4]
    exact bs (h.len hi) (ps ((nI_ltI (by omega) (by omega)).mpr (by omega)) rfl)
  | succ d ih =>
    intro p c q hp hc hq
    obtain ⟨q, rfl⟩ : ∃ k, q = k + 1 := ⟨q - 1, by omega⟩
    have hle : ¬ nI (N i) < nI p := fun z => by have := (nI_ltI (by omega) (by omega)).mp z; omega
    rw [fX6_periodsOf_4, cntB]
    by_cases b : per (T i) (N i) p = true
    · have h2 := ih (p + 1) (c + 1) q (by omega) (by omega) (by omega)
      rw [← nI_1, ← nI_1] at h2
      rw [if_pos b, ← Nat.add_assoc]
      exact bs (h.len hi) (ns hle (bs (rm_per h hi hp (by omega) hfu) (ns (bI_n0 b) h2)))
    · have h2 := ih (p + 1) c q (by omega) (by omega) (by omega)
      rw [← nI_1] at h2
      rw [if_neg b, Nat.zero_add]
      have h3 : fX6_periodsOf_4 fu ce sz (nI i) q (nI c + 0) (nI p + 1) = some (nI (c + cntB (per (T i) (N i)) d (p + 1))) := by rw [Int32.add_zero]; exact h2
      exact bs (h.len hi) (ns hle (bs (rm_per h hi hp (by omega) hfu) (ps (bI_0.mpr (Bool.eq_false_iff.mpr b)) h3)))
theorem rm_pers (h : RM ce sz N T) (hi : i < 6) (hfu : 1000 ≤ fu) : fX6_periodsOf fu ce sz (nI i) = some (nI (cntB (per (T i) (N i)) (N i) 1)) := by
  have h2 := po_M (fu := fu) h hi hfu (N i) 1 0 fu (by omega) (by omega) (by have := (h i hi).2.1; omega)
  rw [Nat.zero_add] at h2
  exact h2
/-- the one of number k, of those that P says -/
def kth (P : Nat → Bool) : Nat → Nat → Nat → Option Nat
  | 0, _, _ => none
  | d + 1, p, k => if P p = true then (if k = 0 then some p else kth P d (p + 1) (k - 1)) else kth P d (p + 1) k
theorem kth_none : ∀ (d p k : Nat), cntB P d p ≤ k → kth P d p k = none := by
  intro d
  induction d with
  | zero => intro _ _ _; rfl
  | succ d ih =>
    intro p k h
    rw [cntB] at h
    rw [kth]
    by_cases b : P p = true
    · rw [if_pos b] at h ⊢
      rw [if_neg (by omega)]
      exact ih _ _ (by omega)
    · rw [if_neg b] at h ⊢
      exact ih _ _ (by omega)
theorem kth_some : ∀ (d p k : Nat), k < cntB P d p → ∃ r, kth P d p k = some r := by
  intro d
  induction d with
  | zero => intro p k h; rw [cntB] at h; omega
  | succ d ih =>
    intro p k h
    rw [cntB] at h
    rw [kth]
    by_cases b : P p = true
    · rw [if_pos b] at h ⊢
      by_cases z : k = 0
      · rw [if_pos z]; exact ⟨p, rfl⟩
      · rw [if_neg z]
        exact ih _ _ (by omega)
    · rw [if_neg b] at h ⊢
      exact ih _ _ (by omega)
theorem pa_C (I : INV ts tc ce sz N) (hi : i < 6) (hfu : 1000 ≤ fu) {x : Int32} {X : Nat} (hx : ∀ c : Nat, c ≤ 60 → (nI c = x ↔ c = X)) : ∀ (d p c q : Nat), 1 ≤ p → p + d = N i + 1 → d < q → c ≤ X → c + 1 ≤ p → fX5_periodAt_12 fu ts tc x i q (nI c) (nI p) = some (match kth (per (tc i) (N i)) d p (X - c) with | some r => .ok (nI r) | none => .error "java/util/NoSuchElementException") := by
  intro d
  have hN := (I.1 i (lt7 hi)).2.1
  induction d with
  | zero =>
    intro p c q hp hc hq hcx hcp
    obtain ⟨q, rfl⟩ : ∃ k, q = k + 1 := ⟨q - 1, by omega⟩
    rw [fX5_periodAt_12, kth]
    exact bs (tx_size I.1 (lt7 hi)) (ps ((nI_ltI (by omega) (by omega)).mpr (by omega)) rfl)
  | succ d ih =>
    intro p c q hp hc hq hcx hcp
    obtain ⟨q, rfl⟩ : ∃ k, q = k + 1 := ⟨q - 1, by omega⟩
    have hle : ¬ nI (N i) < nI p := fun z => by have := (nI_ltI (by omega) (by omega)).mp z; omega
    rw [fX5_periodAt_12, kth]
    by_cases b : per (tc i) (N i) p = true
    · rw [if_pos b]
      by_cases z : c = X
      · rw [if_pos (show X - c = 0 by omega)]
        exact bs (tx_size I.1 (lt7 hi)) (ns hle (bs (tx_per I.1 (lt7 hi) (by omega) hfu) (ns (bI_n0 b) (ps ((hx c (by omega)).mpr z) rfl))))
      · rw [if_neg (show ¬ X - c = 0 by omega)]
        have h2 := ih (p + 1) (c + 1) q (by omega) (by omega) (by omega) (by omega) (by omega)
        rw [← nI_1, ← nI_1, show X - (c + 1) = X - c - 1 by omega] at h2
        exact bs (tx_size I.1 (lt7 hi)) (ns hle (bs (tx_per I.1 (lt7 hi) (by omega) hfu) (ns (bI_n0 b) (ns (fun y => z ((hx c (by omega)).mp y)) h2))))
    · rw [if_neg b]
      have h2 := ih (p + 1) c q (by omega) (by omega) (by omega) hcx (by omega)
      rw [← nI_1] at h2
      exact bs (tx_size I.1 (lt7 hi)) (ns hle (bs (tx_per I.1 (lt7 hi) (by omega) hfu) (ps (bI_0.mpr (Bool.eq_false_iff.mpr b)) h2)))
theorem pa_M (h : RM ce sz N T) (hi : i < 6) (hfu : 1000 ≤ fu) {r : Nat} : ∀ (d p k q : Nat), 1 ≤ p → p + d = N i + 1 → d < q → k ≤ 60 → kth (per (T i) (N i)) d p k = some r → fX6_periodAt_45 fu ce sz (nI i) q (nI k) (nI p) th = some (nI r, th) := by
  intro d
  have hN := (h i hi).2.1
  induction d with
  | zero =>
    intro p k q hp hc hq hk hr
    rw [kth] at hr
    cases hr
  | succ d ih =>
    intro p k q hp hc hq hk hr
    obtain ⟨q, rfl⟩ : ∃ k, q = k + 1 := ⟨q - 1, by omega⟩
    have hper := rm_per (fu := fu) h hi hp (by omega) hfu
    rw [kth] at hr
    rw [fX6_periodAt_45]
    have n0 : ∀ (r' : Option (Int32 × Int32)), per (T i) (N i) p = false → fX6_periodAt_45 fu ce sz (nI i) q (nI k) (nI p + 1) th = r' → fX6_periodAt_59 fu ce sz (nI i) (nI k) (nI p) (fX6_periodAt_45 fu ce sz (nI i) q) th = r' := fun r' b e => by
      unfold fX6_periodAt_59
      rw [Int32.sub_zero]
      exact bs hper (ps (bI_0.mpr b) e)
    by_cases b : per (T i) (N i) p = true
    · rw [if_pos b] at hr
      by_cases z : k = 0
      · rw [if_pos z] at hr
        injection hr with hr
        rw [z, ← hr]
        exact ns (by decide) (bs hper (ns (bI_n0 b) rfl))
      · rw [if_neg z] at hr
        have h2 := ih (p + 1) (k - 1) q (by omega) (by omega) (by omega) (by omega) hr
        rw [← nI_1, ← nI_sub (by omega), ← i_1] at h2
        exact ps (by rw [i_0]; exact (nI_ltI (by omega) (by omega)).mpr (by omega)) (show fX6_periodAt_59 fu ce sz (nI i) (nI k) (nI p) (fX6_periodAt_45 fu ce sz (nI i) q) th = _ from bs hper (ns (bI_n0 b) h2))
    · rw [if_neg b] at hr
      have b' := Bool.eq_false_iff.mpr b
      have h2 := ih (p + 1) k q (by omega) (by omega) (by omega) (by omega) hr
      rw [← nI_1] at h2
      by_cases z : 0 < nI k
      · exact ps z (n0 _ b' h2)
      · exact ns z (bs hper (ps (bI_0.mpr b') (n0 _ b' h2)))
theorem bo_M (hs : s < 6) (h : RM ce sz N T) (hi : i < 6) (hn : 1 ≤ N i) (hfu : 1000 ≤ fu) : ∀ (d p q : Nat), 1 ≤ p → p + d = N i → d < q → (∀ k, 1 ≤ k → k < p → per (T i) (N i) k = false) → ∃ ce', fX6_border_42 fu (nI s) (nI i) q (nI (N i - p)) th ce sz = some (nI (N i - srch (per (T i) (N i)) d p), th, ce', updL sz s (nI (N i - srch (per (T i) (N i)) d p))) ∧ NR N T s (N i - srch (per (T i) (N i)) d p) (fun k => T i (srch (per (T i) (N i)) d p + k)) ce' (updL sz s (nI (N i - srch (per (T i) (N i)) d p))) := by
  intro d
  have hN := (h i hi).2.1
  have found : ∀ (d p q : Nat), 1 ≤ p → p + d = N i → 0 < q → per (T i) (N i) p = true → srch (per (T i) (N i)) d p = p → ∃ ce', fX6_border_42 fu (nI s) (nI i) q (nI (N i - p)) th ce sz = some (nI (N i - srch (per (T i) (N i)) d p), th, ce', updL sz s (nI (N i - srch (per (T i) (N i)) d p))) ∧ NR N T s (N i - srch (per (T i) (N i)) d p) (fun k => T i (srch (per (T i) (N i)) d p + k)) ce' (updL sz s (nI (N i - srch (per (T i) (N i)) d p))) := by
    intro d p q hp hc hq b e
    obtain ⟨q, rfl⟩ : ∃ k, q = k + 1 := ⟨q - 1, by omega⟩
    rw [e]
    have hb := per_iff.mp b
    obtain ⟨cb, m4, m5⟩ := rm_becomeR (fu := fu) (s := s) (n := N i - p) (r := 60 * i) (f := fun k => T i (p + k)) h hs ⟨by omega, fun k hk => by rw [(h i hi).2.2 k (by omega)]; show T i k = T i (p + k); rw [Nat.add_comm p k]; exact (hb k (by omega)).symm⟩ (by omega) (by omega) hfu
    refine ⟨cb, ?_, m5⟩
    have hst := rm_stands (fu := fu) (m := N i - p) (w := 60 * i) (g := T i) (p := p) (h.rw hi) ⟨by omega, fun k hk => (h i hi).2.2 k (by omega)⟩ (by omega) hfu
    have e2 : stands (T i) (N i) (T i) (N i - p) p = true := stands_iff.mpr ⟨by omega, fun k hk => by rw [Nat.add_comm p k]; exact hb k (by omega)⟩
    have hst2 : fX6_standsAt fu ce (nI (60 * i)) (nI (N i)) (nI (60 * i)) (nI (N i - p)) (nI (N i) - nI (N i - p)) = some (bI true) := by
      rw [nI_sub (by omega), show N i - (N i - p) = p by omega, hst, e2]
    rw [fX6_border_42]
    exact bs rm_base (bs (h.len hi) (bs rm_base (bs (h.len hi) (bs hst2 (ns i32_10 (bs rm_base (bs m4 rfl)))))))
  induction d with
  | zero =>
    intro p q hp hc hq hno
    refine found 0 p q hp hc (by omega) (per_iff.mpr (fun k hk => by omega)) rfl
  | succ d ih =>
    intro p q hp hc hq hno
    by_cases b : per (T i) (N i) p = true
    · exact found (d + 1) p q hp hc (by omega) b (by rw [srch, if_pos b])
    · obtain ⟨q, rfl⟩ : ∃ k, q = k + 1 := ⟨q - 1, by omega⟩
      have b' := Bool.eq_false_iff.mpr b
      obtain ⟨ce', h1, h2⟩ := ih (p + 1) q (by omega) (by omega) (by omega) (fun k h1 h2 => by
        by_cases z : k = p
        · rw [z]; exact b'
        · exact hno k h1 (by omega))
      have hst := rm_stands (fu := fu) (m := N i - p) (w := 60 * i) (g := T i) (p := p) (h.rw hi) ⟨by omega, fun k hk => (h i hi).2.2 k (by omega)⟩ (by omega) hfu
      have e2 : stands (T i) (N i) (T i) (N i - p) p = false := by
        cases e : stands (T i) (N i) (T i) (N i - p) p
        · rfl
        · exact absurd (per_iff.mpr (fun k hk => by have := (stands_iff.mp e).2 k (by omega); rw [Nat.add_comm p k] at this; exact this)) b
      have hst2 : fX6_standsAt fu ce (nI (60 * i)) (nI (N i)) (nI (60 * i)) (nI (N i - p)) (nI (N i) - nI (N i - p)) = some (bI false) := by
        rw [nI_sub (by omega), show N i - (N i - p) = p by omega, hst, e2]
      rw [srch, if_neg b]
      refine ⟨ce', ?_, h2⟩
      rw [show N i - (p + 1) = N i - p - 1 by omega, ← nI_m1 (by omega)] at h1
      rw [fX6_border_42]
      exact bs rm_base (bs (h.len hi) (bs rm_base (bs (h.len hi) (bs hst2 (ps rfl h1)))))
theorem ro_M (h : RM ce sz N T) (hi : i < 6) (hn : 1 ≤ N i) (hfu : 1000 ≤ fu) : ∀ (d p q : Nat), 1 ≤ p → p + d = N i → d < q → fX6_rootOf_2 fu ce sz (nI i) q (nI p) = some (nI (srch (fun p => decide (N i % p = 0) && per (T i) (N i) p) d p)) := by
  intro d
  have hN := (h i hi).2.1
  induction d with
  | zero =>
    intro p q hp hc hq
    obtain ⟨q, rfl⟩ : ∃ k, q = k + 1 := ⟨q - 1, by omega⟩
    obtain rfl : p = N i := by omega
    have b : per (T i) (N i) (N i) = true := per_iff.mpr (fun k hk => by omega)
    rw [fX6_rootOf_2]
    exact bs (h.len hi) (bs (rmI_nI (by omega) (by omega) (by omega)) (ps (by rw [Nat.mod_self]; rfl) (bs (rm_per h hi hp (by omega) hfu) (ns (bI_n0 b) rfl))))
  | succ d ih =>
    intro p q hp hc hq
    obtain ⟨q, rfl⟩ : ∃ k, q = k + 1 := ⟨q - 1, by omega⟩
    have h2 := ih (p + 1) q (by omega) (by omega) (by omega)
    rw [← nI_1] at h2
    have hml : N i % p ≤ N i := Nat.mod_le _ _
    have z0 := nI_eq0 (show N i % p < 2 ^ 31 by omega)
    rw [fX6_rootOf_2, srch]
    by_cases m : N i % p = 0
    · by_cases b : per (T i) (N i) p = true
      · rw [if_pos (by rw [decide_eq_true m, b]; rfl)]
        exact bs (h.len hi) (bs (rmI_nI (by omega) (by omega) (by omega)) (ps (z0.mpr m) (bs (rm_per h hi hp (by omega) hfu) (ns (bI_n0 b) rfl))))
      · have b' := Bool.eq_false_iff.mpr b
        rw [if_neg (by rw [b', Bool.and_false]; decide)]
        exact bs (h.len hi) (bs (rmI_nI (by omega) (by omega) (by omega)) (ps (z0.mpr m) (bs (rm_per h hi hp (by omega) hfu) (ps (bI_0.mpr b') h2))))
    · rw [if_neg (by rw [decide_eq_false m, Bool.false_and]; decide)]
      exact bs (h.len hi) (bs (rmI_nI (by omega) (by omega) (by omega)) (ns (fun z => m (z0.mp z)) h2))
theorem rm_root (h : RM ce sz N T) (hi : i < 6) (hn : 1 ≤ N i) (hfu : 1000 ≤ fu) : fX6_rootOf fu ce sz (nI i) = some (nI (rootN (T i) (N i))) := ro_M h hi hn hfu (N i - 1) 1 fu (by omega) (by omega) (by have := (h i hi).2.1; omega)
end QG
theorem q_periods {fu : Nat} {ts : Nat → Int32} {tc : Nat → Nat → Int32} {ol : Nat → Int64} {ce : Nat → Int32} {sz : Nat → Int32} {th : Int32} {N : Nat → Nat} (I : INV ts tc ce sz N) (hfu : 2000 ≤ fu) (x1 : Int32) : ∃ (k : Int32) (g : Nat → Int64) (b : Int32) (t : Int32), fL_periods fu ts tc ol x1 = some (k, g) ∧ fX6_periods fu th ce sz x1 = some (b, t) ∧ t = k ∧ (k = 0 → g 0 = b.toInt64) ∧ ∃ N', INV ts tc ce sz N' := by
  rcases slots x1 with ⟨j1, h1, rfl⟩ | ⟨b1, b2⟩
  · exact ⟨0, _, _, 0, wo_periods (bs (sl_ok h1) (es (bs (tx_cper I.1 (lt7 h1) (by omega)) (rfl)))), bs (sl_no h1 _) (ps (rfl) (bs (rm_pers I.2.1 h1 (by omega)) (rfl))), rfl, fun _ => upd_s, N, I⟩
  · exact ⟨1, ol, 0, 1, we_periods_1 (bs (b1) (er (rfl))), by simp [fX6_periods, fX6_isNoOf, fX6_isNoOfAll, fX6_isNoPlace, b2], rfl, fun h => absurd h (by decide), N, I⟩
theorem q_periodAt {fu : Nat} {ts : Nat → Int32} {tc : Nat → Nat → Int32} {ol : Nat → Int64} {ce : Nat → Int32} {sz : Nat → Int32} {th : Int32} {N : Nat → Nat} (I : INV ts tc ce sz N) (hfu : 2000 ≤ fu) (x1 x2 : Int32) : ∃ (k : Int32) (g : Nat → Int64) (b : Int32) (t : Int32), fL_periodAt fu ts tc ol x1 x2 = some (k, g) ∧ fX6_periodAt fu th ce sz x1 x2 = some (b, t) ∧ t = k ∧ (k = 0 → g 0 = b.toInt64) ∧ ∃ N', INV ts tc ce sz N' := by
  rcases slots x1 with ⟨j1, h1, rfl⟩ | ⟨b1, b2⟩
  · have hN1 := (I.1 j1 (by omega)).2.1
    have hcl := cntB_le (P := per (tc j1) (N j1)) (d := N j1) (p := 1)
    have hin := mo_isInS x2 (show cntB (per (tc j1) (N j1)) (N j1) 1 ≤ 60 by omega)
    obtain ⟨X, hX, hX2⟩ : ∃ X : Nat, (∀ c : Nat, c ≤ 60 → (nI c = x2 ↔ c = X)) ∧ (X < 1000 → 0 ≤ x2.toInt ∧ x2 = nI X) ∧ (¬ X < 1000 → ¬ (0 ≤ x2.toInt ∧ x2.toInt < 1000)) := by
      by_cases z : 0 ≤ x2.toInt ∧ x2.toInt < 1000
      · obtain ⟨k, hk, rfl⟩ := i32_nat (x := x2) (by rw [Int32.le_iff_toInt_le, show (0 : Int32).toInt = 0 from rfl]; omega)
        rw [nI_toInt hk] at z
        exact ⟨k, fun c hc => nI_eq (by omega) hk, fun _ => ⟨by rw [nI_toInt hk]; omega, rfl⟩, fun y => absurd (show k < 1000 by omega) y⟩
      · refine ⟨1000, fun c hc => ⟨fun y => ?_, fun y => by omega⟩, fun y => absurd y (Nat.lt_irrefl _), fun _ => z⟩
        rw [← y, nI_toInt (by omega)] at z
        omega
    have c1 := pa_C (fu := fu) I h1 (by omega) hX (N j1) 1 0 fu (by omega) (by omega) (by omega) (by omega) (by omega)
    rw [Nat.sub_zero] at c1
    by_cases hr : X < cntB (per (tc j1) (N j1)) (N j1) 1
    · obtain ⟨r, hk⟩ := kth_some _ _ _ hr
      obtain ⟨a1, a2⟩ := hX2.1 (by omega)
      rw [decide_eq_true (show 0 ≤ x2.toInt ∧ x2.toInt < ((cntB (per (tc j1) (N j1)) (N j1) 1 : Nat) : Int) by refine ⟨a1, ?_⟩; rw [a2, nI_toInt (by omega)]; omega)] at hin
      rw [hk] at c1
      have m1 := pa_M (fu := fu) (th := 0) I.2.1 h1 (by omega) (N j1) 1 X fu (by omega) (by omega) (by omega) (by omega) hk
      rw [← a2] at m1
      exact ⟨0, _, _, 0, wo_periodAt (bs (sl_ok h1) (es (c1))), bs (sl_no h1 _) (ps (rfl) (bs (rm_pers I.2.1 h1 (by omega)) (bs (hin) (ns (i32_10) (bs (mo_thrown0 _ _) (ps (rfl) (m1))))))), rfl, fun _ => upd_s, N, I⟩
    · have hk := kth_none (P := per (tc j1) (N j1)) (N j1) 1 X (by omega)
      rw [hk] at c1
      rw [decide_eq_false (fun z => by
        by_cases y : X < 1000
        · obtain ⟨a1, a2⟩ := hX2.1 y
          rw [a2, nI_toInt (by omega)] at z
          omega
        · exact hX2.2 y (by omega))] at hin
      exact ⟨2, ol, 0, 2, we_periodAt_2 (bs (sl_ok h1) (es (c1))), bs (sl_no h1 _) (ps (rfl) (bs (rm_pers I.2.1 h1 (by omega)) (bs (hin) (ps (rfl) (bs (mo_thrown1 _ _) (ns (i32_10) (rfl))))))), rfl, fun h => absurd h (by decide), N, I⟩
  · exact ⟨1, ol, 0, 1, we_periodAt_1 (bs (b1) (er (rfl))), by simp [fX6_periodAt, fX6_isNoOf, fX6_isNoOfAll, fX6_isNoPlace, b2], rfl, fun h => absurd h (by decide), N, I⟩
theorem q_border {fu : Nat} {ts : Nat → Int32} {tc : Nat → Nat → Int32} {ol : Nat → Int64} {ce : Nat → Int32} {sz : Nat → Int32} {th : Int32} {N : Nat → Nat} (I : INV ts tc ce sz N) (hfu : 2000 ≤ fu) (x1 x2 : Int32) : ∃ (k : Int32) (ts' : Nat → Int32) (tc' : Nat → Nat → Int32) (g : Nat → Int64) (b : Int32) (t : Int32) (ce' : Nat → Int32) (sz' : Nat → Int32), fL_border fu ts tc ol x1 x2 = some (k, ts', tc', g) ∧ fX6_border fu th ce sz x1 x2 = some (b, t, ce', sz') ∧ t = k ∧ (k = 0 → g 0 = b.toInt64) ∧ ∃ N', INV ts' tc' ce' sz' N' := by
  rcases slots x1 with ⟨j1, h1, rfl⟩ | ⟨b1, b2⟩
  · rcases slots x2 with ⟨j2, h2, rfl⟩ | ⟨b1, b2⟩
    · have hN2 := (I.1 j2 (by omega)).2.1
      have hem := empties I.1 (lt7 h2)
      have h0 := nI_eq0 (show N j2 < 2 ^ 31 by omega)
      by_cases e : N j2 = 0
      · rw [if_pos e] at hem
        exact ⟨2, ts, tc, ol, 0, 2, ce, sz, we_border_2 (bs (sl_ok h1) (es (bs (sl_ok h2) (es (bs (hem) (er (rfl))))))), bs (no2_ok h1 h2 _) (ps (rfl) (bs (I.2.1.len h2) (ps (h0.mpr e) (bs (mo_thrown1 _ _) (ns (i32_10) (rfl)))))), rfl, fun h => absurd h (by decide), N, I⟩
      · rw [if_neg e] at hem
        have sl := srch_le (P := per (tc j2) (N j2)) (d := N j2 - 1) (p := 1)
        have sg := srch_ge (P := per (tc j2) (N j2)) (d := N j2 - 1) (p := 1)
        have c1 := tx_lper (fu := fu) I.1 (lt7 h2) (by omega) (by omega)
        obtain ⟨t1, t2, a1, a2⟩ := bp_part (fu := fu) (r := j1) (a := srch (per (tc j2) (N j2)) (N j2 - 1) 1) (b := N j2) (F := fun k => tc j2 (srch (per (tc j2) (N j2)) (N j2 - 1) 1 + k)) I.1 h1 h2 (by omega) (Nat.le_refl _) (fun k hk => rfl) (by omega)
        obtain ⟨cb, m1, m2⟩ := bo_M (fu := fu) (th := 0) h1 I.2.1 h2 (by omega) (by omega) (N j2 - 1) 1 fu (by omega) (by omega) (by omega) (fun k h1 h2 => by omega)
        rw [← nI_sub (by omega), ← i_1] at m1
        exact ⟨0, t1, t2, _, _, 0, cb, _, wo_border (bs (sl_ok h1) (es (bs (sl_ok h2) (es (bs (hem) (es (bs (c1) (bs (tx_size I.1 (lt7 h2)) (bs (a1) (rfl)))))))))), bs (no2_ok h1 h2 _) (ps (rfl) (bs (I.2.1.len h2) (ns (fun z => e (h0.mp z)) (bs (mo_thrown0 _ _) (ps (rfl) (bs (I.2.1.len h2) (m1))))))), rfl, fun _ => upd_s, inv_new I h1 a2 m2 (fun k hk => I.2.2 j2 h2 _ (by omega))⟩
    · exact ⟨1, ts, tc, ol, 0, 1, ce, sz, we_border_1 (bs (sl_ok h1) (es (bs (b1) (er (rfl))))), by simp [fX6_border, fX6_isNoOf, fX6_isNoOfAll, fX6_isNoPlace, sl_no h1, b2], rfl, fun h => absurd h (by decide), N, I⟩
  · exact ⟨1, ts, tc, ol, 0, 1, ce, sz, we_border_1 (bs (b1) (er (rfl))), by simp [fX6_border, fX6_isNoOf, fX6_isNoOfAll, fX6_isNoPlace, b2], rfl, fun h => absurd h (by decide), N, I⟩
theorem root_le {f : Nat → Int32} {n : Nat} (hn : 1 ≤ n) : 1 ≤ rootN f n ∧ rootN f n ≤ n := by
  have sl := srch_le (P := fun p => decide (n % p = 0) && per f n p) (d := n - 1) (p := 1)
  have sg := srch_ge (P := fun p => decide (n % p = 0) && per f n p) (d := n - 1) (p := 1)
  unfold rootN
  omega
theorem q_root {fu : Nat} {ts : Nat → Int32} {tc : Nat → Nat → Int32} {ol : Nat → Int64} {ce : Nat → Int32} {sz : Nat → Int32} {th : Int32} {N : Nat → Nat} (I : INV ts tc ce sz N) (hfu : 2000 ≤ fu) (x1 x2 : Int32) : ∃ (k : Int32) (ts' : Nat → Int32) (tc' : Nat → Nat → Int32) (g : Nat → Int64) (b : Int32) (t : Int32) (ce' : Nat → Int32) (sz' : Nat → Int32), fL_root fu ts tc ol x1 x2 = some (k, ts', tc', g) ∧ fX6_root fu th ce sz x1 x2 = some (b, t, ce', sz') ∧ t = k ∧ (k = 0 → g 0 = b.toInt64) ∧ ∃ N', INV ts' tc' ce' sz' N' := by
  rcases slots x1 with ⟨j1, h1, rfl⟩ | ⟨b1, b2⟩
  · rcases slots x2 with ⟨j2, h2, rfl⟩ | ⟨b1, b2⟩
    · have hN2 := (I.1 j2 (by omega)).2.1
      have hem := empties I.1 (lt7 h2)
      have h0 := nI_eq0 (show N j2 < 2 ^ 31 by omega)
      by_cases e : N j2 = 0
      · rw [if_pos e] at hem
        exact ⟨2, ts, tc, ol, 0, 2, ce, sz, we_root_2 (bs (sl_ok h1) (es (bs (sl_ok h2) (es (bs (hem) (er (rfl))))))), bs (no2_ok h1 h2 _) (ps (rfl) (bs (I.2.1.len h2) (ps (h0.mpr e) (bs (mo_thrown1 _ _) (ns (i32_10) (rfl)))))), rfl, fun h => absurd h (by decide), N, I⟩
      · rw [if_neg e] at hem
        obtain ⟨r1, r2⟩ := root_le (f := tc j2) (show 1 ≤ N j2 by omega)
        have c1 := tx_root (fu := fu) I.1 (lt7 h2) (by omega)
        rw [if_neg e] at c1
        have m1 := rm_root (fu := fu) I.2.1 h2 (by omega) (by omega)
        generalize rootN (tc j2) (N j2) = r at *
        have hpos : ¬ nI r ≤ 0 := fun z => by
          rw [i_0] at z
          have := (nI_leI (by omega) (by omega)).mp z
          omega
        obtain ⟨t1, t2, a1, a2⟩ := bp_part (fu := fu) (r := j1) (a := 0) (b := r) (F := fun k => tc j2 k) I.1 h1 h2 (by omega) r2 (fun k hk => by rw [Nat.zero_add]) (by omega)
        rw [Nat.sub_zero, ← i_0] at a1
        rw [Nat.sub_zero] at a2
        obtain ⟨cb, m4, m5⟩ := rm_becomeR (fu := fu) (s := j1) (n := r) (r := 60 * j2) (f := fun k => tc j2 k) I.2.1 h1 ⟨by omega, fun k hk => (I.2.1 j2 h2).2.2 k (by omega)⟩ (by omega) (by omega) (by omega)
        have dq : N j2 / r * r ≤ N j2 := Nat.div_mul_le_self _ _
        have dl : N j2 / r ≤ N j2 := Nat.div_le_self _ _
        have m9 : dvI (nI (N j2 / r) * nI r) (nI r) = some (nI (N j2 / r)) := by
          rw [pk_mul, dvI_nI (by omega) (by omega) (by omega), Nat.mul_div_cancel _ (by omega)]
        exact ⟨0, t1, t2, _, _, 0, cb, _, wo_root (bs (sl_ok h1) (es (bs (sl_ok h2) (es (bs (hem) (es (bs (c1) (ns (hpos) (bs (tx_size I.1 (lt7 h2)) (bs (dvI_nI (by omega) (by omega) (by omega)) (show fX5_root_42 fu j1 j2 (nI r) (nI (N j2 / r)) ts tc = _ from bs a1 rfl))))))))))), bs (no2_ok h1 h2 _) (ps (rfl) (bs (I.2.1.len h2) (ns (fun z => e (h0.mp z)) (bs (mo_thrown0 _ _) (ps (rfl) (bs (m1) (bs (I.2.1.len h2) (bs (dvI_nI (by omega) (by omega) (by omega)) (bs (rm_base) (bs (m4) (bs (m9) (rfl)))))))))))), rfl, fun _ => upd_s, inv_new I h1 a2 m5 (fun k hk => I.2.2 j2 h2 _ (by omega))⟩
    · exact ⟨1, ts, tc, ol, 0, 1, ce, sz, we_root_1 (bs (sl_ok h1) (es (bs (b1) (er (rfl))))), by simp [fX6_root, fX6_isNoOf, fX6_isNoOfAll, fX6_isNoPlace, sl_no h1, b2], rfl, fun h => absurd h (by decide), N, I⟩
  · exact ⟨1, ts, tc, ol, 0, 1, ce, sz, we_root_1 (bs (b1) (er (rfl))), by simp [fX6_root, fX6_isNoOf, fX6_isNoOfAll, fX6_isNoPlace, b2], rfl, fun h => absurd h (by decide), N, I⟩
