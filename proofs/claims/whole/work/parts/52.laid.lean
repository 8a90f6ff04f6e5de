/-! THE MODEL's work rows: two texts joined, a text turned, a text backwards -/
def catF (f : Nat → Int32) (n : Nat) (g : Nat → Int32) : Nat → Int32 := fun k => if k < n then f k else g (k - n)
def turnF (f : Nat → Int32) (n b : Nat) : Nat → Int32 := fun k => if k < n - b then f (b + k) else f (k - (n - b))
def backF (f : Nat → Int32) (n : Nat) : Nat → Int32 := fun k => f (n - 1 - k)
section LAY
variable {ce sz : Nat → Int32} {N : Nat → Nat} {T : Nat → Nat → Int32} {a b o fu n : Nat}
theorem rm_lays (h : RM ce sz N T) (ha : a < 6) (hb : b < 6) (ho : 360 ≤ o) (ho2 : o + 120 ≤ 900) (hfu : 1000 ≤ fu) : ∃ ce', fX6_lays fu ce sz (nI a) (nI b) (nI o) = some ce' ∧ RW ce' o (N a + N b) (catF (T a) (N a) (T b)) ∧ ∀ j, (j < o ∨ o + (N a + N b) ≤ j) → ce' j = ce j := by
  have hNa := (h a ha).2.1
  have hNb := (h b hb).2.1
  obtain ⟨c1, a1, a2, a3⟩ := rm_copy (fu := fu) (m := N a) (a := 60 * a) (b := o) ce (by omega) (by omega) (by omega) hfu
  obtain ⟨c2, b1, b2, b3⟩ := rm_copy (fu := fu) (m := N b) (a := 60 * b) (b := o + N a) c1 (by omega) (by omega) (by omega) hfu
  refine ⟨c2, ?_, ⟨by omega, fun k hk => ?_⟩, fun j hj => by rw [b3 j (by omega), a3 j (by omega)]⟩
  · unfold fX6_lays
    simp only [rm_base, Option.bind_some, h.len ha, h.len hb]
    rw [a1]
    simp only [Option.bind_some]
    rw [nI_add, b1]
    rfl
  · unfold catF
    by_cases e : k < N a
    · rw [if_pos e, b3 _ (by omega), a2 k e, (h a ha).2.2 k e]
    · rw [if_neg e]
      obtain ⟨q, rfl⟩ : ∃ q, k = N a + q := ⟨k - N a, by omega⟩
      rw [show o + (N a + q) = o + N a + q by omega, b2 q (by omega), a3 _ (by omega), (h b hb).2.2 q (by omega), show N a + q - N a = q by omega]
theorem rm_turns (h : RM ce sz N T) (ha : a < 6) (hb : b ≤ N a) (ho : 360 ≤ o) (ho2 : o + 60 ≤ 900) (hfu : 1000 ≤ fu) : ∃ ce', fX6_turns fu ce sz (nI a) (nI b) (nI o) = some ce' ∧ RW ce' o (N a) (turnF (T a) (N a) b) ∧ ∀ j, (j < o ∨ o + N a ≤ j) → ce' j = ce j := by
  have hNa := (h a ha).2.1
  obtain ⟨c1, a1, a2, a3⟩ := rm_copy (fu := fu) (m := N a - b) (a := 60 * a + b) (b := o) ce (by omega) (by omega) (by omega) hfu
  obtain ⟨c2, b1, b2, b3⟩ := rm_copy (fu := fu) (m := b) (a := 60 * a) (b := o + N a - b) c1 (by omega) (by omega) (by omega) hfu
  refine ⟨c2, ?_, ⟨by omega, fun k hk => ?_⟩, fun j hj => by rw [b3 j (by omega), a3 j (by omega)]⟩
  · unfold fX6_turns
    simp only [rm_base, Option.bind_some, h.len ha]
    rw [nI_add, nI_sub hb, a1]
    simp only [Option.bind_some]
    rw [nI_add, nI_sub (by omega), b1]
    rfl
  · unfold turnF
    by_cases e : k < N a - b
    · rw [if_pos e, b3 _ (by omega), a2 k e, show 60 * a + b + k = 60 * a + (b + k) by omega, (h a ha).2.2 _ (by omega)]
    · rw [if_neg e]
      obtain ⟨q, rfl⟩ : ∃ q, k = N a - b + q := ⟨k - (N a - b), by omega⟩
      rw [show o + (N a - b + q) = o + N a - b + q by omega, b2 q (by omega), a3 _ (by omega), (h a ha).2.2 q (by omega), show N a - b + q - (N a - b) = q by omega]
theorem rm_back_loop (ha : a < 6) (ho : 360 ≤ o) (ho2 : o + 60 ≤ 900) : ∀ (d c q : Nat) (ce : Nat → Int32), c + d = N a → d < q → RM ce sz N T → (∀ k, k < c → ce (o + k) = backF (T a) (N a) k) → ∃ ce', fX6_laysBack_2 fu sz (nI a) (nI o) q (nI c) ce = some ce' ∧ (∀ k, k < N a → ce' (o + k) = backF (T a) (N a) k) ∧ ∀ j, (j < o ∨ o + N a ≤ j) → ce' j = ce j := by
  intro d
  induction d with
  | zero =>
    intro c q ce hc hq h hk
    have hNa := (h a ha).2.1
    obtain ⟨q, rfl⟩ : ∃ k, q = k + 1 := ⟨q - 1, by omega⟩
    refine ⟨ce, ?_, fun k h2 => hk k (by omega), fun j hj => rfl⟩
    rw [fX6_laysBack_2, h.len ha]
    simp only [Option.bind_some]
    rw [if_pos ((nI_leI (by omega) (by omega)).mpr (by omega))]
  | succ d ih =>
    intro c q ce hc hq h hk
    have hNa := (h a ha).2.1
    obtain ⟨q, rfl⟩ : ∃ k, q = k + 1 := ⟨q - 1, by omega⟩
    obtain ⟨ce', h1, h2, h3⟩ := ih (c + 1) q (updL ce (o + c) (T a (N a - 1 - c))) (by omega) (by omega) (h.keep (fun j hj => upd_n (by omega))) (fun k hk2 => by
      by_cases e : k = c
      · subst e; rw [upd_s]; rfl
      · rw [upd_n (by omega)]; exact hk k (by omega))
    refine ⟨ce', ?_, h2, fun j hj => by rw [h3 j hj, upd_n (by omega)]⟩
    rw [fX6_laysBack_2, h.len ha]
    simp only [Option.bind_some, rm_base]
    rw [if_neg (fun z => by have := (nI_leI (by omega) (by omega)).mp z; omega), nI_add, i_1, nI_sub (by omega), nI_sub (by omega), show 60 * a + N a - 1 - c = 60 * a + (N a - 1 - c) by omega, (h.rw ha).ld (by omega)]
    simp only [Option.bind_some]
    rw [nI_add, stA_nI (by omega) (by decide)]
    simp only [Option.bind_some]
    rw [nI_add, h1]
theorem rm_back (h : RM ce sz N T) (ha : a < 6) (ho : 360 ≤ o) (ho2 : o + 60 ≤ 900) (hfu : 1000 ≤ fu) : ∃ ce', fX6_laysBack fu ce sz (nI a) (nI o) = some ce' ∧ RW ce' o (N a) (backF (T a) (N a)) ∧ ∀ j, (j < o ∨ o + N a ≤ j) → ce' j = ce j := by
  have hNa := (h a ha).2.1
  obtain ⟨ce', h1, h2, h3⟩ := rm_back_loop (fu := fu) (sz := sz) (T := T) ha ho ho2 (N a) 0 fu ce (by omega) (by omega) h (fun k hk => by omega)
  exact ⟨ce', h1, ⟨by omega, h2⟩, h3⟩
theorem rm_becomeR {s r : Nat} {f : Nat → Int32} (h : RM ce sz N T) (hs : s < 6) (hr : RW ce r n f) (hn : n ≤ 60) (hr7 : r + n ≤ 750) (hfu : 1000 ≤ fu) : ∃ ce', fX6_become fu ce sz (nI s) (nI r) (nI n) = some (nI n, ce', updL sz s (nI n)) ∧ NR N T s n f ce' (updL sz s (nI n)) := rm_become h hs hr hn hr7 hfu
end LAY
