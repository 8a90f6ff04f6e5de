/-! THE CLASS's TEXTS: what the functions of Text answer -/
/-- sizes and rows of the seven texts -/
def TC (ts : Nat → Int32) (tc : Nat → Nat → Int32) (N : Nat → Nat) : Prop := ∀ i, i < 7 → ts i = nI (N i) ∧ N i ≤ 60 ∧ ∀ k, k < 60 → isCh (tc i k)
section TXT
variable {ts : Nat → Int32} {tc : Nat → Nat → Int32} {N : Nat → Nat} {i j fu : Nat}
theorem tx_size (h : TC ts tc N) (hi : i < 7) : fX4_size ts i = some (nI (N i)) := by
  unfold fX4_size; rw [(h i hi).1]
theorem tx_sign (h : TC ts tc N) (hi : i < 7) {k : Nat} (hk : k < N i) : fX4_signOn ts tc i (nI k) = some (tc i k) := by
  obtain ⟨h1, h2, h3⟩ := h i hi
  unfold fX4_signOn
  rw [if_neg (nI_pos (by omega)), h1, if_pos ((nI_ltI (by omega) (by omega)).mpr hk), ldA_nI (by omega) (by decide)]
  simp only [Option.bind_some, ckC_ch (h3 k (by omega))]
theorem tx_alike_loop (h : TC ts tc N) (hi : i < 7) (hj : j < 7) {a b m : Nat} (ha : a + m ≤ N i) (hb : b + m ≤ N j) : ∀ (d c n : Nat), c + d = m → d < n → fX4_alike_20 fu ts tc i (nI a) j (nI b) (nI m) n (nI c) = some (nI (c + lcp (tc i) (a + c) (tc j) (b + c) d)) := by
  have hNi := (h i hi).2.1
  have hNj := (h j hj).2.1
  intro d
  induction d with
  | zero =>
    intro c n hc hn
    obtain ⟨n, rfl⟩ : ∃ n', n = n' + 1 := ⟨n - 1, by omega⟩
    rw [fX4_alike_20, if_pos ((nI_leI (by omega) (by omega)).mpr (by omega))]
    rfl
  | succ d ih =>
    intro c n hc hn
    obtain ⟨n, rfl⟩ : ∃ n', n = n' + 1 := ⟨n - 1, by omega⟩
    rw [fX4_alike_20, if_neg (fun q => by have := (nI_leI (by omega) (by omega)).mp q; omega), nI_add, nI_add, tx_sign h hi (by omega), tx_sign h hj (by omega)]
    simp only [Option.bind_some, lcp]
    by_cases e : tc i (a + c) = tc j (b + c)
    · rw [if_pos e, if_pos e, nI_1, ih (c + 1) n (by omega) (by omega), show a + (c + 1) = a + c + 1 by omega, show b + (c + 1) = b + c + 1 by omega]
      congr 2
      omega
    · rw [if_neg e, if_neg e]
      rfl
theorem tx_alike (h : TC ts tc N) (hi : i < 7) (hj : j < 7) {a b : Nat} (ha : a ≤ N i) (hb : b ≤ N j) (hfu : 64 ≤ fu) : fX4_alike fu ts tc i (nI a) j (nI b) = some (nI (lcp (tc i) a (tc j) b (min (N i - a) (N j - b)))) := by
  have hNi := (h i hi).2.1
  have hNj := (h j hj).2.1
  unfold fX4_alike
  rw [(h i hi).1, (h j hj).1, nI_sub ha, nI_sub hb, miI_nI (by omega) (by omega), i_0, tx_alike_loop h hi hj (by omega) (by omega) (min (N i - a) (N j - b)) 0 fu (by omega) (by omega)]
  simp
end TXT
