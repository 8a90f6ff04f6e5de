/-! NUMBERS: small ints as naturals; chars; rows read and written at small places -/
theorem i_0 : (0 : Int32) = nI 0 := rfl
theorem i_1 : (1 : Int32) = nI 1 := rfl
theorem i_2 : (2 : Int32) = nI 2 := rfl
theorem i_3 : (3 : Int32) = nI 3 := rfl
theorem i_4 : (4 : Int32) = nI 4 := rfl
theorem i_5 : (5 : Int32) = nI 5 := rfl
theorem i_6 : (6 : Int32) = nI 6 := rfl
theorem i_31 : (31 : Int32) = nI 31 := rfl
theorem i_32 : (32 : Int32) = nI 32 := rfl
theorem i_60 : (60 : Int32) = nI 60 := rfl
theorem i_63 : (63 : Int32) = nI 63 := rfl
theorem i_120 : (120 : Int32) = nI 120 := rfl
theorem i_126 : (126 : Int32) = nI 126 := rfl
theorem i_360 : (360 : Int32) = nI 360 := rfl
theorem i_490 : (490 : Int32) = nI 490 := rfl
theorem i_620 : (620 : Int32) = nI 620 := rfl
theorem i_750 : (750 : Int32) = nI 750 := rfl
theorem i_1000 : (1000 : Int32) = nI 1000 := rfl
def isCh (v : Int32) : Prop := narrow .char (.int v) = .int v
theorem ckC_ch {v : Int32} (h : isCh v) : ckC v = some v := by unfold ckC; exact if_pos h
theorem nar_ch {v : Int32} (h : isCh v) : vp_nar .char v = v := by unfold vp_nar; rw [h]
theorem ch_nar (v : Int32) : isCh (vp_nar .char v) := by
  unfold isCh
  rw [show vp_nar .char v = (v.toUInt32 % 65536).toInt32 from by simp [vp_nar, narrow]]
  exact pk_nc v
theorem ch_fits {v : Int32} (h : isCh v) : fits .char (.int v) = true := by
  rw [← nar_ch h, vp_nar_char]
  have := pk_fc v
  simpa using this
theorem ch_0 : isCh 0 := rfl
theorem ckZ_0 : ckZ 0 = some 0 := by decide +kernel
theorem ckZ_1 : ckZ 1 = some 1 := by decide +kernel
theorem inB_nI {k n : Nat} (h : k < n) (hn : n < 2 ^ 31) : inB (nI k) n = true := by
  unfold inB
  rw [nI_toInt (by omega)]
  exact decide_eq_true ⟨by omega, by omega⟩
theorem ldA_nI {α : Type} {f : Nat → α} {n k : Nat} (h : k < n) (hn : n < 2 ^ 31) : ldA f n (nI k) = some (f k) := by
  unfold ldA
  rw [if_pos (inB_nI h hn), nI_clamp (by omega)]
theorem stA_nI {α : Type} {f : Nat → α} {n k : Nat} {v : α} (h : k < n) (hn : n < 2 ^ 31) : stA f n (nI k) v = some (updL f k v) := by
  unfold stA
  rw [if_pos (inB_nI h hn), nI_clamp (by omega)]
theorem upd_s {α : Type} {f : Nat → α} {k : Nat} {v : α} : updL f k v k = v := by simp [updL]
theorem upd_n {α : Type} {f : Nat → α} {k j : Nat} {v : α} (h : j ≠ k) : updL f k v j = f j := by simp [updL, h]
theorem miI_nI {a b : Nat} (ha : a < 2 ^ 31) (hb : b < 2 ^ 31) : miI (nI a) (nI b) = nI (min a b) := by
  unfold miI
  by_cases h : b < a
  · rw [if_pos ((nI_ltI hb ha).mpr h), Nat.min_eq_right (by omega)]
  · rw [if_neg (fun q => h ((nI_ltI hb ha).mp q)), Nat.min_eq_left (by omega)]
theorem mxI_nI {a b : Nat} (ha : a < 2 ^ 31) (hb : b < 2 ^ 31) : mxI (nI a) (nI b) = nI (max a b) := by
  unfold mxI
  by_cases h : a < b
  · rw [if_pos ((nI_ltI ha hb).mpr h), Nat.max_eq_right (by omega)]
  · rw [if_neg (fun q => h ((nI_ltI ha hb).mp q)), Nat.max_eq_left (by omega)]
theorem nI_sub {a b : Nat} (h : b ≤ a) : nI a - nI b = nI (a - b) := pk_sub h
theorem nI_m1 {a : Nat} (h : 1 ≤ a) : nI a + (-1) = nI (a - 1) := by
  obtain ⟨b, rfl⟩ : ∃ b, a = b + 1 := ⟨a - 1, by omega⟩
  exact pk_m1 b
/-- how far two rows go alike, at most m -/
def lcp (f : Nat → Int32) (a : Nat) (g : Nat → Int32) (b : Nat) : Nat → Nat
  | 0 => 0
  | m + 1 => if f a = g b then lcp f (a + 1) g (b + 1) m + 1 else 0
theorem lcp_le {f g : Nat → Int32} {a b m : Nat} : lcp f a g b m ≤ m := by
  induction m generalizing a b with
  | zero => exact Nat.le_refl 0
  | succ m ih =>
    unfold lcp
    split
    · have := ih (a := a + 1) (b := b + 1); omega
    · omega
theorem lcp_eq {f g : Nat → Int32} {a b m k : Nat} (h : k < lcp f a g b m) : f (a + k) = g (b + k) := by
  induction m generalizing a b k with
  | zero => simp [lcp] at h
  | succ m ih =>
    unfold lcp at h
    split at h
    · next e =>
      cases k with
      | zero => exact e
      | succ k =>
        have := ih (a := a + 1) (b := b + 1) (k := k) (by omega)
        rw [show a + (k + 1) = a + 1 + k by omega, show b + (k + 1) = b + 1 + k by omega]
        exact this
    · omega
theorem lcp_ne {f g : Nat → Int32} {a b m : Nat} (h : lcp f a g b m < m) : f (a + lcp f a g b m) ≠ g (b + lcp f a g b m) := by
  induction m generalizing a b with
  | zero => omega
  | succ m ih =>
    unfold lcp at h ⊢
    by_cases e : f a = g b
    · rw [if_pos e] at h ⊢
      have := ih (a := a + 1) (b := b + 1) (by omega)
      rw [show a + (lcp f (a + 1) g (b + 1) m + 1) = a + 1 + lcp f (a + 1) g (b + 1) m by omega, show b + (lcp f (a + 1) g (b + 1) m + 1) = b + 1 + lcp f (a + 1) g (b + 1) m by omega]
      exact this
    · rw [if_neg e] at h ⊢
      exact e
theorem lcp_ge {f g : Nat → Int32} {a b m c : Nat} (hc : c ≤ m) (h : ∀ k, k < c → f (a + k) = g (b + k)) : c ≤ lcp f a g b m := by
  rcases Nat.lt_or_ge (lcp f a g b m) c with q | q
  · exact absurd (h _ q) (lcp_ne (by omega))
  · exact q
theorem lcp_is {f g : Nat → Int32} {a b m c : Nat} (hc : c ≤ m) (h : ∀ k, k < c → f (a + k) = g (b + k)) (hn : c < m → f (a + c) ≠ g (b + c)) : lcp f a g b m = c := by
  have h1 := lcp_ge hc h
  rcases Nat.lt_or_ge c (lcp f a g b m) with q | q
  · exact absurd (lcp_eq q) (hn (by have := lcp_le (f := f) (g := g) (a := a) (b := b) (m := m); omega))
  · omega
