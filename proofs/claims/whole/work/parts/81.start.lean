/-! THE START: all texts are empty on both sides -/
theorem inv_0 {ts ce sz : Nat → Int32} {tc : Nat → Nat → Int32} (h1 : ∀ i, i < 7 → ts i = 0) (h2 : ∀ i, i < 7 → ∀ k, k < 60 → isCh (tc i k)) (h3 : ∀ i, i < 6 → sz i = 0) : INV ts tc ce sz (fun _ => 0) :=
  ⟨fun i hi => ⟨h1 i hi, Nat.zero_le _, h2 i hi⟩, fun i hi => ⟨h3 i hi, Nat.zero_le _, fun k hk => absurd hk (Nat.not_lt_zero k)⟩, fun i hi k hk => absurd hk (Nat.not_lt_zero k)⟩
theorem inv_start {ce : Nat → Int32} : INV (fun _ => 0) (fun _ _ => 0) ce (fun _ => 0) (fun _ => 0) := inv_0 (fun _ _ => rfl) (fun _ _ _ _ => ch_0) (fun _ _ => rfl)
