/-! WHAT A SLOT BECOMES: built on the class's side, laid on the model's -/
/-- the class and the model hold the same texts -/
def INV (ts : Nat → Int32) (tc : Nat → Nat → Int32) (ce sz : Nat → Int32) (N : Nat → Nat) : Prop := TC ts tc N ∧ RM ce sz N tc ∧ ∀ i, i < 6 → ∀ k, k < N i → 32 ≤ (tc i k).toInt ∧ (tc i k).toInt ≤ 126
/-- built has c signs, those of F; all else is as it was -/
def BT (tc0 : Nat → Nat → Int32) (N : Nat → Nat) (F : Nat → Int32) (ts : Nat → Int32) (tc : Nat → Nat → Int32) (c : Nat) : Prop := TC ts tc (updL N 6 c) ∧ (∀ i, i < 6 → tc i = tc0 i) ∧ ∀ k, k < c → tc 6 k = F k
/-- behind a call that lets slot r become the c signs F: the class's side -/
def NC (tc0 : Nat → Nat → Int32) (N : Nat → Nat) (r c : Nat) (F : Nat → Int32) (ts : Nat → Int32) (tc : Nat → Nat → Int32) : Prop := ∃ M, TC ts tc (updL (updL N 6 M) r c) ∧ (∀ i, i < 6 → i ≠ r → tc i = tc0 i) ∧ ∀ k, k < c → tc r k = F k
/-- .. and the model's -/
def NR (N : Nat → Nat) (T : Nat → Nat → Int32) (r c : Nat) (F : Nat → Int32) (ce sz : Nat → Int32) : Prop := RM ce sz (updL N r c) (updL T r F)
section BLD
variable {ts : Nat → Int32} {tc tc0 : Nat → Nat → Int32} {ce sz : Nat → Int32} {N : Nat → Nat} {T : Nat → Nat → Int32} {F f g : Nat → Int32} {i j fu r c n m a b : Nat}
theorem inv_new {ts0 ts' : Nat → Int32} {tc' : Nat → Nat → Int32} {ce0 sz0 ce' sz' : Nat → Int32} (I : INV ts0 tc0 ce0 sz0 N) (hr : r < 6) (hC : NC tc0 N r c F ts' tc') (hR : NR N tc0 r c F ce' sz') (hS : ∀ k, k < c → 32 ≤ (F k).toInt ∧ (F k).toInt ≤ 126) : ∃ N', INV ts' tc' ce' sz' N' := by
  obtain ⟨M, h1, h2, h3⟩ := hC
  refine ⟨updL (updL N 6 M) r c, h1, fun i hi => ?_, fun i hi k hk => ?_⟩
  · obtain ⟨a1, a2, a3⟩ := hR i hi
    by_cases e : i = r
    · subst e
      rw [upd_s] at a1 a2 a3 ⊢
      rw [upd_s] at a3
      exact ⟨a1, a2, fun k hk => by rw [a3 k hk, h3 k hk]⟩
    · rw [upd_n e] at a1 a2 a3 ⊢
      rw [upd_n e] at a3
      rw [upd_n (by omega)]
      exact ⟨a1, a2, fun k hk => by rw [a3 k hk, h2 i hi e]⟩
  · by_cases e : i = r
    · subst e
      rw [upd_s] at hk
      rw [h3 k hk]; exact hS k hk
    · rw [upd_n e, upd_n (by omega)] at hk
      rw [h2 i hi e]; exact I.2.2 i hi k hk
theorem sign_ch {v : Int32} (h : 32 ≤ v.toInt ∧ v.toInt ≤ 126) : isCh v := by
  obtain ⟨k, hk, rfl⟩ : ∃ k : Nat, k < 127 ∧ v = nI k := by
    rcases pk_ix v (n := 127) (by decide) with q | q | q
    · rw [Int32.lt_iff_toInt_lt] at q
      have : (0 : Int32).toInt = 0 := rfl
      omega
    · rw [Int32.le_iff_toInt_le] at q
      have : (nI 127).toInt = 127 := rfl
      omega
    · exact q
  exact (pk_charN (by omega)).1
/-- a sign put behind a text -/
theorem tx_add {v : Int32} (h : TC ts tc N) (hi : i < 7) (hN : N i < 60) : fX4_add ts tc i v = some (updL ts i (nI (N i + 1)), updL tc i (updL (tc i) (N i) (vp_nar .char v))) ∧ TC (updL ts i (nI (N i + 1))) (updL tc i (updL (tc i) (N i) (vp_nar .char v))) (updL N i (N i + 1)) := by
  obtain ⟨h1, h2, h3⟩ := h i hi
  refine ⟨?_, fun k hk => ?_⟩
  · unfold fX4_add
    rw [h1, i_60, if_neg (fun q => by have := (nI_leI (by omega) (by omega)).mp q; omega), stA_nI hN (by decide), nI_1]
    rfl
  · by_cases e : k = i
    · subst e
      rw [upd_s, upd_s, upd_s]
      refine ⟨rfl, hN, fun q hq => ?_⟩
      by_cases e2 : q = N k
      · subst e2; rw [upd_s]; exact ch_nar v
      · rw [upd_n e2]; exact h3 q hq
    · rw [upd_n e, upd_n e, upd_n e]; exact h k hk
theorem bt_clear (h : TC ts tc N) : fX4_clear ts 6 = some (updL ts 6 0) ∧ BT tc N F (updL ts 6 0) tc 0 := by
  refine ⟨rfl, fun k hk => ?_, fun i hi => rfl, fun k hk => by omega⟩
  by_cases e : k = 6
  · subst e
    rw [upd_s, upd_s]
    exact ⟨rfl, by omega, (h 6 hk).2.2⟩
  · rw [upd_n e, upd_n e]; exact h k hk
theorem bt_add {v : Int32} (h : BT tc0 N F ts tc c) (hc : c < 60) (hv : v = F c) (hch : isCh v) : ∃ ts' tc', fX4_add ts tc 6 v = some (ts', tc') ∧ BT tc0 N F ts' tc' (c + 1) := by
  obtain ⟨h1, h2, h3⟩ := h
  have h6 : updL N 6 c 6 = c := upd_s
  obtain ⟨a1, a2⟩ := tx_add (v := v) h1 (i := 6) (by decide) (by rw [h6]; exact hc)
  rw [h6] at a1 a2
  refine ⟨_, _, a1, ?_, fun i hi => ?_, fun k hk => ?_⟩
  · have e : updL (updL N 6 c) 6 (c + 1) = updL N 6 (c + 1) := by funext q; simp only [updL]; split <;> rfl
    rw [e] at a2
    exact a2
  · rw [upd_n (by omega)]; exact h2 i hi
  · rw [upd_s]
    by_cases e : k = c
    · subst e; rw [upd_s, nar_ch hch, hv]
    · rw [upd_n e]; exact h3 k (by omega)
theorem bt_src (h : BT tc0 N F ts tc c) (hj : j < 6) {k : Nat} (hk : k < N j) : fX4_signOn ts tc j (nI k) = some (tc0 j k) ∧ isCh (tc0 j k) := by
  obtain ⟨h1, h2, h3⟩ := h
  have hN : updL N 6 c j = N j := upd_n (by omega)
  have hN60 := (h1 j (by omega)).2.1
  rw [hN] at hN60
  have e := tx_sign h1 (i := j) (by omega) (k := k) (by rw [hN]; exact hk)
  rw [h2 j hj] at e
  exact ⟨e, by rw [← h2 j hj]; exact (h1 j (by omega)).2.2 k (by omega)⟩
theorem bt_part_loop (hj : j < 6) (hb : b ≤ N j) (hN : N j ≤ 60) : ∀ (d a c q : Nat) (ts : Nat → Int32) (tc : Nat → Nat → Int32), a + d = b → d < q → BT tc0 N F ts tc c → c + d ≤ 60 → (∀ k, k < d → tc0 j (a + k) = F (c + k)) → ∃ ts' tc', fX4_addPart_3 fu 6 j (nI b) q (nI a) ts tc = some (ts', tc') ∧ BT tc0 N F ts' tc' (c + d) := by
  intro d
  induction d with
  | zero =>
    intro a c q ts tc ha hq h hc hF
    obtain ⟨q, rfl⟩ : ∃ k, q = k + 1 := ⟨q - 1, by omega⟩
    refine ⟨ts, tc, ?_, h⟩
    rw [fX4_addPart_3, if_pos ((nI_leI (by omega) (by omega)).mpr (by omega))]
  | succ d ih =>
    intro a c q ts tc ha hq h hc hF
    obtain ⟨q, rfl⟩ : ∃ k, q = k + 1 := ⟨q - 1, by omega⟩
    obtain ⟨e1, e2⟩ := bt_src h hj (k := a) (by omega)
    obtain ⟨ts1, tc1, a1, a2⟩ := bt_add h (v := tc0 j a) (by omega) (hF 0 (by omega)) e2
    obtain ⟨ts2, tc2, b1, b2⟩ := ih (a + 1) (c + 1) q ts1 tc1 (by omega) (by omega) a2 (by omega) (fun k hk => by have := hF (k + 1) (by omega); rw [show a + 1 + k = a + (k + 1) by omega, show c + 1 + k = c + (k + 1) by omega]; exact this)
    refine ⟨ts2, tc2, ?_, by rw [show c + (d + 1) = c + 1 + d by omega]; exact b2⟩
    rw [fX4_addPart_3, if_neg (fun z => by have := (nI_leI (by omega) (by omega)).mp z; omega), e1]
    simp only [Option.bind_some]
    rw [a1]
    simp only [Option.bind_some]
    rw [nI_1, b1]
theorem bt_part (h : BT tc0 N F ts tc c) (hj : j < 6) (hab : a ≤ b) (hb : b ≤ N j) (hN : N j ≤ 60) (hc : c + (b - a) ≤ 60) (hF : ∀ k, k < b - a → tc0 j (a + k) = F (c + k)) (hfu : 1000 ≤ fu) : ∃ ts' tc', fX4_addPart fu ts tc 6 j (nI a) (nI b) = some (ts', tc') ∧ BT tc0 N F ts' tc' (c + (b - a)) := by
  unfold fX4_addPart
  exact bt_part_loop hj hb hN (b - a) a c fu ts tc (by omega) (by omega) h hc hF
theorem bt_all (h : BT tc0 N F ts tc c) (hj : j < 6) (hN : N j ≤ 60) (hc : c + N j ≤ 60) (hF : ∀ k, k < N j → tc0 j k = F (c + k)) (hfu : 1000 ≤ fu) : ∃ ts' tc', fX4_addAll fu ts tc 6 j = some (ts', tc') ∧ BT tc0 N F ts' tc' (c + N j) := by
  have e : ts j = nI (N j) := by have := (h.1 j (by omega)).1; rw [upd_n (by omega)] at this; exact this
  obtain ⟨ts1, tc1, a1, a2⟩ := bt_part (fu := fu) h hj (a := 0) (b := N j) (by omega) (by omega) hN (by omega) (fun k hk => by rw [Nat.zero_add]; exact hF k (by omega)) hfu
  refine ⟨ts1, tc1, ?_, a2⟩
  unfold fX4_addAll
  rw [e, i_0, a1]
  rfl
/-- sign by sign, what is built goes into slot r -/
theorem bt_own_loop (hr : r < 6) (hc : c ≤ 60) : ∀ (d a q : Nat) (ts : Nat → Int32) (tc : Nat → Nat → Int32), a + d = c → d < q → TC ts tc (updL (updL N 6 c) r a) → (∀ i, i < 6 → i ≠ r → tc i = tc0 i) → (∀ k, k < c → tc 6 k = F k) → (∀ k, k < a → tc r k = F k) → ∃ ts' tc', fX4_addPart_3 fu r 6 (nI c) q (nI a) ts tc = some (ts', tc') ∧ TC ts' tc' (updL (updL N 6 c) r c) ∧ (∀ i, i < 6 → i ≠ r → tc' i = tc0 i) ∧ ∀ k, k < c → tc' r k = F k := by
  intro d
  induction d with
  | zero =>
    intro a q ts tc ha hq h h2 h6 hF
    obtain ⟨q, rfl⟩ : ∃ k, q = k + 1 := ⟨q - 1, by omega⟩
    obtain rfl : a = c := by omega
    refine ⟨ts, tc, ?_, h, h2, hF⟩
    rw [fX4_addPart_3, if_pos ((nI_leI (by omega) (by omega)).mpr (by omega))]
  | succ d ih =>
    intro a q ts tc ha hq h h2 h6 hF
    obtain ⟨q, rfl⟩ : ∃ k, q = k + 1 := ⟨q - 1, by omega⟩
    have m6 : updL (updL N 6 c) r a 6 = c := by rw [upd_n (by omega), upd_s]
    have mr : updL (updL N 6 c) r a r = a := upd_s
    have s1 := tx_sign h (i := 6) (by decide) (k := a) (by rw [m6]; omega)
    have hch : isCh (tc 6 a) := (h 6 (by decide)).2.2 a (by omega)
    obtain ⟨a1, a2⟩ := tx_add (v := tc 6 a) h (i := r) (by omega) (by rw [mr]; omega)
    rw [mr, nar_ch hch] at a1 a2
    have e : updL (updL (updL N 6 c) r a) r (a + 1) = updL (updL N 6 c) r (a + 1) := by funext q; simp only [updL]; split <;> rfl
    rw [e] at a2
    obtain ⟨ts2, tc2, b1, b2⟩ := ih (a + 1) q _ _ (by omega) (by omega) a2 (fun i hi hne => by rw [upd_n hne]; exact h2 i hi hne) (fun k hk => by rw [upd_n (by omega)]; exact h6 k hk) (fun k hk => by
      rw [upd_s]
      by_cases z : k = a
      · subst z; rw [upd_s]; exact h6 k (by omega)
      · rw [upd_n z]; exact hF k (by omega))
    refine ⟨ts2, tc2, ?_, b2⟩
    rw [fX4_addPart_3, if_neg (fun z => by have := (nI_leI (by omega) (by omega)).mp z; omega), s1]
    simp only [Option.bind_some]
    rw [a1]
    simp only [Option.bind_some]
    rw [nI_1, b1]
theorem bt_become (h : BT tc0 N F ts tc c) (hr : r < 6) (hc : c ≤ 60) (hfu : 1000 ≤ fu) : ∃ ts' tc', fX5_becomeBuilt fu ts tc r = some (nI c, ts', tc') ∧ NC tc0 N r c F ts' tc' := by
  obtain ⟨h1, h2, h3⟩ := h
  have k0 : TC (updL ts r 0) tc (updL (updL N 6 c) r 0) := fun k hk => by
    by_cases e : k = r
    · subst e
      rw [upd_s, upd_s]
      exact ⟨rfl, by omega, (h1 k hk).2.2⟩
    · rw [upd_n e, upd_n e]; exact h1 k hk
  obtain ⟨ts', tc', a1, a2, a3, a4⟩ := bt_own_loop (fu := fu) hr hc c 0 fu _ tc (by omega) (by omega) k0 (fun i hi _ => h2 i hi) h3 (fun k hk => by omega)
  have e6 : updL ts r 0 6 = nI c := by
    rw [upd_n (by omega)]
    have := (h1 6 (by decide)).1
    rw [upd_s] at this
    exact this
  have er : ts' r = nI c := by
    have := (a2 r (by omega)).1
    rw [upd_s] at this
    exact this
  have e0 : fX4_addPart_3 fu r 6 (updL ts r 0 6) fu 0 (updL ts r 0) tc = some (ts', tc') := by
    rw [e6]
    exact a1
  have e1 : fX4_addAll fu (updL ts r 0) tc r 6 = some (ts', tc') := by
    unfold fX4_addAll fX4_addPart
    rw [e0]
    rfl
  refine ⟨ts', tc', ?_, c, a2, a3, a4⟩
  unfold fX5_becomeBuilt fX4_become fX4_clear
  simp only [Option.bind_some]
  rw [e1]
  simp only [Option.bind_some, fX4_size]
  rw [er]
theorem bp_part (h : TC ts tc N) (hr : r < 6) (hj : j < 6) (hab : a ≤ b) (hb : b ≤ N j) (hF : ∀ k, k < b - a → tc j (a + k) = F k) (hfu : 1000 ≤ fu) : ∃ ts' tc', fX5_becomePart fu ts tc r j (nI a) (nI b) = some (nI (b - a), ts', tc') ∧ NC tc N r (b - a) F ts' tc' := by
  have hN := (h j (by omega)).2.1
  obtain ⟨c1, c2⟩ := bt_clear (F := F) h
  obtain ⟨ts1, tc1, a1, a2⟩ := bt_part (fu := fu) c2 hj hab hb hN (by omega) (fun k hk => by rw [Nat.zero_add]; exact hF k hk) hfu
  rw [Nat.zero_add] at a2
  obtain ⟨ts2, tc2, d1, d2⟩ := bt_become (fu := fu) a2 hr (by omega) hfu
  refine ⟨ts2, tc2, ?_, d2⟩
  unfold fX5_becomePart
  rw [c1]
  simp only [Option.bind_some]
  rw [a1]
  simp only [Option.bind_some]
  rw [d1]
  rfl
end BLD
