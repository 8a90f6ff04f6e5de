/-! THE COMPARISONS many and put: the occurrences from the left, each behind the one before -/
section QE
variable {ts : Nat → Int32} {tc tc0 : Nat → Nat → Int32} {ce sz : Nat → Int32} {N : Nat → Nat} {T : Nat → Nat → Int32} {i j r fu : Nat} {th : Int32} {f F : Nat → Int32} {P : Nat → Bool} {st : Nat}
/-- how many of d places from p on P says, none before nx, each st behind the one before -/
def grc (P : Nat → Bool) (st : Nat) : Nat → Nat → Nat → Nat
  | 0, _, _ => 0
  | d + 1, p, nx => if p < nx then grc P st d (p + 1) nx else if P p = true then grc P st d (p + 1) (p + st) + 1 else grc P st d (p + 1) nx
theorem grc_none : ∀ (d p nx : Nat), (∀ k, p ≤ k → k < p + d → P k = false) → grc P st d p nx = 0 := by
  intro d
  induction d with
  | zero => intro _ _ _; rfl
  | succ d ih =>
    intro p nx h
    rw [grc, h p (by omega) (by omega), ih (p + 1) nx (fun k h1 h2 => h k (by omega) (by omega))]
    simp
theorem grc_skip : ∀ (e d p : Nat), grc P st (e + d) p (p + e) = grc P st d (p + e) (p + e) := by
  intro e
  induction e with
  | zero => intro d p; rw [Nat.zero_add, Nat.add_zero]
  | succ e ih =>
    intro d p
    rw [show e + 1 + d = (e + d) + 1 by omega, grc, if_pos (by omega), show p + (e + 1) = (p + 1) + e by omega]
    exact ih d (p + 1)
theorem ct_C (I : INV ts tc ce sz N) (hi : i < 6) (hj : j < 6) (hm : 1 ≤ N j) (hfu : 1000 ≤ fu) {ov : Int32} (hst : st = if ov = 0 then 0 else N j) : ∀ (d p nx c q : Nat), p + d = N i → d < q → nx ≤ 200 → fX4_countOf_8 fu ts tc i j ov q (nI c) (nI nx) (nI p) = some (nI (c + grc (stands (tc i) (N i) (tc j) (N j)) st d p nx)) := by
  intro d
  have hNi := (I.1 i (lt7 hi)).2.1
  have hNj := (I.1 j (lt7 hj)).2.1
  have ei := (I.1 i (lt7 hi)).1
  have ej := (I.1 j (lt7 hj)).1
  have key : ∀ p, p ≤ 60 → ((ts i - ts j < nI p) ↔ N i < p + N j) := fun p hp => by
    rw [ei, ej, Int32.lt_iff_toInt_lt, pk_sub_toInt (by omega) (by omega), nI_toInt (by omega)]
    omega
  induction d with
  | zero =>
    intro p nx c q hp hq hnx
    obtain ⟨q, rfl⟩ : ∃ k, q = k + 1 := ⟨q - 1, by omega⟩
    rw [fX4_countOf_8]
    exact ps ((key p (by omega)).mpr (by omega)) rfl
  | succ d ih =>
    intro p nx c q hp hq hnx
    obtain ⟨q, rfl⟩ : ∃ k, q = k + 1 := ⟨q - 1, by omega⟩
    rw [fX4_countOf_8]
    by_cases h : N i < p + N j
    · rw [grc_none _ _ _ (fun k h1 _ => stands_no (by omega))]
      exact ps ((key p (by omega)).mpr h) rfl
    · have hk := fun z => h ((key p (by omega)).mp z)
      have lt := nI_ltI (show p < 2 ^ 31 by omega) (show nx < 2 ^ 31 by omega)
      rw [grc]
      by_cases h2 : p < nx
      · rw [if_pos h2]
        have h3 := ih (p + 1) nx c q (by omega) (by omega) hnx
        rw [← nI_1] at h3
        exact ns hk (ps (lt.mpr h2) h3)
      · rw [if_neg h2]
        have h2' := fun z => h2 (lt.mp z)
        by_cases b : stands (tc i) (N i) (tc j) (N j) p = true
        · rw [if_pos b]
          by_cases o : ov = 0
          · rw [if_pos o] at hst
            have h3 := ih (p + 1) p (c + 1) q (by omega) (by omega) (by omega)
            rw [← nI_1, ← nI_1, show c + 1 + grc (stands (tc i) (N i) (tc j) (N j)) st d (p + 1) p = c + (grc (stands (tc i) (N i) (tc j) (N j)) st d (p + 1) p + 1) by omega] at h3
            rw [show p + st = p by omega]
            exact ns hk (ns h2' (bs (tx_hasAt I.1 (lt7 hi) (lt7 hj) (by omega) hfu) (ns (bI_n0 b) (ps o h3))))
          · rw [if_neg o] at hst
            have h3 := ih (p + 1) (p + N j) (c + 1) q (by omega) (by omega) (by omega)
            rw [← nI_1, ← nI_1, ← nI_add, ← ej, show c + 1 + grc (stands (tc i) (N i) (tc j) (N j)) st d (p + 1) (p + N j) = c + (grc (stands (tc i) (N i) (tc j) (N j)) st d (p + 1) (p + N j) + 1) by omega] at h3
            rw [hst]
            rw [hst] at h3
            exact ns hk (ns h2' (bs (tx_hasAt I.1 (lt7 hi) (lt7 hj) (by omega) hfu) (ns (bI_n0 b) (ns o h3))))
        · rw [if_neg b]
          have h3 := ih (p + 1) nx c q (by omega) (by omega) hnx
          rw [← nI_1] at h3
          exact ns hk (ns h2' (bs (tx_hasAt I.1 (lt7 hi) (lt7 hj) (by omega) hfu) (ps (bI_0.mpr (Bool.eq_false_iff.mpr b)) h3)))
theorem ct_M (I : INV ts tc ce sz N) (hi : i < 6) (hj : j < 6) (hm : 1 ≤ N j) (hfu : 1000 ≤ fu) {ov : Int32} (hst : st = if ov = 0 then 0 else N j) : ∀ (b d p nx c q : Nat), d ≤ b → p + d = N i → d < q → nx ≤ p → fX6_counted_6 fu ce sz (nI i) (nI (60 * j)) (nI (N j)) ov q (nI c) (nI p) = some (nI (c + grc (stands (tc i) (N i) (tc j) (N j)) st d p nx)) := by
  intro b
  have hNi := (I.1 i (lt7 hi)).2.1
  have hNj := (I.1 j (lt7 hj)).2.1
  induction b with
  | zero =>
    intro d p nx c q hd hp hq hnx
    obtain ⟨q, rfl⟩ : ∃ k, q = k + 1 := ⟨q - 1, by omega⟩
    obtain rfl : d = 0 := by omega
    rw [fX6_counted_6]
    exact bs (I.2.1.len hi) (ps ((nI_leI (by omega) (by omega)).mpr (by omega)) rfl)
  | succ b ih =>
    intro d p nx c q hd hp hq hnx
    obtain ⟨q, rfl⟩ : ∃ k, q = k + 1 := ⟨q - 1, by omega⟩
    cases d with
    | zero =>
      rw [fX6_counted_6]
      exact bs (I.2.1.len hi) (ps ((nI_leI (by omega) (by omega)).mpr (by omega)) rfl)
    | succ d =>
      have hle : ¬ nI (N i) ≤ nI p := fun z => by have := (nI_leI (by omega) (by omega)).mp z; omega
      rw [fX6_counted_6, grc, if_neg (by omega)]
      by_cases bb : stands (tc i) (N i) (tc j) (N j) p = true
      · rw [if_pos bb]
        by_cases o : ov = 0
        · rw [if_pos o] at hst
          have h3 := ih d (p + 1) p (c + 1) q (by omega) (by omega) (by omega) (by omega)
          rw [← nI_1, ← nI_1, show c + 1 + grc (stands (tc i) (N i) (tc j) (N j)) st d (p + 1) p = c + (grc (stands (tc i) (N i) (tc j) (N j)) st d (p + 1) p + 1) by omega] at h3
          rw [show p + st = p by omega]
          exact bs (I.2.1.len hi) (ns hle (bs rm_base (bs (I.2.1.len hi) (bs (rm_st I hi hj (by omega) hfu) (ns (bI_n0 bb) (ns (bI_n0 bb) (ps o h3)))))))
        · rw [if_neg o] at hst
          have hmm := (stands_iff.mp bb).1
          have h3 := ih (d + 1 - N j) (p + N j) (p + N j) (c + 1) q (by omega) (by omega) (by omega) (by omega)
          have sk := grc_skip (P := stands (tc i) (N i) (tc j) (N j)) (st := st) (N j - 1) (d + 1 - N j) (p + 1)
          rw [show N j - 1 + (d + 1 - N j) = d by omega, show p + 1 + (N j - 1) = p + N j by omega] at sk
          rw [← sk, ← nI_1, ← nI_add, show c + 1 + grc (stands (tc i) (N i) (tc j) (N j)) st d (p + 1) (p + N j) = c + (grc (stands (tc i) (N i) (tc j) (N j)) st d (p + 1) (p + N j) + 1) by omega] at h3
          rw [hst]
          rw [hst] at h3
          exact bs (I.2.1.len hi) (ns hle (bs rm_base (bs (I.2.1.len hi) (bs (rm_st I hi hj (by omega) hfu) (ns (bI_n0 bb) (ns (bI_n0 bb) (ns o h3)))))))
      · rw [if_neg bb]
        have h3 := ih d (p + 1) nx c q (by omega) (by omega) (by omega) (by omega)
        have b0 := bI_0.mpr (Bool.eq_false_iff.mpr bb)
        rw [← nI_1] at h3
        have h4 : fX6_counted_49 fu ce sz (nI i) (nI (60 * j)) (nI (N j)) ov (nI p) (bI (stands (tc i) (N i) (tc j) (N j) p)) (fX6_counted_6 fu ce sz (nI i) (nI (60 * j)) (nI (N j)) ov q) 0 (nI c) = some (nI (c + grc (stands (tc i) (N i) (tc j) (N j)) st d (p + 1) nx)) := by
          unfold fX6_counted_49
          rw [Int32.add_zero]
          exact ps b0 h3
        exact bs (I.2.1.len hi) (ns hle (bs rm_base (bs (I.2.1.len hi) (bs (rm_st I hi hj (by omega) hfu) (ps b0 h4)))))
theorem tx_count (I : INV ts tc ce sz N) (hi : i < 6) (hj : j < 6) (hm : 1 ≤ N j) (hfu : 1000 ≤ fu) (ov : Int32) : fX4_countOf fu ts tc i j ov = some (nI (grc (stands (tc i) (N i) (tc j) (N j)) (if ov = 0 then 0 else N j) (N i) 0 0)) := by
  have := ct_C (fu := fu) I hi hj hm hfu (ov := ov) rfl (N i) 0 0 0 fu (by omega) (by have := (I.1 i (lt7 hi)).2.1; omega) (by omega)
  rw [Nat.zero_add] at this
  exact this
theorem rm_count (I : INV ts tc ce sz N) (hi : i < 6) (hj : j < 6) (hm : 1 ≤ N j) (hfu : 1000 ≤ fu) (ov : Int32) : fX6_counted fu ce sz (nI i) (nI (60 * j)) (nI (N j)) ov = some (nI (grc (stands (tc i) (N i) (tc j) (N j)) (if ov = 0 then 0 else N j) (N i) 0 0)) := by
  have := ct_M (fu := fu) I hi hj hm hfu (ov := ov) rfl (N i) (N i) 0 0 0 fu (Nat.le_refl _) (by omega) (by have := (I.1 i (lt7 hi)).2.1; omega) (by omega)
  rw [Nat.zero_add] at this
  exact this
/-- what stands behind putting wl for each of them -/
def putL (f : Nat → Int32) (P : Nat → Bool) (wl : List Int32) (m : Nat) : Nat → Nat → Nat → List Int32
  | 0, _, _ => []
  | d + 1, p, nx => if p < nx then putL f P wl m d (p + 1) nx else if P p = true then wl ++ putL f P wl m d (p + 1) (p + m) else f p :: putL f P wl m d (p + 1) nx
theorem putL_skip {wl : List Int32} {m : Nat} : ∀ (e d p : Nat), putL f P wl m (e + d) p (p + e) = putL f P wl m d (p + e) (p + e) := by
  intro e
  induction e with
  | zero => intro d p; rw [Nat.zero_add, Nat.add_zero]
  | succ e ih =>
    intro d p
    rw [show e + 1 + d = (e + d) + 1 by omega, putL, if_pos (by omega), show p + (e + 1) = (p + 1) + e by omega]
    exact ih d (p + 1)
theorem putL_len {wl : List Int32} {m : Nat} (hm : 1 ≤ m) : ∀ (d p nx : Nat), nx ≤ p + d → (∀ k, p ≤ k → P k = true → k + m ≤ p + d) → (putL f P wl m d p nx).length + (nx - p) + m * grc P m d p nx = d + wl.length * grc P m d p nx := by
  intro d
  induction d with
  | zero => intro p nx h _; simp [putL, grc]; omega
  | succ d ih =>
    intro p nx h hP
    rw [putL, grc]
    by_cases h1 : p < nx
    · rw [if_pos h1, if_pos h1]
      have := ih (p + 1) nx (by omega) (fun k h2 h3 => by have := hP k (by omega) h3; omega)
      omega
    · rw [if_neg h1, if_neg h1]
      by_cases b : P p = true
      · rw [if_pos b, if_pos b, List.length_append, Nat.mul_succ, Nat.mul_succ]
        have := hP p (Nat.le_refl _) b
        have := ih (p + 1) (p + m) (by omega) (fun k h2 h3 => by have := hP k (by omega) h3; omega)
        omega
      · rw [if_neg b, if_neg b, List.length_cons]
        have := ih (p + 1) nx (by omega) (fun k h2 h3 => by have := hP k (by omega) h3; omega)
        omega
theorem putL_all {wl : List Int32} {m : Nat} {Q : Int32 → Prop} (hw : ∀ v, v ∈ wl → Q v) : ∀ (d p nx : Nat), (∀ k, p ≤ k → k < p + d → Q (f k)) → ∀ v, v ∈ putL f P wl m d p nx → Q v := by
  intro d
  induction d with
  | zero => intro p nx _ v hv; simp [putL] at hv
  | succ d ih =>
    intro p nx hf v hv
    have hf2 : ∀ k, p + 1 ≤ k → k < p + 1 + d → Q (f k) := fun k h1 h2 => hf k (by omega) (by omega)
    rw [putL] at hv
    split at hv
    · exact ih _ _ hf2 v hv
    · split at hv
      · rcases List.mem_append.mp hv with h | h
        · exact hw v h
        · exact ih _ _ hf2 v h
      · rcases List.mem_cons.mp hv with h | h
        · rw [h]; exact hf p (by omega) (by omega)
        · exact ih _ _ hf2 v h
/-- the text of n signs f, as a list -/
def lst (f : Nat → Int32) (n : Nat) : List Int32 := (List.range n).map f
theorem lst_len {n : Nat} : (lst f n).length = n := by simp [lst]
theorem lst_at {n k : Nat} (h : k < n) : (lst f n)[k]? = some (f k) := by simp [lst, h]
theorem lst_mem {n : Nat} {v : Int32} (h : v ∈ lst f n) : ∃ k, k < n ∧ f k = v := by
  simp [lst] at h
  exact h
theorem bt_has {c p : Nat} (h : BT tc0 N F ts tc c) (hi : i < 6) (hj : j < 6) (hp : p ≤ N i) (hfu : 1000 ≤ fu) : fX4_hasAt fu ts tc i (nI p) j = some (bI (stands (tc0 i) (N i) (tc0 j) (N j) p)) := by
  have := tx_hasAt (fu := fu) (p := p) h.1 (lt7 hi) (lt7 hj) (by rw [upd_n (by omega)]; exact hp) hfu
  rw [upd_n (by omega), upd_n (by omega), h.2.1 i hi, h.2.1 j hj] at this
  exact this
theorem pu_C {w L : Nat} (hi : i < 6) (hj : j < 6) (hw : w < 6) (hNi : N i ≤ 60) (hNj : N j ≤ 60) (hNw : N w ≤ 60) (hL : L ≤ 60) (hfu : 1000 ≤ fu) : ∀ (d p nx c q : Nat) (ts : Nat → Int32) (tc : Nat → Nat → Int32), p + d = N i → d < q → nx ≤ 200 → BT tc0 N F ts tc c → c + (putL (tc0 i) (stands (tc0 i) (N i) (tc0 j) (N j)) (lst (tc0 w) (N w)) (N j) d p nx).length = L → (∀ k v, (putL (tc0 i) (stands (tc0 i) (N i) (tc0 j) (N j)) (lst (tc0 w) (N w)) (N j) d p nx)[k]? = some v → F (c + k) = v) → ∃ ts' tc', fX5_buildInstead_13 fu i j w q (nI nx) (nI p) ts tc = some (ts', tc') ∧ BT tc0 N F ts' tc' L := by
  intro d
  induction d with
  | zero =>
    intro p nx c q ts tc hp hq hnx h hl hF
    obtain ⟨q, rfl⟩ : ∃ k, q = k + 1 := ⟨q - 1, by omega⟩
    have hl2 : c = L := hl
    rw [← hl2]
    refine ⟨ts, tc, ?_, h⟩
    rw [fX5_buildInstead_13]
    exact bs (bt_size h hi) (ps ((nI_leI (by omega) (by omega)).mpr (by omega)) rfl)
  | succ d ih =>
    intro p nx c q ts tc hp hq hnx h hl hF
    obtain ⟨q, rfl⟩ : ∃ k, q = k + 1 := ⟨q - 1, by omega⟩
    have hle : ¬ nI (N i) ≤ nI p := fun z => by have := (nI_leI (by omega) (by omega)).mp z; omega
    have lt := nI_ltI (show p < 2 ^ 31 by omega) (show nx < 2 ^ 31 by omega)
    rw [putL] at hl hF
    by_cases h2 : p < nx
    · rw [if_pos h2] at hl hF
      obtain ⟨ts1, tc1, e1, e2⟩ := ih (p + 1) nx c q ts tc (by omega) (by omega) hnx h hl hF
      refine ⟨ts1, tc1, ?_, e2⟩
      rw [← nI_1] at e1
      rw [fX5_buildInstead_13]
      exact bs (bt_size h hi) (ns hle (ps (lt.mpr h2) e1))
    · rw [if_neg h2] at hl hF
      have h2' := fun z => h2 (lt.mp z)
      by_cases b : stands (tc0 i) (N i) (tc0 j) (N j) p = true
      · rw [if_pos b] at hl hF
        rw [List.length_append, lst_len] at hl
        obtain ⟨ts1, tc1, a1, a2⟩ := bt_all (fu := fu) h hw hNw (by omega) (fun k hk => (hF k _ (by rw [List.getElem?_append_left (by rw [lst_len]; exact hk)]; exact lst_at hk)).symm) hfu
        obtain ⟨ts2, tc2, e1, e2⟩ := ih (p + 1) (p + N j) (c + N w) q ts1 tc1 (by omega) (by omega) (by omega) a2 (by omega) (fun k v hv => by
          rw [Nat.add_assoc]
          refine hF (N w + k) v ?_
          rw [List.getElem?_append_right (by rw [lst_len]; omega), lst_len, Nat.add_sub_cancel_left]
          exact hv)
        refine ⟨ts2, tc2, ?_, e2⟩
        rw [← nI_1, ← nI_add] at e1
        rw [fX5_buildInstead_13]
        exact bs (bt_size h hi) (ns hle (ns h2' (bs (bt_has h hi hj (by omega) hfu) (ns (bI_n0 b) (bs a1 (bs (bt_size a2 hj) e1))))))
      · rw [if_neg b] at hl hF
        rw [List.length_cons] at hl
        obtain ⟨s1, s2⟩ := bt_src h hi (k := p) (by omega)
        obtain ⟨ts1, tc1, a1, a2⟩ := bt_add h (v := tc0 i p) (by omega) (hF 0 _ rfl).symm s2
        obtain ⟨ts2, tc2, e1, e2⟩ := ih (p + 1) nx (c + 1) q ts1 tc1 (by omega) (by omega) hnx a2 (by omega) (fun k v hv => by
          rw [show c + 1 + k = c + (k + 1) by omega]
          exact hF (k + 1) v hv)
        refine ⟨ts2, tc2, ?_, e2⟩
        rw [← nI_1] at e1
        rw [fX5_buildInstead_13]
        exact bs (bt_size h hi) (ns hle (ns h2' (bs (bt_has h hi hj (by omega) hfu) (ps (bI_0.mpr (Bool.eq_false_iff.mpr b)) (bs s1 (bs a1 e1))))))
end QE
theorem empties {ts : Nat → Int32} {tc : Nat → Nat → Int32} {N : Nat → Nat} {j : Nat} (h : TC ts tc N) (hj : j < 7) : fX5_requireNotEmpty ts j = some (if N j = 0 then .error "java/lang/UnsupportedOperationException" else .ok ()) := by
  have hN := (h j hj).2.1
  by_cases e : N j = 0
  · rw [if_pos e]
    exact bs (show fX4_isEmpty ts j = some 1 from ps (by rw [(h j hj).1, e]; rfl) rfl) (ns i32_10 rfl)
  · rw [if_neg e]
    exact bs (show fX4_isEmpty ts j = some 0 from ns (by rw [(h j hj).1, nI_eq0 (by omega)]; exact e) rfl) (ps rfl rfl)
theorem q_many {fu : Nat} {ts : Nat → Int32} {tc : Nat → Nat → Int32} {ol : Nat → Int64} {ce : Nat → Int32} {sz : Nat → Int32} {th : Int32} {N : Nat → Nat} (I : INV ts tc ce sz N) (hfu : 2000 ≤ fu) (x1 x2 x3 : Int32) : ∃ (k : Int32) (g : Nat → Int64) (b : Int32) (t : Int32), fL_many fu ts tc ol x1 x2 x3 = some (k, g) ∧ fX6_many fu th ce sz x1 x2 x3 = some (b, t) ∧ t = k ∧ (k = 0 → g 0 = b.toInt64) ∧ ∃ N', INV ts tc ce sz N' := by
  rcases slots x1 with ⟨j1, h1, rfl⟩ | ⟨b1, b2⟩
  · rcases slots x2 with ⟨j2, h2, rfl⟩ | ⟨b1, b2⟩
    · have hN2 := (I.1 j2 (by omega)).2.1
      have hem := empties I.1 (lt7 h2)
      have h0 := nI_eq0 (show N j2 < 2 ^ 31 by omega)
      by_cases e : N j2 = 0
      · rw [if_pos e] at hem
        exact ⟨2, ol, 0, 2, we_many_2 (bs (sl_ok h1) (es (bs (sl_ok h2) (es (bs (hem) (er (rfl))))))), bs (no2_ok h1 h2 _) (ps (rfl) (bs (I.2.1.len h2) (ps (h0.mpr e) (bs (mo_thrown1 _ _) (ns (i32_10) (rfl)))))), rfl, fun h => absurd h (by decide), N, I⟩
      · rw [if_neg e] at hem
        exact ⟨0, _, _, 0, wo_many (bs (sl_ok h1) (es (bs (sl_ok h2) (es (bs (hem) (es (bs (tx_count I h1 h2 (by omega) (by omega) x3) (rfl)))))))), bs (no2_ok h1 h2 _) (ps (rfl) (bs (I.2.1.len h2) (ns (fun z => e (h0.mp z)) (bs (mo_thrown0 _ _) (ps (rfl) (bs (rm_base) (bs (I.2.1.len h2) (bs (rm_count I h1 h2 (by omega) (by omega) x3) (rfl))))))))), rfl, fun _ => upd_s, N, I⟩
    · exact ⟨1, ol, 0, 1, we_many_1 (bs (sl_ok h1) (es (bs (b1) (er (rfl))))), by simp [fX6_many, fX6_isNoOf, fX6_isNoOfAll, fX6_isNoPlace, sl_no h1, b2], rfl, fun h => absurd h (by decide), N, I⟩
  · exact ⟨1, ol, 0, 1, we_many_1 (bs (b1) (er (rfl))), by simp [fX6_many, fX6_isNoOf, fX6_isNoOfAll, fX6_isNoPlace, b2], rfl, fun h => absurd h (by decide), N, I⟩
