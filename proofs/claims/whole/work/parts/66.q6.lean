/-! THE COMPARISONS put, type, typeMore -/
section QF
variable {ts : Nat → Int32} {tc tc0 : Nat → Nat → Int32} {ce sz : Nat → Int32} {N : Nat → Nat} {T : Nat → Nat → Int32} {i j s fu : Nat} {th : Int32} {f F : Nat → Int32} {P : Nat → Bool} {st : Nat}
theorem grc_le : ∀ (d p nx : Nat), grc P st d p nx ≤ d := by
  intro d
  induction d with
  | zero => intro _ _; exact Nat.le_refl 0
  | succ d ih =>
    intro p nx
    rw [grc]
    have h1 := ih (p + 1) nx
    have h2 := ih (p + 1) (p + st)
    split
    · omega
    · split <;> omega
theorem pu_M {w L : Nat} (hs : s < 6) (hi : i < 6) (hj : j < 6) (hw : w < 6) (hm : 1 ≤ N j) (hL : L ≤ 60) (hfu : 1000 ≤ fu) : ∀ (b d p nx c q : Nat) (ce : Nat → Int32), d ≤ b → p + d = N i → d < q → nx ≤ p → RM ce sz N T → (∀ k, k < c → ce (360 + k) = F k) → c + (putL (T i) (stands (T i) (N i) (T j) (N j)) (lst (T w) (N w)) (N j) d p nx).length = L → (∀ k v, (putL (T i) (stands (T i) (N i) (T j) (N j)) (lst (T w) (N w)) (N j) d p nx)[k]? = some v → F (c + k) = v) → ∃ ce', fX6_put_113 fu (nI s) (nI i) (nI j) (nI w) (nI L) q (nI (360 + c)) (nI p) th ce sz = some (nI L, th, ce', updL sz s (nI L)) ∧ NR N T s L F ce' (updL sz s (nI L)) := by
  intro b
  have done : ∀ (p nx c q : Nat) (ce : Nat → Int32), p = N i → 0 < q → RM ce sz N T → (∀ k, k < c → ce (360 + k) = F k) → c = L → ∃ ce', fX6_put_113 fu (nI s) (nI i) (nI j) (nI w) (nI L) q (nI (360 + c)) (nI p) th ce sz = some (nI L, th, ce', updL sz s (nI L)) ∧ NR N T s L F ce' (updL sz s (nI L)) := by
    intro p nx c q ce hp hq h hk hl
    obtain ⟨q, rfl⟩ : ∃ k, q = k + 1 := ⟨q - 1, by omega⟩
    subst hl
    have hNi := (h i hi).2.1
    obtain ⟨cb, m4, m5⟩ := rm_becomeR (fu := fu) (r := 360) (f := F) h hs ⟨by omega, hk⟩ hL (by omega) hfu
    refine ⟨cb, ?_, m5⟩
    rw [← i_360] at m4
    rw [fX6_put_113]
    exact bs (h.len hi) (ps ((nI_leI (by omega) (by omega)).mpr (by omega)) (bs m4 rfl))
  induction b with
  | zero =>
    intro d p nx c q ce hd hp hq hnx h hk hl hF
    obtain rfl : d = 0 := by omega
    exact done p nx c q ce (by omega) (by omega) h hk hl
  | succ b ih =>
    intro d p nx c q ce hd hp hq hnx h hk hl hF
    cases d with
    | zero => exact done p nx c q ce (by omega) (by omega) h hk hl
    | succ d =>
      obtain ⟨q, rfl⟩ : ∃ k, q = k + 1 := ⟨q - 1, by omega⟩
      have hNi := (h i hi).2.1
      have hNj := (h j hj).2.1
      have hNw := (h w hw).2.1
      have hle : ¬ nI (N i) ≤ nI p := fun z => by have := (nI_leI (by omega) (by omega)).mp z; omega
      have hst := rm_stands (fu := fu) (h.rw hi) (h.rw hj) (show p < 1000 by omega) hfu
      rw [putL, if_neg (by omega)] at hl hF
      by_cases bb : stands (T i) (N i) (T j) (N j) p = true
      · rw [if_pos bb] at hl hF
        have hmm := (stands_iff.mp bb).1
        have sk := putL_skip (f := T i) (P := stands (T i) (N i) (T j) (N j)) (wl := lst (T w) (N w)) (m := N j) (N j - 1) (d + 1 - N j) (p + 1)
        rw [show N j - 1 + (d + 1 - N j) = d by omega, show p + 1 + (N j - 1) = p + N j by omega] at sk
        rw [sk] at hl hF
        rw [List.length_append, lst_len] at hl
        obtain ⟨c1, k1, k2, k3⟩ := rm_copy (fu := fu) (m := N w) (a := 60 * w) (b := 360 + c) ce (by omega) (by omega) (by omega) hfu
        obtain ⟨ce', e1, e2⟩ := ih (d + 1 - N j) (p + N j) (p + N j) (c + N w) q c1 (by omega) (by omega) (by omega) (by omega) (h.keep (fun j hj => k3 j (by omega))) (fun k hk2 => by
          by_cases z : k < c
          · rw [k3 _ (by omega)]; exact hk k z
          · have z1 := k2 (k - c) (by omega)
            rw [show 360 + c + (k - c) = 360 + k by omega, (h w hw).2.2 (k - c) (by omega)] at z1
            have z2 := hF (k - c) (T w (k - c)) (by rw [List.getElem?_append_left (by rw [lst_len]; omega)]; exact lst_at (by omega))
            rw [show c + (k - c) = k by omega] at z2
            rw [z1, z2]) (by omega) (fun k v hv => by
          rw [Nat.add_assoc]
          refine hF (N w + k) v ?_
          rw [List.getElem?_append_right (by rw [lst_len]; omega), lst_len, Nat.add_sub_cancel_left]
          exact hv)
        refine ⟨ce', ?_, e2⟩
        rw [show 360 + (c + N w) = 360 + c + N w by omega, ← nI_add (360 + c), ← nI_add p] at e1
        rw [fX6_put_113]
        exact bs (h.len hi) (ns hle (bs rm_base (bs (h.len hi) (bs rm_base (bs (h.len hj) (bs hst (ns (bI_n0 bb) (bs (h.len hw) (ns (bI_n0 bb) (bs rm_base (bs k1 (ns (bI_n0 bb) (bs (h.len hj) e1)))))))))))))
      · rw [if_neg bb] at hl hF
        rw [List.length_cons] at hl
        have b0 := bI_0.mpr (Bool.eq_false_iff.mpr bb)
        obtain ⟨c1, k1, k2, k3⟩ := rm_copy (fu := fu) (m := 1) (a := 60 * i + p) (b := 360 + c) ce (by omega) (by omega) (by omega) hfu
        obtain ⟨ce', e1, e2⟩ := ih d (p + 1) nx (c + 1) q c1 (by omega) (by omega) (by omega) (by omega) (h.keep (fun j hj => k3 j (by omega))) (fun k hk2 => by
          by_cases z : k < c
          · rw [k3 _ (by omega)]; exact hk k z
          · obtain rfl : k = c := by omega
            have z1 := k2 0 (by omega)
            rw [Nat.add_zero, Nat.add_zero, (h i hi).2.2 p (by omega)] at z1
            have z2 := hF 0 (T i p) rfl
            rw [Nat.add_zero] at z2
            rw [z1, z2]) (by omega) (fun k v hv => by
          rw [show c + 1 + k = c + (k + 1) by omega]
          exact hF (k + 1) v hv)
        refine ⟨ce', ?_, e2⟩
        rw [show 360 + (c + 1) = 360 + c + 1 by omega, ← nI_1 (360 + c), ← nI_1 p] at e1
        rw [← nI_add, ← i_1] at k1
        rw [fX6_put_113]
        exact bs (h.len hi) (ns hle (bs rm_base (bs (h.len hi) (bs rm_base (bs (h.len hj) (bs hst (ps b0 (ps b0 (bs rm_base (bs k1 (ps b0 e1)))))))))))
theorem inv_add {v : Int32} (I : INV ts tc ce sz N) (hj : j < 6) (hN : N j < 60) (hv : 32 ≤ v.toInt ∧ v.toInt ≤ 126) : ∃ ts' tc', fX4_add ts tc j v = some (ts', tc') ∧ fX6_adds ce sz (nI j) v = some (updL ce (60 * j + N j) v, updL sz j (nI (N j + 1))) ∧ INV ts' tc' (updL ce (60 * j + N j) v) (updL sz j (nI (N j + 1))) (updL N j (N j + 1)) ∧ (∀ i, i ≠ j → tc' i = tc i) := by
  have hch := sign_ch hv
  obtain ⟨a1, a2⟩ := tx_add (v := v) I.1 (lt7 hj) hN
  rw [nar_ch hch] at a1 a2
  refine ⟨_, _, a1, ?_, ⟨a2, fun i hi => ?_, fun i hi k hk => ?_⟩, fun i hi => upd_n hi⟩
  · have e1 : stA ce 900 (nI (60 * j) + nI (N j)) v = some (updL ce (60 * j + N j) v) := by rw [nI_add]; exact stA_nI (by omega) (by decide)
    have e2 : stA sz 6 (nI j) (nI (N j) + 1) = some (updL sz j (nI (N j + 1))) := by rw [nI_1]; exact stA_nI hj (by decide)
    exact bs rm_base (bs (I.2.1.len hj) (bs e1 (bs (I.2.1.len hj) (bs e2 rfl))))
  · obtain ⟨r1, r2, r3⟩ := I.2.1 i hi
    by_cases e : i = j
    · subst e
      rw [upd_s, upd_s, upd_s]
      refine ⟨rfl, by omega, fun k hk => ?_⟩
      by_cases z : k = N i
      · subst z; rw [upd_s, upd_s]
      · rw [upd_n (by omega), upd_n z]; exact r3 k (by omega)
    · rw [upd_n e, upd_n e, upd_n e]
      refine ⟨r1, r2, fun k hk => ?_⟩
      rw [upd_n (by omega)]; exact r3 k hk
  · by_cases e : i = j
    · subst e
      rw [upd_s] at hk ⊢
      by_cases z : k = N i
      · subst z; rw [upd_s]; exact hv
      · rw [upd_n z]; exact I.2.2 i hi k (by omega)
    · rw [upd_n e] at hk ⊢
      exact I.2.2 i hi k hk
theorem sign_C (v : Int32) : fX5_requireSign v = some (if 32 ≤ v.toInt ∧ v.toInt ≤ 126 then .ok () else .error "java/lang/IllegalArgumentException") := by
  have h1 : v < 32 ↔ v.toInt < 32 := by rw [Int32.lt_iff_toInt_lt, show (32 : Int32).toInt = 32 from rfl]
  have h2 : v ≤ 126 ↔ v.toInt ≤ 126 := by rw [Int32.le_iff_toInt_le, show (126 : Int32).toInt = 126 from rfl]
  unfold fX5_requireSign
  by_cases a : v < 32
  · rw [if_pos a, if_neg (fun z => by have := h1.mp a; omega)]
  · rw [if_neg a]
    have a' : ¬ v.toInt < 32 := fun z => a (h1.mpr z)
    by_cases b : v ≤ 126
    · rw [if_pos b, if_pos ⟨by omega, h2.mp b⟩]
    · rw [if_neg b, if_neg (fun z => b (h2.mpr z.2))]
theorem sign_M (v : Int32) : fX6_isSign v = some (bI (decide (32 ≤ v.toInt ∧ v.toInt ≤ 126))) := by
  have hin := mo_isInI v 32 126
  rw [show (32 : Int64).toInt = 32 from rfl, show (126 : Int64).toInt = 126 from rfl] at hin
  exact bs hin (bs ckZ_b rfl)
theorem ad_both {m : Nat} (hj : j < 6) (hm : m ≤ 6) (hfu : 1000 ≤ fu) (hF : ∀ k, k < m → 32 ≤ (F k).toInt ∧ (F k).toInt ≤ 126) : ∀ (d a q q2 : Nat) (ts : Nat → Int32) (tc : Nat → Nat → Int32) (ce sz : Nat → Int32) (N : Nat → Nat), a + d = m → d < q → d < q2 → N j + d ≤ 60 → N 6 = 6 → INV ts tc ce sz N → (∀ k, k < 6 → tc 6 k = F k) → (∀ k, k < 6 → ce (360 + k) = F k) → ∃ ts' tc' ce' sz' N', fX4_addPart_3 fu j 6 (nI m) q (nI a) ts tc = some (ts', tc') ∧ fX6_typeMore_190 fu (nI j) (nI m) q2 (nI a) th ce sz = some (nI (N j + d), th, ce', sz') ∧ INV ts' tc' ce' sz' N' ∧ N' j = N j + d := by
  intro d
  induction d with
  | zero =>
    intro a q q2 ts tc ce sz N ha hq hq2 hN h6 I h1 h2
    obtain ⟨q, rfl⟩ : ∃ k, q = k + 1 := ⟨q - 1, by omega⟩
    obtain ⟨q2, rfl⟩ : ∃ k, q2 = k + 1 := ⟨q2 - 1, by omega⟩
    have hle : nI m ≤ nI a := (nI_leI (by omega) (by omega)).mpr (by omega)
    refine ⟨ts, tc, ce, sz, N, ?_, ?_, I, rfl⟩
    · rw [fX4_addPart_3]
      exact ps hle rfl
    · rw [fX6_typeMore_190]
      exact ps hle (bs (I.2.1.len hj) rfl)
  | succ d ih =>
    intro a q q2 ts tc ce sz N ha hq hq2 hN h6 I h1 h2
    obtain ⟨q, rfl⟩ : ∃ k, q = k + 1 := ⟨q - 1, by omega⟩
    obtain ⟨q2, rfl⟩ : ∃ k, q2 = k + 1 := ⟨q2 - 1, by omega⟩
    have hle : ¬ nI m ≤ nI a := fun z => by have := (nI_leI (by omega) (by omega)).mp z; omega
    obtain ⟨ts1, tc1, a1, a2, a3, a4⟩ := inv_add (v := F a) I hj (by omega) (hF a (by omega))
    obtain ⟨ts2, tc2, ce2, sz2, N2, b1, b2, b3, b4⟩ := ih (a + 1) q q2 ts1 tc1 _ _ _ (by omega) (by omega) (by omega) (by rw [upd_s]; omega) (by rw [upd_n (by omega)]; exact h6) a3 (fun k hk => by rw [a4 6 (by omega)]; exact h1 k hk) (fun k hk => by rw [upd_n (by omega)]; exact h2 k hk)
    rw [upd_s, show N j + 1 + d = N j + (d + 1) by omega] at b2 b4
    refine ⟨ts2, tc2, ce2, sz2, N2, ?_, ?_, b3, b4⟩
    · have s1 := tx_sign I.1 (show 6 < 7 by decide) (show a < N 6 by omega)
      rw [h1 a (by omega)] at s1
      rw [← nI_1] at b1
      rw [fX4_addPart_3]
      exact ns hle (bs s1 (bs a1 b1))
    · have s2 : ldA ce 900 (360 + nI a) = some (F a) := by
        rw [i_360, nI_add, ldA_nI (by omega) (by decide), h2 a (by omega)]
      rw [← nI_1] at b2
      rw [fX6_typeMore_190]
      exact ns hle (bs s2 (bs a2 b2))
theorem ckl_M {m : Nat} (hj : j < 6) (hm : m ≤ 6) (h2 : ∀ k, k < 6 → ce (360 + k) = F k) (y : Bool) : ∀ (d a q : Nat), a + d = m → d < q → ((y = true ∧ ∀ k, k < d → 32 ≤ (F (a + k)).toInt ∧ (F (a + k)).toInt ≤ 126) → fX6_typeMore_100 fu (nI j) (nI m) q (bI y) (nI a) th ce sz = fX6_typeMore_152 fu (nI j) (nI m) 0 th ce sz) ∧ (¬ (y = true ∧ ∀ k, k < d → 32 ≤ (F (a + k)).toInt ∧ (F (a + k)).toInt ≤ 126) → fX6_typeMore_100 fu (nI j) (nI m) q (bI y) (nI a) th ce sz = fX6_typeMore_152 fu (nI j) (nI m) 1 th ce sz) := by
  intro d
  induction d generalizing y with
  | zero =>
    intro a q ha hq
    obtain ⟨q, rfl⟩ : ∃ k, q = k + 1 := ⟨q - 1, by omega⟩
    have hle : nI m ≤ nI a := (nI_leI (by omega) (by omega)).mpr (by omega)
    rw [fX6_typeMore_100]
    cases y
    · exact ⟨fun z => absurd z.1 (by decide), fun _ => ps hle (ps rfl rfl)⟩
    · exact ⟨fun _ => ps hle (ns i32_10 rfl), fun z => absurd ⟨rfl, fun k hk => by omega⟩ z⟩
  | succ d ih =>
    intro a q ha hq
    obtain ⟨q, rfl⟩ : ∃ k, q = k + 1 := ⟨q - 1, by omega⟩
    have hle : ¬ nI m ≤ nI a := fun z => by have := (nI_leI (by omega) (by omega)).mp z; omega
    rw [fX6_typeMore_100]
    cases y
    · have := (ih false (a + 1) q (by omega) (by omega)).2 (fun z => absurd z.1 (by decide))
      rw [← nI_1] at this
      exact ⟨fun z => absurd z.1 (by decide), fun _ => ns hle (ps rfl this)⟩
    · have s2 : ldA ce 900 (360 + nI a) = some (F a) := by
        rw [i_360, nI_add, ldA_nI (by omega) (by decide), h2 a (by omega)]
      have sg := sign_M (F a)
      by_cases b : 32 ≤ (F a).toInt ∧ (F a).toInt ≤ 126
      · rw [decide_eq_true b] at sg
        obtain ⟨i1, i2⟩ := ih true (a + 1) q (by omega) (by omega)
        rw [← nI_1] at i1 i2
        refine ⟨fun z => ns hle (ns i32_10 (bs s2 (bs sg (ns i32_10 (i1 ⟨rfl, fun k hk => ?_⟩))))), fun z => ns hle (ns i32_10 (bs s2 (bs sg (ns i32_10 (i2 (fun z2 => z ⟨rfl, fun k hk => ?_⟩))))))⟩
        · have := z.2 (k + 1) (by omega)
          rw [show a + (k + 1) = a + 1 + k by omega] at this
          exact this
        · cases k with
          | zero => exact b
          | succ k =>
            have := z2.2 k (by omega)
            rw [show a + 1 + k = a + (k + 1) by omega] at this
            exact this
      · rw [decide_eq_false b] at sg
        obtain ⟨i1, i2⟩ := ih false (a + 1) q (by omega) (by omega)
        rw [← nI_1] at i2
        exact ⟨fun z => absurd (z.2 0 (by omega)) b, fun z => ns hle (ns i32_10 (bs s2 (bs sg (ps rfl (i2 (fun z2 => absurd z2.1 (by decide)))))))⟩
theorem ckl_C {m : Nat} (hm : m ≤ 6) (hT : TC ts tc N) (h6 : N 6 = 6) (h1 : ∀ k, k < 6 → tc 6 k = F k) : ∀ (d a q : Nat), a + d = m → d < q → ((∀ k, k < d → 32 ≤ (F (a + k)).toInt ∧ (F (a + k)).toInt ≤ 126) → ∃ q2, fX5_typeMore_91 fu (nI m) j q (nI a) ts tc = fX5_typeMore_91 fu (nI m) j (q2 + 1) (nI m) ts tc) ∧ (¬ (∀ k, k < d → 32 ≤ (F (a + k)).toInt ∧ (F (a + k)).toInt ≤ 126) → fX5_typeMore_91 fu (nI m) j q (nI a) ts tc = some (.error "java/lang/IllegalArgumentException", ts, tc)) := by
  intro d
  induction d with
  | zero =>
    intro a q ha hq
    obtain ⟨q, rfl⟩ : ∃ k, q = k + 1 := ⟨q - 1, by omega⟩
    exact ⟨fun _ => ⟨q, by rw [show a = m by omega]⟩, fun z => absurd (fun k hk => by omega) z⟩
  | succ d ih =>
    intro a q ha hq
    obtain ⟨q, rfl⟩ : ∃ k, q = k + 1 := ⟨q - 1, by omega⟩
    have hle : ¬ nI m ≤ nI a := fun z => by have := (nI_leI (by omega) (by omega)).mp z; omega
    have s1 := tx_sign hT (show 6 < 7 by decide) (show a < N 6 by omega)
    rw [h1 a (by omega)] at s1
    have sg := sign_C (F a)
    by_cases b : 32 ≤ (F a).toInt ∧ (F a).toInt ≤ 126
    · rw [if_pos b] at sg
      obtain ⟨i1, i2⟩ := ih (a + 1) q (by omega) (by omega)
      have step : fX5_typeMore_91 fu (nI m) j (q + 1) (nI a) ts tc = fX5_typeMore_91 fu (nI m) j q (nI (a + 1)) ts tc := by
        rw [fX5_typeMore_91, ← nI_1]
        exact ns hle (bs s1 (bs sg (es rfl)))
      rw [step]
      refine ⟨fun z => i1 (fun k hk => ?_), fun z => i2 (fun z2 => z (fun k hk => ?_))⟩
      · have := z (k + 1) (by omega)
        rw [show a + (k + 1) = a + 1 + k by omega] at this
        exact this
      · cases k with
        | zero => exact b
        | succ k =>
          have := z2 k (by omega)
          rw [show a + 1 + k = a + (k + 1) by omega] at this
          exact this
    · rw [if_neg b] at sg
      refine ⟨fun z => absurd (z 0 (by omega)) b, fun _ => ?_⟩
      rw [fX5_typeMore_91]
      exact ns hle (bs s1 (bs sg (er rfl)))
end QF
theorem q_put {fu : Nat} {ts : Nat → Int32} {tc : Nat → Nat → Int32} {ol : Nat → Int64} {ce : Nat → Int32} {sz : Nat → Int32} {th : Int32} {N : Nat → Nat} (I : INV ts tc ce sz N) (hfu : 2000 ≤ fu) (x1 x2 x3 x4 : Int32) : ∃ (k : Int32) (ts' : Nat → Int32) (tc' : Nat → Nat → Int32) (g : Nat → Int64) (b : Int32) (t : Int32) (ce' : Nat → Int32) (sz' : Nat → Int32), fL_put fu ts tc ol x1 x2 x3 x4 = some (k, ts', tc', g) ∧ fX6_put fu th ce sz x1 x2 x3 x4 = some (b, t, ce', sz') ∧ t = k ∧ (k = 0 → g 0 = b.toInt64) ∧ ∃ N', INV ts' tc' ce' sz' N' := by
  rcases slots x1 with ⟨j1, h1, rfl⟩ | ⟨b1, b2⟩
  · rcases slots x2 with ⟨j2, h2, rfl⟩ | ⟨b1, b2⟩
    · rcases slots x3 with ⟨j3, h3, rfl⟩ | ⟨b1, b2⟩
      · rcases slots x4 with ⟨j4, h4, rfl⟩ | ⟨b1, b2⟩
        · have hN2 := (I.1 j2 (by omega)).2.1
          have hN3 := (I.1 j3 (by omega)).2.1
          have hN4 := (I.1 j4 (by omega)).2.1
          have hem := empties I.1 (lt7 h3)
          have h0 := nI_eq0 (show N j3 < 2 ^ 31 by omega)
          by_cases e : N j3 = 0
          · rw [if_pos e] at hem
            exact ⟨2, ts, tc, ol, 0, 2, ce, sz, we_put_2 (bs (sl_ok h1) (es (bs (sl_ok h2) (es (bs (sl_ok h3) (es (bs (sl_ok h4) (es (bs (hem) (er (rfl))))))))))), bs (no3_ok h1 h2 h3 _) (ps (rfl) (bs (sl_no h4 _) (ps (rfl) (bs (I.2.1.len h3) (ps (h0.mpr e) (bs (mo_thrown1 _ _) (ns (i32_10) (rfl)))))))), rfl, fun h => absurd h (by decide), N, I⟩
          · rw [if_neg e] at hem
            have hc := tx_count (fu := fu) I h2 h3 (by omega) (by omega) 1
            have hcm := rm_count (fu := fu) I h2 h3 (by omega) (by omega) 1
            rw [if_neg i32_10] at hc hcm
            have hcle := grc_le (P := stands (tc j2) (N j2) (tc j3) (N j3)) (st := N j3) (N j2) 0 0
            have hlen := putL_len (f := tc j2) (P := stands (tc j2) (N j2) (tc j3) (N j3)) (wl := lst (tc j4) (N j4)) (show 1 ≤ N j3 by omega) (N j2) 0 0 (by omega) (fun k _ hk => by have := (stands_iff.mp hk).1; omega)
            have hall := putL_all (f := tc j2) (P := stands (tc j2) (N j2) (tc j3) (N j3)) (wl := lst (tc j4) (N j4)) (m := N j3) (Q := fun v => 32 ≤ v.toInt ∧ v.toInt ≤ 126) (fun v hv => by obtain ⟨k, k1, k2⟩ := lst_mem hv; rw [← k2]; exact I.2.2 j4 h4 k k1) (N j2) 0 0 (fun k _ hk => I.2.2 j2 h2 k (by omega))
            rw [lst_len, Nat.sub_zero, Nat.add_zero] at hlen
            generalize hl : putL (tc j2) (stands (tc j2) (N j2) (tc j3) (N j3)) (lst (tc j4) (N j4)) (N j3) (N j2) 0 0 = l at hlen hall
            generalize hcc : grc (stands (tc j2) (N j2) (tc j3) (N j3)) (N j3) (N j2) 0 0 = c at *
            have hX : N j4 * c ≤ 60 * 60 := Nat.mul_le_mul hN4 (by omega)
            have et : nI (N j2) + nI c * (nI (N j4) - nI (N j3)) = nI l.length := by
              rw [Int32.mul_sub, pk_mul, pk_mul, Int32.sub_eq_add_neg, ← Int32.add_assoc, nI_add, ← Int32.sub_eq_add_neg, Nat.mul_comm c, Nat.mul_comm c, nI_sub (by omega)]
              congr 1
              omega
            have hro : fX5_requireRoom (nI (N j2) + nI c * (nI (N j4) - nI (N j3))).toInt64 = if l.length ≤ 60 then some (.ok ()) else some (.error "java/lang/IllegalStateException") := by rw [et]; exact roomI (by omega)
            have h60 : nI (N j2) + nI c * (nI (N j4) - nI (N j3)) ≤ 60 ↔ l.length ≤ 60 := by rw [et]; exact le60 (by omega)
            by_cases hr : l.length ≤ 60
            · obtain ⟨c1, c2⟩ := bt_clear (F := fun k => (l[k]?).getD 0) I.1
              obtain ⟨t1, t2, a1, a2⟩ := pu_C (fu := fu) (tc0 := tc) (N := N) (i := j2) (j := j3) (w := j4) (F := fun k => (l[k]?).getD 0) (L := l.length) h2 h3 h4 hN2 hN3 hN4 hr (by omega) (N j2) 0 0 0 fu _ _ (by omega) (by omega) (by omega) c2 (by rw [hl, Nat.zero_add]) (fun k v hv => by rw [hl] at hv; rw [Nat.zero_add, hv]; rfl)
              obtain ⟨t5, t6, e1, e2⟩ := bt_become (fu := fu) a2 h1 hr (by omega)
              obtain ⟨cb, m1, m2⟩ := pu_M (fu := fu) (T := tc) (N := N) (sz := sz) (s := j1) (i := j2) (j := j3) (w := j4) (th := 0) (F := fun k => (l[k]?).getD 0) (L := l.length) h1 h2 h3 h4 (by omega) hr (by omega) (N j2) (N j2) 0 0 0 fu ce (by omega) (by omega) (by omega) (by omega) I.2.1 (fun k hk => by omega) (by rw [hl, Nat.zero_add]) (fun k v hv => by rw [hl] at hv; rw [Nat.zero_add, hv]; rfl)
              rw [Nat.add_zero, ← i_360, ← i_0] at m1
              have m1' : fX6_put_113 fu (nI j1) (nI j2) (nI j3) (nI j4) (nI (N j2) + nI c * (nI (N j4) - nI (N j3))) fu 360 0 0 ce sz = some (nI l.length, 0, cb, updL sz j1 (nI l.length)) := by rw [et]; exact m1
              refine ⟨0, t5, t6, updL ol 0 (nI l.length).toInt64, nI l.length, 0, cb, updL sz j1 (nI l.length), wo_put (bs (sl_ok h1) (es (bs (sl_ok h2) (es (bs (sl_ok h3) (es (bs (sl_ok h4) (es (bs (hem) (es (bs (hc) (bs (tx_size I.1 (lt7 h2)) (bs (tx_size I.1 (lt7 h4)) (bs (tx_size I.1 (lt7 h3)) (bs (room_y hro hr) (es (bs (show fX5_buildInstead fu ts tc j2 j3 j4 = _ from bs c1 a1) (bs (e1) (rfl))))))))))))))))))), bs (no3_ok h1 h2 h3 _) (ps (rfl) (bs (sl_no h4 _) (ps (rfl) (bs (I.2.1.len h3) (ns (fun z => e (h0.mp z)) (bs (mo_thrown0 _ _) (ps (rfl) (bs (I.2.1.len h2) (bs (rm_base) (bs (I.2.1.len h3) (bs (hcm) (bs (I.2.1.len h4) (bs (I.2.1.len h3) (ps (h60.mpr hr) (bs (mo_thrown0 _ _) (ps (rfl) (m1'))))))))))))))))), rfl, fun _ => upd_s, inv_new I h1 e2 m2 (fun k hk => ?_)⟩
              show 32 ≤ ((l[k]?).getD 0).toInt ∧ ((l[k]?).getD 0).toInt ≤ 126
              rw [List.getElem?_eq_getElem hk]
              exact hall _ (List.getElem_mem hk)
            · exact ⟨3, ts, tc, ol, 0, 3, ce, sz, we_put_3 (bs (sl_ok h1) (es (bs (sl_ok h2) (es (bs (sl_ok h3) (es (bs (sl_ok h4) (es (bs (hem) (es (bs (hc) (bs (tx_size I.1 (lt7 h2)) (bs (tx_size I.1 (lt7 h4)) (bs (tx_size I.1 (lt7 h3)) (bs (room_n hro hr) (er (rfl))))))))))))))))), bs (no3_ok h1 h2 h3 _) (ps (rfl) (bs (sl_no h4 _) (ps (rfl) (bs (I.2.1.len h3) (ns (fun z => e (h0.mp z)) (bs (mo_thrown0 _ _) (ps (rfl) (bs (I.2.1.len h2) (bs (rm_base) (bs (I.2.1.len h3) (bs (hcm) (bs (I.2.1.len h4) (bs (I.2.1.len h3) (ns (fun z => hr (h60.mp z)) (bs (mo_thrown1 _ _) (ns (i32_10) (rfl))))))))))))))))), rfl, fun h => absurd h (by decide), N, I⟩
        · exact ⟨1, ts, tc, ol, 0, 1, ce, sz, we_put_1 (bs (sl_ok h1) (es (bs (sl_ok h2) (es (bs (sl_ok h3) (es (bs (b1) (er (rfl))))))))), by simp [fX6_put, fX6_isNoOf, fX6_isNoOfAll, fX6_isNoPlace, sl_no h1, sl_no h2, sl_no h3, b2], rfl, fun h => absurd h (by decide), N, I⟩
      · exact ⟨1, ts, tc, ol, 0, 1, ce, sz, we_put_1 (bs (sl_ok h1) (es (bs (sl_ok h2) (es (bs (b1) (er (rfl))))))), by simp [fX6_put, fX6_isNoOf, fX6_isNoOfAll, fX6_isNoPlace, sl_no h1, sl_no h2, b2], rfl, fun h => absurd h (by decide), N, I⟩
    · exact ⟨1, ts, tc, ol, 0, 1, ce, sz, we_put_1 (bs (sl_ok h1) (es (bs (b1) (er (rfl))))), by simp [fX6_put, fX6_isNoOf, fX6_isNoOfAll, fX6_isNoPlace, sl_no h1, b2], rfl, fun h => absurd h (by decide), N, I⟩
  · exact ⟨1, ts, tc, ol, 0, 1, ce, sz, we_put_1 (bs (b1) (er (rfl))), by simp [fX6_put, fX6_isNoOf, fX6_isNoOfAll, fX6_isNoPlace, b2], rfl, fun h => absurd h (by decide), N, I⟩
theorem q_type {fu : Nat} {ts : Nat → Int32} {tc : Nat → Nat → Int32} {ol : Nat → Int64} {ce : Nat → Int32} {sz : Nat → Int32} {th : Int32} {N : Nat → Nat} (I : INV ts tc ce sz N) (hfu : 2000 ≤ fu) (x1 x2 : Int32) : ∃ (k : Int32) (ts' : Nat → Int32) (tc' : Nat → Nat → Int32) (g : Nat → Int64) (b : Int32) (t : Int32) (ce' : Nat → Int32) (sz' : Nat → Int32), fL_type ts tc ol x1 x2 = some (k, ts', tc', g) ∧ fX6_type th ce sz x1 x2 = some (b, t, ce', sz') ∧ t = k ∧ (k = 0 → g 0 = b.toInt64) ∧ ∃ N', INV ts' tc' ce' sz' N' := by
  rcases slots x1 with ⟨j1, h1, rfl⟩ | ⟨b1, b2⟩
  · have hN1 := (I.1 j1 (by omega)).2.1
    have sgC := sign_C x2
    have sgM := sign_M x2
    by_cases b : 32 ≤ x2.toInt ∧ x2.toInt ≤ 126
    · rw [if_pos b] at sgC
      rw [decide_eq_true b] at sgM
      have hro : fX5_requireRoom (nI (N j1) + 1).toInt64 = if N j1 + 1 ≤ 60 then some (.ok ()) else some (.error "java/lang/IllegalStateException") := by rw [nI_1]; exact roomI (by omega)
      have h60 : nI (N j1) = 60 ↔ N j1 = 60 := by rw [j_60]; exact nI_eq (by omega) (by decide)
      by_cases hr : N j1 + 1 ≤ 60
      · obtain ⟨ts1, tc1, a1, a2, a3, a4⟩ := inv_add (v := x2) I h1 (by omega) b
        have l1 := tx_size a3.1 (lt7 h1)
        have l2 := a3.2.1.len h1
        exact ⟨0, ts1, tc1, _, _, 0, _, _, wo_type (bs (sl_ok h1) (es (bs (sgC) (es (bs (tx_size I.1 (lt7 h1)) (bs (room_y hro hr) (es (bs (a1) (bs (l1) (rfl)))))))))), bs (sl_no h1 _) (ps (rfl) (bs (sgM) (ns (i32_10) (bs (mo_thrown0 _ _) (ps (rfl) (bs (I.2.1.len h1) (ns (fun z => absurd (h60.mp z) (by omega)) (bs (mo_thrown0 _ _) (ps (rfl) (bs (a2) (bs (l2) (rfl)))))))))))), rfl, fun _ => upd_s, _, a3⟩
      · exact ⟨3, ts, tc, ol, 0, 3, ce, sz, we_type_3 (bs (sl_ok h1) (es (bs (sgC) (es (bs (tx_size I.1 (lt7 h1)) (bs (room_n hro hr) (er (rfl)))))))), bs (sl_no h1 _) (ps (rfl) (bs (sgM) (ns (i32_10) (bs (mo_thrown0 _ _) (ps (rfl) (bs (I.2.1.len h1) (ps (h60.mpr (by omega)) (bs (mo_thrown1 _ _) (ns (i32_10) (rfl)))))))))), rfl, fun h => absurd h (by decide), N, I⟩
    · rw [if_neg b] at sgC
      rw [decide_eq_false b] at sgM
      exact ⟨2, ts, tc, ol, 0, 2, ce, sz, we_type_2 (bs (sl_ok h1) (es (bs (sgC) (er (rfl))))), bs (sl_no h1 _) (ps (rfl) (bs (sgM) (ps (rfl) (bs (mo_thrown1 _ _) (ns (i32_10) (rfl)))))), rfl, fun h => absurd h (by decide), N, I⟩
  · exact ⟨1, ts, tc, ol, 0, 1, ce, sz, we_type_1 (bs (b1) (er (rfl))), by simp [fX6_type, fX6_isNoOf, fX6_isNoOfAll, fX6_isNoPlace, b2], rfl, fun h => absurd h (by decide), N, I⟩
theorem stL {α : Type} {ce : Nat → α} {v : α} {k : Nat} {x : Int32} (h : x = nI k) (hk : k < 900) : stA ce 900 x v = some (updL ce k v) := by
  rw [h]
  exact stA_nI hk (by decide)
theorem inv_built {ts ts' : Nat → Int32} {tc tc' : Nat → Nat → Int32} {ce sz : Nat → Int32} {N : Nat → Nat} {F : Nat → Int32} {c : Nat} (I : INV ts tc ce sz N) (h : BT tc N F ts' tc' c) : INV ts' tc' ce sz (updL N 6 c) := by
  refine ⟨h.1, fun i hi => ?_, fun i hi k hk => ?_⟩
  · rw [upd_n (by omega), h.2.1 i hi]; exact I.2.1 i hi
  · rw [upd_n (by omega)] at hk
    rw [h.2.1 i hi]; exact I.2.2 i hi k hk
theorem q_typeMore {fu : Nat} {ts : Nat → Int32} {tc : Nat → Nat → Int32} {ol : Nat → Int64} {ce : Nat → Int32} {sz : Nat → Int32} {th : Int32} {N : Nat → Nat} (I : INV ts tc ce sz N) (hfu : 2000 ≤ fu) (x1 x2 x3 x4 x5 x6 x7 x8 : Int32) (g3 : isCh x3) (g4 : isCh x4) (g5 : isCh x5) (g6 : isCh x6) (g7 : isCh x7) (g8 : isCh x8) : ∃ (k : Int32) (ts' : Nat → Int32) (tc' : Nat → Nat → Int32) (g : Nat → Int64) (b : Int32) (t : Int32) (ce' : Nat → Int32) (sz' : Nat → Int32), fL_typeMore fu ts tc ol x1 x2 x3 x4 x5 x6 x7 x8 = some (k, ts', tc', g) ∧ fX6_typeMore fu th ce sz x1 x2 x3 x4 x5 x6 x7 x8 = some (b, t, ce', sz') ∧ t = k ∧ (k = 0 → g 0 = b.toInt64) ∧ ∃ N', INV ts' tc' ce' sz' N' := by
  rcases slots x1 with ⟨j1, h1, rfl⟩ | ⟨b1, b2⟩
  · have hN1 := (I.1 j1 (by omega)).2.1
    have hin := mo_isInI x2 1 6
    rw [show (1 : Int64).toInt = 1 from rfl, show (6 : Int64).toInt = 6 from rfl] at hin
    have hlt1 : x2 < 1 ↔ x2.toInt < 1 := by rw [Int32.lt_iff_toInt_lt, show (1 : Int32).toInt = 1 from rfl]
    have hle6 : x2 ≤ 6 ↔ x2.toInt ≤ 6 := by rw [Int32.le_iff_toInt_le, show (6 : Int32).toInt = 6 from rfl]
    by_cases hx : x2 < 1
    · have hx2 := hlt1.mp hx
      rw [decide_eq_false (by omega)] at hin
      exact ⟨2, ts, tc, ol, 0, 2, ce, sz, we_typeMore_2 (bs (sl_ok h1) (es (ps (hx) (rfl)))), bs (sl_no h1 _) (ps (rfl) (bs (hin) (ps (rfl) (bs (mo_thrown1 _ _) (ns (i32_10) (rfl)))))), rfl, fun h => absurd h (by decide), N, I⟩
    · have hx2 : ¬ x2.toInt < 1 := fun z => hx (hlt1.mpr z)
      by_cases hy : x2 ≤ 6
      · have hy2 := hle6.mp hy
        rw [decide_eq_true (by omega)] at hin
        obtain ⟨m, hm, rfl⟩ := i32_nat (x := x2) (by rw [Int32.le_iff_toInt_le, show (0 : Int32).toInt = 0 from rfl]; omega)
        rw [nI_toInt hm] at hx2 hy2
        obtain ⟨F, hF⟩ : ∃ F : Nat → Int32, F = fun k => if k = 0 then x3 else if k = 1 then x4 else if k = 2 then x5 else if k = 3 then x6 else if k = 4 then x7 else x8 := ⟨_, rfl⟩
        have f0 : x3 = F 0 := by rw [hF]; rfl
        have f1 : x4 = F 1 := by rw [hF]; rfl
        have f2 : x5 = F 2 := by rw [hF]; rfl
        have f3 : x6 = F 3 := by rw [hF]; rfl
        have f4 : x7 = F 4 := by rw [hF]; rfl
        have f5 : x8 = F 5 := by rw [hF]; rfl
        clear hF
        obtain ⟨c1, c2⟩ := bt_clear (F := F) I.1
        obtain ⟨s1, u1, a1, b1⟩ := bt_add c2 (by omega) f0 g3
        obtain ⟨s2, u2, a2, b2⟩ := bt_add b1 (by omega) f1 g4
        obtain ⟨s3, u3, a3, b3⟩ := bt_add b2 (by omega) f2 g5
        obtain ⟨s4, u4, a4, b4⟩ := bt_add b3 (by omega) f3 g6
        obtain ⟨s5, u5, a5, b5⟩ := bt_add b4 (by omega) f4 g7
        obtain ⟨s6, u6, a6, b6⟩ := bt_add b5 (by omega) f5 g8
        obtain ⟨ce6, hce⟩ : ∃ ce6, ce6 = updL (updL (updL (updL (updL (updL ce 360 x3) 361 x4) 362 x5) 363 x6) 364 x7) 365 x8 := ⟨_, rfl⟩
        have k1 : ∀ k, k < 6 → ce6 (360 + k) = F k := fun k hk => by
          rw [hce]
          have : k = 0 ∨ k = 1 ∨ k = 2 ∨ k = 3 ∨ k = 4 ∨ k = 5 := by omega
          rcases this with rfl | rfl | rfl | rfl | rfl | rfl
          · rw [← f0]; rfl
          · rw [← f1]; rfl
          · rw [← f2]; rfl
          · rw [← f3]; rfl
          · rw [← f4]; rfl
          · rw [← f5]; rfl
        have k2 : ∀ j, j < 360 → ce6 j = ce j := fun j hj => by
          rw [hce, upd_n (by omega), upd_n (by omega), upd_n (by omega), upd_n (by omega), upd_n (by omega), upd_n (by omega)]
        have e6 : stA (updL (updL (updL (updL (updL ce 360 x3) 361 x4) 362 x5) 363 x6) 364 x7) 900 (365 : Int32) x8 = some ce6 := by rw [hce]; exact stL (by decide) (by omega)
        have I6 := inv_built (inv_ce I k2) b6
        have n6 : updL N 6 6 6 = 6 := upd_s
        have nj : updL N 6 6 j1 = N j1 := upd_n (by omega)
        obtain ⟨p1, p2⟩ := ckl_C (j := j1) (fu := fu) (show m ≤ 6 by omega) b6.1 n6 b6.2.2 m 0 fu (by omega) (by omega)
        obtain ⟨r1, r2⟩ := ckl_M (j := j1) (fu := fu) (sz := sz) (th := 0) (show j1 < 6 from h1) (show m ≤ 6 by omega) k1 true m 0 fu (by omega) (by omega)
        have hroom := roomA (show N j1 + m < 2 ^ 31 by omega)
        have h60 := add60 (show N j1 + m < 2 ^ 31 by omega)
        have hlen := I6.2.1.len h1
        have hsz := tx_size I6.1 (lt7 h1)
        rw [nj] at hlen hsz
        have hmm : nI m ≤ nI m := (nI_leI hm hm).mpr (Nat.le_refl _)
        by_cases hs : ∀ k, k < m → 32 ≤ (F (0 + k)).toInt ∧ (F (0 + k)).toInt ≤ 126
        · obtain ⟨q2, p3⟩ := p1 hs
          have r3 := r1 ⟨rfl, hs⟩
          by_cases hr : N j1 + m ≤ 60
          · obtain ⟨t1, t2, t3, t4, t5, w1, w2, w3, w4⟩ := ad_both (fu := fu) (th := 0) h1 (show m ≤ 6 by omega) (by omega) (fun k hk => by have := hs k hk; rw [Nat.zero_add] at this; exact this) m 0 fu fu _ _ _ _ _ (by omega) (by omega) (by omega) (by rw [nj]; exact hr) n6 I6 b6.2.2 k1
            rw [nj] at w2 w4
            have hsz2 := tx_size w3.1 (lt7 h1)
            rw [w4] at hsz2
            have cc : fX5_typeMore_91 fu (nI m) j1 (q2 + 1) (nI m) s6 u6 = some (.ok (nI (N j1 + m)), t1, t2) := by
              rw [fX5_typeMore_91]
              exact ps (hmm) (bs (hsz) (bs (room_y hroom hr) (es (bs (w1) (bs (hsz2) (rfl))))))
            exact ⟨0, t1, t2, _, _, 0, t3, t4, wo_typeMore (bs (sl_ok h1) (es (ns (hx) (ps (hy) (bs (c1) (bs (a1) (bs (a2) (bs (a3) (bs (a4) (bs (a5) (bs (a6) (p3.trans cc)))))))))))), bs (sl_no h1 _) (ps (rfl) (bs (hin) (ns (i32_10) (bs (mo_thrown0 _ _) (ps (rfl) (bs (stL (by decide) (by omega)) (bs (stL (by decide) (by omega)) (bs (stL (by decide) (by omega)) (bs (stL (by decide) (by omega)) (bs (stL (by decide) (by omega)) (bs (e6) (r3.trans (bs (mo_thrown0 _ _) (ps (rfl) (bs (hlen) (ps (h60.mpr hr) (bs (mo_thrown0 _ _) (ps (rfl) (w2))))))))))))))))))), rfl, fun _ => upd_s, _, w3⟩
          · have cc : fX5_typeMore_91 fu (nI m) j1 (q2 + 1) (nI m) s6 u6 = some (.error "java/lang/IllegalStateException", s6, u6) := by
              rw [fX5_typeMore_91]
              exact ps (hmm) (bs (hsz) (bs (room_n hroom hr) (er (rfl))))
            exact ⟨3, s6, u6, ol, 0, 3, ce6, sz, we_typeMore_3 (bs (sl_ok h1) (es (ns (hx) (ps (hy) (bs (c1) (bs (a1) (bs (a2) (bs (a3) (bs (a4) (bs (a5) (bs (a6) (p3.trans cc)))))))))))), bs (sl_no h1 _) (ps (rfl) (bs (hin) (ns (i32_10) (bs (mo_thrown0 _ _) (ps (rfl) (bs (stL (by decide) (by omega)) (bs (stL (by decide) (by omega)) (bs (stL (by decide) (by omega)) (bs (stL (by decide) (by omega)) (bs (stL (by decide) (by omega)) (bs (e6) (r3.trans (bs (mo_thrown0 _ _) (ps (rfl) (bs (hlen) (ns (fun z => hr (h60.mp z)) (bs (mo_thrown1 _ _) (ns (i32_10) (rfl))))))))))))))))))), rfl, fun h => absurd h (by decide), _, I6⟩
        · exact ⟨2, s6, u6, ol, 0, 2, ce6, sz, we_typeMore_2 (bs (sl_ok h1) (es (ns (hx) (ps (hy) (bs (c1) (bs (a1) (bs (a2) (bs (a3) (bs (a4) (bs (a5) (bs (a6) (p2 hs)))))))))))), bs (sl_no h1 _) (ps (rfl) (bs (hin) (ns (i32_10) (bs (mo_thrown0 _ _) (ps (rfl) (bs (stL (by decide) (by omega)) (bs (stL (by decide) (by omega)) (bs (stL (by decide) (by omega)) (bs (stL (by decide) (by omega)) (bs (stL (by decide) (by omega)) (bs (e6) ((r2 (fun z => hs z.2)).trans (bs (mo_thrown1 _ _) (ns (i32_10) (rfl))))))))))))))), rfl, fun h => absurd h (by decide), _, I6⟩
      · have hy2 : ¬ x2.toInt ≤ 6 := fun z => hy (hle6.mpr z)
        rw [decide_eq_false (by omega)] at hin
        exact ⟨2, ts, tc, ol, 0, 2, ce, sz, we_typeMore_2 (bs (sl_ok h1) (es (ns (hx) (ns (hy) (rfl))))), bs (sl_no h1 _) (ps (rfl) (bs (hin) (ps (rfl) (bs (mo_thrown1 _ _) (ns (i32_10) (rfl)))))), rfl, fun h => absurd h (by decide), N, I⟩
  · exact ⟨1, ts, tc, ol, 0, 1, ce, sz, we_typeMore_1 (bs (b1) (er (rfl))), by simp [fX6_typeMore, fX6_isNoOf, fX6_isNoOfAll, fX6_isNoPlace, b2], rfl, fun h => absurd h (by decide), N, I⟩
