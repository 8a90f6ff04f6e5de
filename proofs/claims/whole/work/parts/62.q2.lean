/-! THE COMPARISONS that lay a new text: repeat, part, turn, back -/
theorem lg60 {x : Int64} {a : Nat} (h : x.toInt = (a : Int)) : lg_cmp x 60 ≤ 0 ↔ a ≤ 60 := by
  rw [lgc_le, Int64.le_iff_toInt_le, h, show (60 : Int64).toInt = 60 from rfl]
  exact ⟨fun q => by omega, fun q => by omega⟩
theorem mul64 {a b : Nat} (ha : a < 2 ^ 31) (hb : b < 2 ^ 31) : ((nI a).toInt64 * (nI b).toInt64).toInt = ((a * b : Nat) : Int) := by
  rw [Int64.toInt_mul, Int32.toInt_toInt64, Int32.toInt_toInt64, nI_toInt ha, nI_toInt hb]
  have h : a * b ≤ 2 ^ 31 * 2 ^ 31 := Nat.mul_le_mul (by omega) (by omega)
  rw [← Int.natCast_mul]
  have h2 : (2 : Nat) ^ 31 * 2 ^ 31 = 4611686018427387904 := by decide +kernel
  generalize a * b = m at *
  rw [h2] at h
  rw [Int.bmod_eq_of_le (by omega) (by omega)]
section QB
variable {ts : Nat → Int32} {tc tc0 : Nat → Nat → Int32} {ce sz : Nat → Int32} {N : Nat → Nat} {T : Nat → Nat → Int32} {F : Nat → Int32} {j fu r c k a s t : Nat} {th : Int32}
theorem bt_size (h : BT tc0 N F ts tc c) (hj : j < 6) : fX4_size ts j = some (nI (N j)) := by
  have := tx_size h.1 (lt7 hj)
  rw [upd_n (by omega)] at this
  exact this
theorem rp_C (hr : r < 6) (hj : j < 6) (hN : N j ≤ 60) (hk : k * N j ≤ 60) (hfu : 1000 ≤ fu) (hF : F = fun i => tc0 j (i % N j)) (hk2 : k < 2 ^ 31) : ∀ (d c q : Nat) (ts : Nat → Int32) (tc : Nat → Nat → Int32), c + d = k → d < q → BT tc0 N F ts tc (c * N j) → ∃ ts' tc', fX5_repeat_66 fu r j (nI k) q (nI c) ts tc = some (.ok (nI (k * N j)), ts', tc') ∧ NC tc0 N r (k * N j) F ts' tc' := by
  intro d
  induction d with
  | zero =>
    intro c q ts tc hc hq h
    obtain ⟨q, rfl⟩ : ∃ k, q = k + 1 := ⟨q - 1, by omega⟩
    obtain rfl : c = k := by omega
    obtain ⟨ts1, tc1, e1, e2⟩ := bt_become (fu := fu) h hr hk hfu
    refine ⟨ts1, tc1, ?_, e2⟩
    rw [fX5_repeat_66]
    exact ps ((nI_leI hk2 hk2).mpr (Nat.le_refl _)) (bs e1 rfl)
  | succ d ih =>
    intro c q ts tc hc hq h
    obtain ⟨q, rfl⟩ : ∃ k, q = k + 1 := ⟨q - 1, by omega⟩
    have hm : (c + 1) * N j ≤ k * N j := Nat.mul_le_mul_right _ (by omega)
    rw [Nat.succ_mul] at hm
    obtain ⟨ts1, tc1, a1, a2⟩ := bt_all (fu := fu) h hj hN (by omega) (fun i hi => by
      rw [hF]
      show tc0 j i = tc0 j ((c * N j + i) % N j)
      rw [Nat.mul_comm, Nat.mul_add_mod, Nat.mod_eq_of_lt hi]) hfu
    rw [← Nat.succ_mul] at a2
    obtain ⟨ts2, tc2, b1, b2⟩ := ih (c + 1) q ts1 tc1 (by omega) (by omega) a2
    refine ⟨ts2, tc2, ?_, b2⟩
    rw [← nI_1] at b1
    rw [fX5_repeat_66]
    exact ns (fun z => by have := (nI_leI (by omega) (by omega)).mp z; omega) (bs a1 b1)
theorem rp_M (hs : s < 6) (ha : a < 6) (ht : t ≤ 60) (hn : 0 < t → 0 < N a) (hfu : 1000 ≤ fu) : ∀ (d c q : Nat) (ce : Nat → Int32), c + d = t → d < q → RM ce sz N T → (∀ i, i < c → ce (360 + i) = T a (i % N a)) → ∃ ce', fX6_repeat_71 fu (nI s) (nI a) (nI t) q (nI c) th ce sz = some (nI t, th, ce', updL sz s (nI t)) ∧ NR N T s t (fun i => T a (i % N a)) ce' (updL sz s (nI t)) := by
  intro d
  induction d with
  | zero =>
    intro c q ce hc hq h hk
    obtain ⟨q, rfl⟩ : ∃ k, q = k + 1 := ⟨q - 1, by omega⟩
    obtain rfl : c = t := by omega
    obtain ⟨cb, m4, m5⟩ := rm_becomeR (fu := fu) (r := 360) (f := fun i => T a (i % N a)) h hs ⟨by omega, hk⟩ ht (by omega) hfu
    refine ⟨cb, ?_, m5⟩
    rw [← i_360] at m4
    rw [fX6_repeat_71]
    exact ps ((nI_leI (by omega) (by omega)).mpr (Nat.le_refl _)) (bs m4 rfl)
  | succ d ih =>
    intro c q ce hc hq h hk
    obtain ⟨q, rfl⟩ : ∃ k, q = k + 1 := ⟨q - 1, by omega⟩
    have hN := (h a ha).2.1
    have hn1 := hn (by omega)
    have hlt : c % N a < N a := Nat.mod_lt _ hn1
    obtain ⟨ce', h1, h2⟩ := ih (c + 1) q (updL ce (360 + c) (T a (c % N a))) (by omega) (by omega) (h.keep (fun j hj => upd_n (by omega))) (fun k hk2 => by
      by_cases e : k = c
      · subst e; rw [upd_s]
      · rw [upd_n (by omega)]; exact hk k (by omega))
    refine ⟨ce', ?_, h2⟩
    have hld := (h.rw ha).ld hlt
    rw [← nI_add] at hld
    have hst : stA ce 900 (360 + nI c) (T a (c % N a)) = some (updL ce (360 + c) (T a (c % N a))) := by
      rw [i_360, nI_add]
      exact stA_nI (by omega) (by decide)
    rw [← nI_1] at h1
    rw [fX6_repeat_71]
    exact ns (fun z => by have := (nI_leI (by omega) (by omega)).mp z; omega) (bs rm_base (bs (h.len ha) (bs (rmI_nI (by omega) hn1 (by omega)) (bs hld (bs hst h1)))))
theorem nI_n1 (d : Nat) : nI d + (-1) = nI d - 1 := (Int32.sub_eq_add_neg _ _).symm
theorem nI_s1 (d : Nat) : nI (d + 1) - 1 = nI d := by
  rw [i_1, nI_sub (by omega)]
  rfl
theorem nI_z1 : nI 0 - 1 < 0 := by decide
theorem bk_C (hr : r < 6) (hj : j < 6) (hN : N j ≤ 60) (hF : F = backF (tc0 j) (N j)) (hfu : 1000 ≤ fu) : ∀ (d c q : Nat) (ts : Nat → Int32) (tc : Nat → Nat → Int32), c + d = N j → d < q → BT tc0 N F ts tc c → ∃ ts' tc', fX5_back_29 fu r j q (nI d - 1) ts tc = some (.ok (nI (N j)), ts', tc') ∧ NC tc0 N r (N j) F ts' tc' := by
  intro d
  induction d with
  | zero =>
    intro c q ts tc hc hq h
    obtain ⟨q, rfl⟩ : ∃ k, q = k + 1 := ⟨q - 1, by omega⟩
    rw [Nat.add_zero] at hc
    rw [hc] at h
    obtain ⟨ts1, tc1, e1, e2⟩ := bt_become (fu := fu) h hr hN hfu
    refine ⟨ts1, tc1, ?_, e2⟩
    rw [fX5_back_29]
    exact ps nI_z1 (bs e1 rfl)
  | succ d ih =>
    intro c q ts tc hc hq h
    obtain ⟨q, rfl⟩ : ∃ k, q = k + 1 := ⟨q - 1, by omega⟩
    obtain ⟨e1, e2⟩ := bt_src h hj (k := d) (by omega)
    obtain ⟨ts1, tc1, a1, a2⟩ := bt_add h (v := tc0 j d) (by omega) (by rw [hF]; show tc0 j d = tc0 j (N j - 1 - c); rw [show N j - 1 - c = d by omega]) e2
    obtain ⟨ts2, tc2, b1, b2⟩ := ih (c + 1) q ts1 tc1 (by omega) (by omega) a2
    refine ⟨ts2, tc2, ?_, b2⟩
    rw [← nI_n1] at b1
    rw [nI_s1, fX5_back_29]
    exact ns (nI_pos (by omega)) (bs e1 (bs a1 b1))
theorem pt31 {y1 y2 y3 y4 : Int32} : fX6_part_31 fu y1 y2 y3 y4 th ce sz = some (0, 1, ce, sz) := by
  unfold fX6_part_31
  exact bs (mo_thrown1 _ _) (ns i32_10 rfl)
end QB
theorem q_repeat {fu : Nat} {ts : Nat → Int32} {tc : Nat → Nat → Int32} {ol : Nat → Int64} {ce : Nat → Int32} {sz : Nat → Int32} {th : Int32} {N : Nat → Nat} (I : INV ts tc ce sz N) (hfu : 2000 ≤ fu) (x1 x2 x3 : Int32) : ∃ (k : Int32) (ts' : Nat → Int32) (tc' : Nat → Nat → Int32) (g : Nat → Int64) (b : Int32) (t : Int32) (ce' : Nat → Int32) (sz' : Nat → Int32), fL_repeat fu ts tc ol x1 x2 x3 = some (k, ts', tc', g) ∧ fX6_repeat fu th ce sz x1 x2 x3 = some (b, t, ce', sz') ∧ t = k ∧ (k = 0 → g 0 = b.toInt64) ∧ ∃ N', INV ts' tc' ce' sz' N' := by
  rcases slots x1 with ⟨j1, h1, rfl⟩ | ⟨b1, b2⟩
  · rcases slots x2 with ⟨j2, h2, rfl⟩ | ⟨b1, b2⟩
    · have hN2 := (I.1 j2 (by omega)).2.1
      by_cases hx : 0 ≤ x3
      · obtain ⟨k, hk, rfl⟩ := i32_nat hx
        have e64 : ((nI (N j2)).toInt64 * (nI k).toInt64).toInt = ((k * N j2 : Nat) : Int) := by rw [mul64 (by omega) hk, Nat.mul_comm]
        have e64' := mul64 hk (show N j2 < 2 ^ 31 by omega)
        by_cases hr : k * N j2 ≤ 60
        · obtain ⟨kk, hkk, hkm, hkb⟩ : ∃ kk, (∀ (A : Option (Except String Int32 × (Nat → Int32) × (Nat → Nat → Int32))), fX5_repeat_41 fu j1 j2 (nI kk) ts tc = A → fX5_repeat fu ts tc (nI j1) (nI j2) (nI k) = A) ∧ kk * N j2 = k * N j2 ∧ kk ≤ 60 := by
            by_cases e0 : N j2 = 0
            · refine ⟨0, fun A hA => bs (sl_ok h1) (es (bs (sl_ok h2) (es (ps hx (bs (show fX4_isEmpty ts j2 = some 1 from ps (by rw [(I.1 j2 (lt7 h2)).1, e0]; rfl) rfl) (ns i32_10 hA)))))), by rw [e0, Nat.mul_zero, Nat.mul_zero], by omega⟩
            · refine ⟨k, fun A hA => bs (sl_ok h1) (es (bs (sl_ok h2) (es (ps hx (bs (show fX4_isEmpty ts j2 = some 0 from ns (by rw [(I.1 j2 (lt7 h2)).1, nI_eq0 (by omega)]; exact e0) rfl) (ps rfl hA)))))), rfl, ?_⟩
              have := Nat.mul_le_mul_left k (show 1 ≤ N j2 by omega)
              omega
          have e64'' : ((nI (N j2)).toInt64 * (nI kk).toInt64).toInt = ((k * N j2 : Nat) : Int) := by rw [mul64 (by omega) (by omega), Nat.mul_comm, hkm]
          have hro := room_y (room64 _ _ e64'') hr
          obtain ⟨c1, c2⟩ := bt_clear (F := fun i => tc j2 (i % N j2)) I.1
          obtain ⟨t1, t2, a1, a2⟩ := rp_C (fu := fu) h1 h2 hN2 (by rw [hkm]; exact hr) (by omega) rfl (by omega) kk 0 fu _ _ (by omega) (by omega) (by rw [Nat.zero_mul]; exact c2)
          rw [hkm] at a1 a2
          obtain ⟨cb, m1, m2⟩ := rp_M (fu := fu) (sz := sz) (th := 0) h1 h2 hr (fun z => Nat.pos_of_ne_zero (fun q => by rw [q, Nat.mul_zero] at z; omega)) (by omega) (k * N j2) 0 fu ce (by omega) (by omega) I.2.1 (fun i hi => by omega)
          rw [← pk_mul, ← i_0] at m1
          refine ⟨0, t1, t2, updL ol 0 (nI (k * N j2)).toInt64, nI (k * N j2), 0, cb, updL sz j1 (nI (k * N j2)), wo_repeat (hkk _ (bs (tx_size I.1 (lt7 h2)) (bs (hro) (es (bs (c1) (a1)))))), by rw [← pk_mul]; exact bs (no2_ok h1 h2 _) (ps (rfl) (ps (hx) (bs (mo_thrown0 _ _) (ps (rfl) (bs (I.2.1.len h2) (ps ((lg60 e64').mpr hr) (bs (mo_thrown0 _ _) (ps (rfl) (bs (I.2.1.len h2) (m1)))))))))), rfl, fun _ => upd_s, inv_new I h1 a2 m2 (fun i hi => I.2.2 j2 h2 _ (Nat.mod_lt _ ?_))⟩
          rcases Nat.eq_zero_or_pos (N j2) with q | q
          · rw [q, Nat.mul_zero] at hi; omega
          · exact q
        · have hn0 : ¬ N j2 = 0 := fun q => hr (by rw [q, Nat.mul_zero]; omega)
          have hem : fX4_isEmpty ts j2 = some 0 := ns (by rw [(I.1 j2 (lt7 h2)).1, nI_eq0 (by omega)]; exact hn0) rfl
          exact ⟨3, ts, tc, ol, 0, 3, ce, sz, we_repeat_3 (bs (sl_ok h1) (es (bs (sl_ok h2) (es (ps (hx) (bs (hem) (ps (rfl) (bs (tx_size I.1 (lt7 h2)) (bs (room_n (room64 _ _ e64) hr) (er (rfl))))))))))), bs (no2_ok h1 h2 _) (ps (rfl) (ps (hx) (bs (mo_thrown0 _ _) (ps (rfl) (bs (I.2.1.len h2) (ns (fun z => hr ((lg60 e64').mp z)) (bs (mo_thrown1 _ _) (ns (i32_10) (rfl))))))))), rfl, fun h => absurd h (by decide), N, I⟩
      · exact ⟨2, ts, tc, ol, 0, 2, ce, sz, we_repeat_2 (bs (sl_ok h1) (es (bs (sl_ok h2) (es (ns (hx) (rfl)))))), bs (no2_ok h1 h2 _) (ps (rfl) (ns (hx) (bs (mo_thrown1 _ _) (ns (i32_10) (rfl))))), rfl, fun h => absurd h (by decide), N, I⟩
    · exact ⟨1, ts, tc, ol, 0, 1, ce, sz, we_repeat_1 (bs (sl_ok h1) (es (bs (b1) (er (rfl))))), by simp [fX6_repeat, fX6_isNoOf, fX6_isNoOfAll, fX6_isNoPlace, sl_no h1, b2], rfl, fun h => absurd h (by decide), N, I⟩
  · exact ⟨1, ts, tc, ol, 0, 1, ce, sz, we_repeat_1 (bs (b1) (er (rfl))), by simp [fX6_repeat, fX6_isNoOf, fX6_isNoOfAll, fX6_isNoPlace, b2], rfl, fun h => absurd h (by decide), N, I⟩
theorem q_part {fu : Nat} {ts : Nat → Int32} {tc : Nat → Nat → Int32} {ol : Nat → Int64} {ce : Nat → Int32} {sz : Nat → Int32} {th : Int32} {N : Nat → Nat} (I : INV ts tc ce sz N) (hfu : 2000 ≤ fu) (x1 x2 x3 x4 : Int32) : ∃ (k : Int32) (ts' : Nat → Int32) (tc' : Nat → Nat → Int32) (g : Nat → Int64) (b : Int32) (t : Int32) (ce' : Nat → Int32) (sz' : Nat → Int32), fL_part fu ts tc ol x1 x2 x3 x4 = some (k, ts', tc', g) ∧ fX6_part fu th ce sz x1 x2 x3 x4 = some (b, t, ce', sz') ∧ t = k ∧ (k = 0 → g 0 = b.toInt64) ∧ ∃ N', INV ts' tc' ce' sz' N' := by
  rcases slots x1 with ⟨j1, h1, rfl⟩ | ⟨b1, b2⟩
  · rcases slots x2 with ⟨j2, h2, rfl⟩ | ⟨b1, b2⟩
    · have hN2 := (I.1 j2 (by omega)).2.1
      by_cases hx : x3 < 0
      · exact ⟨1, ts, tc, ol, 0, 1, ce, sz, we_part_1 (bs (sl_ok h1) (es (bs (sl_ok h2) (es (ps (hx) (rfl)))))), bs (no2_ok h1 h2 _) (ps (rfl) (ps (hx) (pt31))), rfl, fun h => absurd h (by decide), N, I⟩
      · by_cases hy : x4 < x3
        · exact ⟨1, ts, tc, ol, 0, 1, ce, sz, we_part_1 (bs (sl_ok h1) (es (bs (sl_ok h2) (es (ns (hx) (ps (hy) (rfl))))))), bs (no2_ok h1 h2 _) (ps (rfl) (ns (hx) (ps (hy) (pt31)))), rfl, fun h => absurd h (by decide), N, I⟩
        · have hx' : 0 ≤ x3 := by rw [Int32.lt_iff_toInt_lt] at hx; rw [Int32.le_iff_toInt_le]; omega
          have hy' : 0 ≤ x4 := by rw [Int32.lt_iff_toInt_lt] at hy; rw [Int32.le_iff_toInt_le] at hx' ⊢; omega
          obtain ⟨a, ha, rfl⟩ := i32_nat hx'
          obtain ⟨b, hb, rfl⟩ := i32_nat hy'
          have hab : a ≤ b := Nat.le_of_not_lt (fun q => hy ((nI_ltI hb ha).mpr q))
          have hle := nI_leI hb (show N j2 < 2 ^ 31 by omega)
          by_cases hr : b ≤ N j2
          · obtain ⟨t1, t2, a1, a2⟩ := bp_part (fu := fu) (F := fun k => tc j2 (a + k)) I.1 h1 h2 hab hr (fun k hk => rfl) (by omega)
            obtain ⟨cb, m4, m5⟩ := rm_becomeR (fu := fu) I.2.1 h1 ((I.2.1.rw h2).sub (a := a) (b := b - a) (by omega)) (by omega) (by omega) (by omega)
            rw [← nI_add] at m4
            have m4' : fX6_become fu ce sz (nI j1) (nI (60 * j2) + nI a) (nI b - nI a) = some (nI (b - a), cb, updL sz j1 (nI (b - a))) := by rw [nI_sub hab]; exact m4
            exact ⟨0, t1, t2, updL ol 0 (nI (b - a)).toInt64, nI (b - a), 0, cb, updL sz j1 (nI (b - a)), wo_part (bs (sl_ok h1) (es (bs (sl_ok h2) (es (ns (hx) (ns (hy) (bs (tx_size I.1 (lt7 h2)) (ps (hle.mpr hr) (bs (a1) (rfl)))))))))), bs (no2_ok h1 h2 _) (ps (rfl) (ns (hx) (ns (hy) (bs (I.2.1.len h2) (ps (hle.mpr hr) (bs (mo_thrown0 _ _) (ps (rfl) (bs (rm_base) (bs (m4') (rfl)))))))))), rfl, fun _ => upd_s, inv_new I h1 a2 m5 (fun k hk => I.2.2 j2 h2 _ (by omega))⟩
          · exact ⟨1, ts, tc, ol, 0, 1, ce, sz, we_part_1 (bs (sl_ok h1) (es (bs (sl_ok h2) (es (ns (hx) (ns (hy) (bs (tx_size I.1 (lt7 h2)) (ns (fun z => hr (hle.mp z)) (rfl))))))))), bs (no2_ok h1 h2 _) (ps (rfl) (ns (hx) (ns (hy) (bs (I.2.1.len h2) (ns (fun z => hr (hle.mp z)) (pt31)))))), rfl, fun h => absurd h (by decide), N, I⟩
    · exact ⟨1, ts, tc, ol, 0, 1, ce, sz, we_part_1 (bs (sl_ok h1) (es (bs (b1) (er (rfl))))), by simp [fX6_part, fX6_isNoOf, fX6_isNoOfAll, fX6_isNoPlace, sl_no h1, b2], rfl, fun h => absurd h (by decide), N, I⟩
  · exact ⟨1, ts, tc, ol, 0, 1, ce, sz, we_part_1 (bs (b1) (er (rfl))), by simp [fX6_part, fX6_isNoOf, fX6_isNoOfAll, fX6_isNoPlace, b2], rfl, fun h => absurd h (by decide), N, I⟩
theorem q_turn {fu : Nat} {ts : Nat → Int32} {tc : Nat → Nat → Int32} {ol : Nat → Int64} {ce : Nat → Int32} {sz : Nat → Int32} {th : Int32} {N : Nat → Nat} (I : INV ts tc ce sz N) (hfu : 2000 ≤ fu) (x1 x2 x3 : Int32) : ∃ (k : Int32) (ts' : Nat → Int32) (tc' : Nat → Nat → Int32) (g : Nat → Int64) (b : Int32) (t : Int32) (ce' : Nat → Int32) (sz' : Nat → Int32), fL_turn fu ts tc ol x1 x2 x3 = some (k, ts', tc', g) ∧ fX6_turn fu th ce sz x1 x2 x3 = some (b, t, ce', sz') ∧ t = k ∧ (k = 0 → g 0 = b.toInt64) ∧ ∃ N', INV ts' tc' ce' sz' N' := by
  rcases slots x1 with ⟨j1, h1, rfl⟩ | ⟨b1, b2⟩
  · rcases slots x2 with ⟨j2, h2, rfl⟩ | ⟨b1, b2⟩
    · have hN2 := (I.1 j2 (by omega)).2.1
      have hin := mo_isInN x3 (show N j2 < 2 ^ 31 by omega)
      by_cases hx : x3 < 0
      · rw [decide_eq_false (fun z => by rw [Int32.lt_iff_toInt_lt, show (0 : Int32).toInt = 0 from rfl] at hx; omega)] at hin
        exact ⟨1, ts, tc, ol, 0, 1, ce, sz, we_turn_1 (bs (sl_ok h1) (es (bs (sl_ok h2) (es (ps (hx) (rfl)))))), bs (no2_ok h1 h2 _) (ps (rfl) (bs (I.2.1.len h2) (bs (hin) (ps (rfl) (bs (mo_thrown1 _ _) (ns (i32_10) (rfl))))))), rfl, fun h => absurd h (by decide), N, I⟩
      · have hx' : 0 ≤ x3 := by rw [Int32.lt_iff_toInt_lt] at hx; rw [Int32.le_iff_toInt_le]; omega
        obtain ⟨b, hb, rfl⟩ := i32_nat hx'
        have hle := nI_leI hb (show N j2 < 2 ^ 31 by omega)
        rw [nI_toInt hb] at hin
        by_cases hr : b ≤ N j2
        · rw [decide_eq_true (by omega)] at hin
          obtain ⟨c1, c2⟩ := bt_clear (F := turnF (tc j2) (N j2) b) I.1
          obtain ⟨t1, t2, a1, a2⟩ := bt_part (fu := fu) c2 h2 hr (Nat.le_refl _) hN2 (by omega) (fun k hk => by simp only [turnF]; rw [Nat.zero_add, if_pos hk]) (by omega)
          obtain ⟨t3, t4, d1, d2⟩ := bt_part (fu := fu) (a := 0) (b := b) a2 h2 (by omega) hr hN2 (by omega) (fun k hk => by simp only [turnF]; rw [if_neg (by omega), show 0 + (N j2 - b) + k - (N j2 - b) = 0 + k by omega]) (by omega)
          rw [← i_0] at d1
          rw [show 0 + (N j2 - b) + (b - 0) = N j2 by omega] at d2
          obtain ⟨t5, t6, e1, e2⟩ := bt_become (fu := fu) d2 h1 hN2 (by omega)
          obtain ⟨ca, m1, m2, m3⟩ := rm_turns (fu := fu) (o := 360) (b := b) I.2.1 h2 hr (Nat.le_refl 360) (Nat.le_of_ble_eq_true rfl) (by omega)
          obtain ⟨cb, m4, m5⟩ := rm_becomeR (fu := fu) (I.2.1.keep (fun j hj => m3 j (by omega))) h1 m2 hN2 (by omega) (by omega)
          rw [← i_360] at m1 m4
          refine ⟨0, t5, t6, updL ol 0 (nI (N j2)).toInt64, nI (N j2), 0, cb, updL sz j1 (nI (N j2)), wo_turn (bs (sl_ok h1) (es (bs (sl_ok h2) (es (ns (hx) (bs (tx_size I.1 (lt7 h2)) (ps (hle.mpr hr) (bs (c1) (bs (bt_size c2 h2) (bs (a1) (bs (d1) (bs (e1) (rfl))))))))))))), bs (no2_ok h1 h2 _) (ps (rfl) (bs (I.2.1.len h2) (bs (hin) (ns (i32_10) (bs (mo_thrown0 _ _) (ps (rfl) (bs (m1) (bs (I.2.1.len h2) (bs (m4) (rfl)))))))))), rfl, fun _ => upd_s, inv_new I h1 e2 m5 (fun k hk => ?_)⟩
          unfold turnF
          split
          · exact I.2.2 j2 h2 _ (by omega)
          · exact I.2.2 j2 h2 _ (by omega)
        · rw [decide_eq_false (by omega)] at hin
          exact ⟨1, ts, tc, ol, 0, 1, ce, sz, we_turn_1 (bs (sl_ok h1) (es (bs (sl_ok h2) (es (ns (hx) (bs (tx_size I.1 (lt7 h2)) (ns (fun z => hr (hle.mp z)) (rfl)))))))), bs (no2_ok h1 h2 _) (ps (rfl) (bs (I.2.1.len h2) (bs (hin) (ps (rfl) (bs (mo_thrown1 _ _) (ns (i32_10) (rfl))))))), rfl, fun h => absurd h (by decide), N, I⟩
    · exact ⟨1, ts, tc, ol, 0, 1, ce, sz, we_turn_1 (bs (sl_ok h1) (es (bs (b1) (er (rfl))))), by simp [fX6_turn, fX6_isNoOf, fX6_isNoOfAll, fX6_isNoPlace, sl_no h1, b2], rfl, fun h => absurd h (by decide), N, I⟩
  · exact ⟨1, ts, tc, ol, 0, 1, ce, sz, we_turn_1 (bs (b1) (er (rfl))), by simp [fX6_turn, fX6_isNoOf, fX6_isNoOfAll, fX6_isNoPlace, b2], rfl, fun h => absurd h (by decide), N, I⟩
theorem q_back {fu : Nat} {ts : Nat → Int32} {tc : Nat → Nat → Int32} {ol : Nat → Int64} {ce : Nat → Int32} {sz : Nat → Int32} {th : Int32} {N : Nat → Nat} (I : INV ts tc ce sz N) (hfu : 2000 ≤ fu) (x1 x2 : Int32) : ∃ (k : Int32) (ts' : Nat → Int32) (tc' : Nat → Nat → Int32) (g : Nat → Int64) (b : Int32) (t : Int32) (ce' : Nat → Int32) (sz' : Nat → Int32), fL_back fu ts tc ol x1 x2 = some (k, ts', tc', g) ∧ fX6_back fu th ce sz x1 x2 = some (b, t, ce', sz') ∧ t = k ∧ (k = 0 → g 0 = b.toInt64) ∧ ∃ N', INV ts' tc' ce' sz' N' := by
  rcases slots x1 with ⟨j1, h1, rfl⟩ | ⟨b1, b2⟩
  · rcases slots x2 with ⟨j2, h2, rfl⟩ | ⟨b1, b2⟩
    · have hN2 := (I.1 j2 (by omega)).2.1
      obtain ⟨c1, c2⟩ := bt_clear (F := backF (tc j2) (N j2)) I.1
      obtain ⟨t5, t6, e1, e2⟩ := bk_C (fu := fu) h1 h2 hN2 rfl (by omega) (N j2) 0 fu _ _ (by omega) (by omega) c2
      obtain ⟨ca, m1, m2, m3⟩ := rm_back (fu := fu) (o := 360) I.2.1 h2 (Nat.le_refl 360) (Nat.le_of_ble_eq_true rfl) (by omega)
      obtain ⟨cb, m4, m5⟩ := rm_becomeR (fu := fu) (I.2.1.keep (fun j hj => m3 j (by omega))) h1 m2 hN2 (by omega) (by omega)
      rw [← i_360] at m1 m4
      exact ⟨0, t5, t6, updL ol 0 (nI (N j2)).toInt64, nI (N j2), 0, cb, updL sz j1 (nI (N j2)), wo_back (bs (sl_ok h1) (es (bs (sl_ok h2) (es (bs (c1) (bs (bt_size c2 h2) (e1))))))), bs (no2_ok h1 h2 _) (ps (rfl) (bs (m1) (bs (I.2.1.len h2) (bs (m4) (rfl))))), rfl, fun _ => upd_s, inv_new I h1 e2 m5 (fun k hk => I.2.2 j2 h2 _ (by omega))⟩
    · exact ⟨1, ts, tc, ol, 0, 1, ce, sz, we_back_1 (bs (sl_ok h1) (es (bs (b1) (er (rfl))))), by simp [fX6_back, fX6_isNoOf, fX6_isNoOfAll, fX6_isNoPlace, sl_no h1, b2], rfl, fun h => absurd h (by decide), N, I⟩
  · exact ⟨1, ts, tc, ol, 0, 1, ce, sz, we_back_1 (bs (b1) (er (rfl))), by simp [fX6_back, fX6_isNoOf, fX6_isNoOfAll, fX6_isNoPlace, b2], rfl, fun h => absurd h (by decide), N, I⟩
