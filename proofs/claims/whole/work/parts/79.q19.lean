/-! isFree, the model's side: rounds until nothing more opens -/
section QS
variable {ts : Nat → Int32} {tc tc0 : Nat → Nat → Int32} {ce sz sl bg op : Nat → Int32} {kn : Nat → Int64} {rm : Int32} {N : Nat → Nat} {T : Nat → Nat → Int32} {i j s fu r : Nat} {th x : Int32}
theorem nb1 : vp_nar .boolean (1 : Int32) = 1 := by decide
theorem nb0 : vp_nar .boolean (0 : Int32) = 0 := by decide
/-- what is open is reachable -/
def GS (x : Int32) (N : Nat → Nat) (T : Nat → Nat → Int32) (op : Nat → Int32) : Prop := ∀ y, y < 360 → ¬ op y = 0 → Rch x N T (y / 60) (y % 60)
def mono (op op' : Nat → Int32) : Prop := ∀ y, ¬ op y = 0 → ¬ op' y = 0
theorem mono.refl : mono op op := fun _ h => h
theorem mono.trans {a b c : Nat → Int32} (h1 : mono a b) (h2 : mono b c) : mono a c := fun y h => h2 y (h1 y h)
def DM (x : Int32) (N : Nat → Nat) (T : Nat → Nat → Int32) (op : Nat → Int32) (a b c : Nat) : Prop := ¬ hit x N T a b c ∧ ∀ a' b', nx x N T a b c a' b' → ¬ op (60 * a' + b') = 0
theorem DM.mono {a b c : Nat} {op op' : Nat → Int32} (h : DM x N T op a b c) (hm : mono op op') : DM x N T op' a b c := ⟨h.1, fun a' b' hn => hm _ (h.2 a' b' hn)⟩
theorem DM.none {a b c : Nat} (h : ¬ usd x N c = true) : DM x N T op a b c := ⟨fun z => h z.1, fun _ _ z => absurd z.1 h⟩
theorem op_set {a b : Nat} (hg : GS x N T op) (ha : a < 6) (hb : b < 60) (hr : Rch x N T a b) : GS x N T (updL op (60 * a + b) 1) ∧ mono op (updL op (60 * a + b) 1) ∧ ¬ updL op (60 * a + b) 1 (60 * a + b) = 0 := by
  refine ⟨fun y hy h => ?_, fun y h => ?_, by rw [upd_s]; exact i32_10⟩
  · by_cases e : y = 60 * a + b
    · rw [e, show (60 * a + b) / 60 = a by omega, show (60 * a + b) % 60 = b by omega]; exact hr
    · rw [upd_n e] at h; exact hg y hy h
  · by_cases e : y = 60 * a + b
    · rw [e, upd_s]; exact i32_10
    · rw [upd_n e]; exact h
theorem me_M (h : RM ce sz N T) {a b c : Nat} (hg : GS x N T op) (ha : a < 6) (hb : b < N a) (hc : c < 6) (u : usd x N c = true) (hP : ∀ a' b', nx x N T a b c a' b' → Rch x N T a' b') (hfu : 1000 ≤ fu) : ∃ r op', fX6_meets fu ce sz op (nI a) (nI b) (nI c) = some (r, op') ∧ ((r = 1 ∧ hit x N T a b c) ∨ (r = 0 ∧ DM x N T op' a b c ∧ GS x N T op' ∧ mono op op')) := by
  have hNa := (h a ha).2.1
  have hNc := (h c hc).2.1
  have up := usd_pos u
  have hR := (h.rw ha).sub (a := b) (b := N a - b) (by omega)
  have hC := h.rw hc
  have sm := rm_same (fu := fu) hR hC hfu
  have s1 := rm_stands (fu := fu) (p := 0) hC hR (by omega) hfu
  have s2 := rm_stands (fu := fu) (p := 0) hR hC (by omega) hfu
  rw [← nI_add, ← nI_sub (by omega)] at sm s1 s2
  rw [← i_0] at s1 s2
  have pre : ∀ r, (fX6_areSame fu ce (nI (60 * a) + nI b) (nI (N a) - nI b) (nI (60 * c)) (nI (N c))).bind (fun v5 => if v5 = 0 then (fX6_baseOf (nI c)).bind fun v6 => (ldA sz 6 (nI c)).bind fun v7 => (fX6_standsAt fu ce v6 v7 (nI (60 * a) + nI b) (nI (N a) - nI b) (0 : Int32)).bind fun v8 => if v8 = 0 then (fX6_baseOf (nI c)).bind fun v9 => (ldA sz 6 (nI c)).bind fun v10 => (fX6_standsAt fu ce (nI (60 * a) + nI b) (nI (N a) - nI b) v9 v10 (0 : Int32)).bind fun v11 => if v11 = 0 then some ((0 : Int32), op) else (ldA sz 6 (nI c)).bind fun v12 => (stA op 360 ((nI (60 * a) + nI b) + v12) (vp_nar .boolean (1 : Int32))).bind fun g13 => some ((0 : Int32), g13) else (fX6_baseOf (nI c)).bind fun v14 => (stA op 360 (v14 + (nI (N a) - nI b)) (vp_nar .boolean (1 : Int32))).bind fun g15 => some ((0 : Int32), g15) else some ((1 : Int32), op)) = r → fX6_meets fu ce sz op (nI a) (nI b) (nI c) = r := fun r hr => bs rm_base (bs (h.len ha) (bs rm_base (bs (h.len hc) hr)))
  by_cases c1 : (decide (N a - b = N c) && alk (fun k => T a (b + k)) 0 (T c) 0 (N c)) = true
  · rw [c1] at sm
    rw [Bool.and_eq_true, decide_eq_true_iff, alk_iff] at c1
    exact ⟨1, op, pre _ (bs sm (ns i32_10 rfl)), Or.inl ⟨rfl, u, c1.1, fun k hk => by have := c1.2 k hk; rw [Nat.zero_add] at this; exact this⟩⟩
  · rw [Bool.eq_false_iff.mpr c1] at sm
    have nh : ¬ hit x N T a b c := fun z => c1 (by
      rw [Bool.and_eq_true, decide_eq_true_iff, alk_iff]
      exact ⟨z.2.1, fun k hk => by rw [Nat.zero_add]; exact z.2.2 k hk⟩)
    by_cases c2 : stands (T c) (N c) (fun k => T a (b + k)) (N a - b) 0 = true
    · rw [c2] at s1
      obtain ⟨d1, d2⟩ := stands_iff.mp c2
      have d2' : ∀ k, k < N a - b → T a (b + k) = T c k := fun k hk => by have := d2 k hk; rw [Nat.zero_add] at this; exact this.symm
      have d3 : N a - b < N c := by
        by_cases z : N a - b = N c
        · exact absurd ⟨u, z, fun k hk => d2' k (by omega)⟩ nh
        · omega
      have hn : nx x N T a b c c (N a - b) := ⟨u, Or.inr ⟨d3, d2', rfl, rfl⟩⟩
      obtain ⟨g1, g2, g3⟩ := op_set hg hc (show N a - b < 60 by omega) (hP _ _ hn)
      have st : stA op 360 (nI (60 * c) + (nI (N a) - nI b)) (vp_nar .boolean (1 : Int32)) = some (updL op (60 * c + (N a - b)) 1) := by
        rw [nI_sub (by omega), nI_add, nb1]
        exact stA_nI (by omega) (by decide)
      refine ⟨0, _, pre _ (bs sm (ps rfl (bs rm_base (bs (h.len hc) (bs s1 (ns i32_10 (bs rm_base (bs st rfl)))))))), Or.inr ⟨rfl, ⟨nh, fun a' b' z => ?_⟩, g1, g2⟩⟩
      rcases z.2 with ⟨z1, _⟩ | ⟨_, _, z3, z4⟩
      · omega
      · rw [z3, z4]; exact g3
    · rw [Bool.eq_false_iff.mpr c2] at s1
      by_cases c3 : stands (fun k => T a (b + k)) (N a - b) (T c) (N c) 0 = true
      · rw [c3] at s2
        obtain ⟨d1, d2⟩ := stands_iff.mp c3
        have d2' : ∀ k, k < N c → T a (b + k) = T c k := fun k hk => by have := d2 k hk; rw [Nat.zero_add] at this; exact this
        have d3 : N c < N a - b := by
          by_cases z : N a - b = N c
          · exact absurd ⟨u, z, d2'⟩ nh
          · omega
        have hn : nx x N T a b c a (b + N c) := ⟨u, Or.inl ⟨d3, d2', rfl, rfl⟩⟩
        obtain ⟨g1, g2, g3⟩ := op_set hg ha (show b + N c < 60 by omega) (hP _ _ hn)
        have st : stA op 360 (nI (60 * a) + nI b + nI (N c)) (vp_nar .boolean (1 : Int32)) = some (updL op (60 * a + (b + N c)) 1) := by
          rw [nI_add, nI_add, nb1, Nat.add_assoc]
          exact stA_nI (by omega) (by decide)
        refine ⟨0, _, pre _ (bs sm (ps rfl (bs rm_base (bs (h.len hc) (bs s1 (ps rfl (bs rm_base (bs (h.len hc) (bs s2 (ns i32_10 (bs (h.len hc) (bs st rfl)))))))))))), Or.inr ⟨rfl, ⟨nh, fun a' b' z => ?_⟩, g1, g2⟩⟩
        rcases z.2 with ⟨_, _, z3, z4⟩ | ⟨z1, _⟩
        · rw [z3, z4]; exact g3
        · omega
      · rw [Bool.eq_false_iff.mpr c3] at s2
        refine ⟨0, op, pre _ (bs sm (ps rfl (bs rm_base (bs (h.len hc) (bs s1 (ps rfl (bs rm_base (bs (h.len hc) (bs s2 (ps rfl rfl)))))))))), Or.inr ⟨rfl, ⟨nh, fun a' b' z => ?_⟩, hg, mono.refl⟩⟩
        rcases z.2 with ⟨z1, z2, _⟩ | ⟨z1, z2, _⟩
        · exact absurd (stands_iff.mpr ⟨by omega, fun k hk => by rw [Nat.zero_add]; exact z2 k hk⟩) c3
        · exact absurd (stands_iff.mpr ⟨by omega, fun k hk => by rw [Nat.zero_add]; exact (z2 k hk).symm⟩) c2
theorem ma_1 {a b : Nat} {op : Nat → Int32} : ∀ (d c q : Nat), c + d = 6 → d < q → fX6_meetsAny_6 fu ce sz x (nI a) (nI b) q 1 (nI c) op = some (1, op) := by
  intro d
  induction d with
  | zero =>
    intro c q hc hq
    obtain ⟨q, rfl⟩ : ∃ k, q = k + 1 := ⟨q - 1, by omega⟩
    rw [fX6_meetsAny_6]
    exact ps (by rw [i_6]; exact (nI_leI (by omega) (by omega)).mpr (by omega)) (bs ckZ_1 rfl)
  | succ d ih =>
    intro c q hc hq
    obtain ⟨q, rfl⟩ : ∃ k, q = k + 1 := ⟨q - 1, by omega⟩
    have h2 := ih (c + 1) q (by omega) (by omega)
    rw [← nI_1] at h2
    have e28 : ∀ s0, fX6_meetsAny_28 fu ce sz x (nI a) (nI b) 1 (nI c) (fX6_meetsAny_6 fu ce sz x (nI a) (nI b) q) s0 op = some (1, op) := fun s0 => ns i32_10 h2
    rw [fX6_meetsAny_6]
    refine ns (fun z => by rw [i_6] at z; have := (nI_leI (by omega) (by omega)).mp z; omega) ?_
    by_cases z : nI b = 0
    · by_cases y : nI c = nI a
      · exact ps z (ps y (e28 _))
      · exact ps z (ns y (e28 _))
    · exact ns z (e28 _)
theorem ma_0 (h : RM ce sz N T) (hfu : 1000 ≤ fu) {a b : Nat} (ha : a < 6) (hb : b < N a) (hP : ∀ c a' b', c < 6 → ¬ (b = 0 ∧ c = a) → nx x N T a b c a' b' → Rch x N T a' b') : ∀ (d c q : Nat) (op : Nat → Int32), c + d = 6 → d < q → GS x N T op → (∀ c', c' < c → ¬ (b = 0 ∧ c' = a) → DM x N T op a b c') → ∃ r op', fX6_meetsAny_6 fu ce sz x (nI a) (nI b) q 0 (nI c) op = some (r, op') ∧ ((r = 1 ∧ ∃ c', c' < 6 ∧ ¬ (b = 0 ∧ c' = a) ∧ hit x N T a b c') ∨ (r = 0 ∧ GS x N T op' ∧ mono op op' ∧ ∀ c', c' < 6 → ¬ (b = 0 ∧ c' = a) → DM x N T op' a b c')) := by
  intro d
  induction d with
  | zero =>
    intro c q op hc hq hg hd
    obtain ⟨q, rfl⟩ : ∃ k, q = k + 1 := ⟨q - 1, by omega⟩
    refine ⟨0, op, ?_, Or.inr ⟨rfl, hg, mono.refl, fun c' hc' => hd c' (by omega)⟩⟩
    rw [fX6_meetsAny_6]
    exact ps (by rw [i_6]; exact (nI_leI (by omega) (by omega)).mpr (by omega)) (bs ckZ_0 rfl)
  | succ d ih =>
    intro c q op hc hq hg hd
    obtain ⟨q, rfl⟩ : ∃ k, q = k + 1 := ⟨q - 1, by omega⟩
    have hNa := (h a ha).2.1
    have hc6 : c < 6 := by omega
    have hle : ¬ 6 ≤ nI c := fun z => by rw [i_6] at z; have := (nI_leI (by omega) (by omega)).mp z; omega
    have us := us_M h hc6 x
    have z0 := nI_eq0 (show b < 2 ^ 31 by omega)
    have zc : nI c = nI a ↔ c = a := nI_eq (by omega) (by omega)
    have pre : ∀ r, (∀ s0, (s0 = 1 ∧ b = 0 ∧ c = a) ∨ (s0 = 0 ∧ ¬ (b = 0 ∧ c = a)) → fX6_meetsAny_28 fu ce sz x (nI a) (nI b) 0 (nI c) (fX6_meetsAny_6 fu ce sz x (nI a) (nI b) q) s0 op = r) → fX6_meetsAny_6 fu ce sz x (nI a) (nI b) (q + 1) 0 (nI c) op = r := fun r hr => by
      rw [fX6_meetsAny_6]
      by_cases y : b = 0
      · by_cases w : c = a
        · exact ns hle (ps (z0.mpr y) (ps (zc.mpr w) (hr 1 (Or.inl ⟨rfl, y, w⟩))))
        · exact ns hle (ps (z0.mpr y) (ns (fun v => w (zc.mp v)) (hr 0 (Or.inr ⟨rfl, fun v => w v.2⟩))))
      · exact ns hle (ns (fun v => y (z0.mp v)) (hr 0 (Or.inr ⟨rfl, fun v => y v.1⟩)))
    have keep : (¬ (b = 0 ∧ c = a) → DM x N T op a b c) → (∀ s0, (s0 = 1 ∧ b = 0 ∧ c = a) ∨ (s0 = 0 ∧ ¬ (b = 0 ∧ c = a)) → fX6_meetsAny_28 fu ce sz x (nI a) (nI b) 0 (nI c) (fX6_meetsAny_6 fu ce sz x (nI a) (nI b) q) s0 op = fX6_meetsAny_6 fu ce sz x (nI a) (nI b) q 0 (nI c + 1) op) → ∃ r op', fX6_meetsAny_6 fu ce sz x (nI a) (nI b) (q + 1) 0 (nI c) op = some (r, op') ∧ ((r = 1 ∧ ∃ c', c' < 6 ∧ ¬ (b = 0 ∧ c' = a) ∧ hit x N T a b c') ∨ (r = 0 ∧ GS x N T op' ∧ mono op op' ∧ ∀ c', c' < 6 → ¬ (b = 0 ∧ c' = a) → DM x N T op' a b c')) := fun hdm he => by
      obtain ⟨r, op', e1, e2⟩ := ih (c + 1) q op (by omega) (by omega) hg (fun c' hc' hne => by
        by_cases y : c' = c
        · rw [y] at hne ⊢; exact hdm hne
        · exact hd c' (by omega) hne)
      rw [← nI_1] at e1
      exact ⟨r, op', pre _ (fun s0 hs => (he s0 hs).trans e1), e2⟩
    by_cases u : usd x N c = true
    · rw [u] at us
      by_cases sk : b = 0 ∧ c = a
      · refine keep (fun z => absurd sk z) (fun s0 hs => ?_)
        rcases hs with ⟨rfl, _⟩ | ⟨_, v⟩
        · exact ps rfl (bs us (ns i32_10 (ns i32_10 rfl)))
        · exact absurd sk v
      · obtain ⟨r, op1, m1, m2⟩ := me_M (fu := fu) h hg ha hb hc6 u (fun a' b' hn => hP c a' b' hc6 sk hn) hfu
        rcases m2 with ⟨m3, m4⟩ | ⟨m3, m4, m5, m6⟩
        · subst m3
          have h2 := ma_1 (fu := fu) (ce := ce) (sz := sz) (x := x) (a := a) (b := b) (op := op1) d (c + 1) q (by omega) (by omega)
          rw [← nI_1] at h2
          refine ⟨1, op1, pre _ (fun s0 hs => ?_), Or.inl ⟨rfl, c, hc6, sk, m4⟩⟩
          rcases hs with ⟨_, v⟩ | ⟨rfl, _⟩
          · exact absurd v sk
          · exact ps rfl (bs us (ns i32_10 (ps rfl (bs m1 (ns i32_10 h2)))))
        · subst m3
          obtain ⟨r, op', e1, e2⟩ := ih (c + 1) q op1 (by omega) (by omega) m5 (fun c' hc' hne => by
            by_cases y : c' = c
            · rw [y]; exact m4
            · exact (hd c' (by omega) hne).mono m6)
          rw [← nI_1] at e1
          refine ⟨r, op', pre _ (fun s0 hs => ?_), ?_⟩
          · rcases hs with ⟨_, v⟩ | ⟨rfl, _⟩
            · exact absurd v sk
            · exact ps rfl (bs us (ns i32_10 (ps rfl (bs m1 (ps rfl e1)))))
          · rcases e2 with e2 | ⟨e3, e4, e5, e6⟩
            · exact Or.inl e2
            · exact Or.inr ⟨e3, e4, m6.trans e5, e6⟩
    · rw [Bool.eq_false_iff.mpr u] at us
      exact keep (fun _ => DM.none u) (fun s0 hs => ps rfl (bs us (ps rfl rfl)))
end QS
