/-! THE COMPARISON isFree, first half: remainders, and the class's work list -/
section QQ
variable {ts : Nat → Int32} {tc tc0 : Nat → Nat → Int32} {ce sz sl bg : Nat → Int32} {kn : Nat → Int64} {rm : Int32} {N : Nat → Nat} {T : Nat → Nat → Int32} {i j s fu r : Nat} {th : Int32}
/-- the bit of the begin b -/
def mk1 (b : Nat) : Int64 := (1 : Int64) <<< ((nI b).toInt64 &&& 63)
def bt (v : Int64) (b : Nat) : Bool := decide (¬ (v &&& mk1 b) = 0)
theorem mk1_ne : ∀ b : Fin 60, ∀ c : Fin 60, (mk1 b.1 &&& mk1 c.1 = 0) ↔ b ≠ c := by decide +kernel
theorem or_and64 (v m k : Int64) : (v ||| m) &&& k = (v &&& k) ||| (m &&& k) := by
  apply Int64.toBitVec_inj.mp
  simp only [Int64.toBitVec_and, Int64.toBitVec_or]
  ext q hq
  simp only [BitVec.getElem_and, BitVec.getElem_or]
  cases v.toBitVec[q] <;> cases m.toBitVec[q] <;> cases k.toBitVec[q] <;> rfl
theorem or_0 {x y : Int64} (h : x ||| y = 0) : y = 0 := by
  have h2 : (x ||| y) &&& y = y := by
    apply Int64.toBitVec_inj.mp
    simp only [Int64.toBitVec_and, Int64.toBitVec_or]
    ext q hq
    simp only [BitVec.getElem_and, BitVec.getElem_or]
    cases x.toBitVec[q] <;> cases y.toBitVec[q] <;> rfl
  rw [h] at h2
  rw [← h2]
  apply Int64.toBitVec_inj.mp
  simp only [Int64.toBitVec_and]
  ext q hq
  simp only [BitVec.getElem_and]
  rw [show (0 : Int64).toBitVec = 0#64 from rfl]
  simp
theorem or_z (x : Int64) : x ||| 0 = x := by
  apply Int64.toBitVec_inj.mp
  simp only [Int64.toBitVec_or]
  rw [show (0 : Int64).toBitVec = 0#64 from rfl]
  simp
theorem bt_or {v : Int64} {b c : Nat} (hb : b < 60) (hc : c < 60) : bt (v ||| mk1 b) c = (bt v c || decide (c = b)) := by
  have h := mk1_ne ⟨b, hb⟩ ⟨c, hc⟩
  unfold bt
  rw [or_and64]
  by_cases e : c = b
  · subst e
    rw [decide_eq_true (show c = c from rfl), Bool.or_true, decide_eq_true]
    intro z
    exact h.mp (or_0 z) rfl
  · rw [h.mpr (fun z => e (Fin.mk.inj_iff.mp z).symm), or_z, decide_eq_false e, Bool.or_false]
theorem bt_0 {c : Nat} : bt 0 c = false := by
  unfold bt
  apply decide_eq_false
  intro z
  apply z
  apply Int64.toBitVec_inj.mp
  simp only [Int64.toBitVec_and]
  rw [show (0 : Int64).toBitVec = 0#64 from rfl]
  simp
theorem lgc0 {a : Int64} : lg_cmp a 0 = 0 ↔ a = 0 := by
  unfold lg_cmp
  by_cases h : a > 0
  · rw [if_pos h]
    exact ⟨fun z => absurd z (by decide), fun z => by rw [z] at h; exact absurd h (by decide)⟩
  · rw [if_neg h]
    by_cases h2 : a = 0
    · rw [if_pos h2]; exact ⟨fun _ => h2, fun _ => rfl⟩
    · rw [if_neg h2]; exact ⟨fun z => absurd z (by decide), fun z => absurd z h2⟩
/-- the word c is what is left of a from b on -/
def hit (m : Int32) (N : Nat → Nat) (T : Nat → Nat → Int32) (a b c : Nat) : Prop := usd m N c = true ∧ N a - b = N c ∧ ∀ k, k < N c → T a (b + k) = T c k
/-- what is left, when the word c is laid against what is left of a from b on -/
def nx (m : Int32) (N : Nat → Nat) (T : Nat → Nat → Int32) (a b c a' b' : Nat) : Prop := usd m N c = true ∧ ((N c < N a - b ∧ (∀ k, k < N c → T a (b + k) = T c k) ∧ a' = a ∧ b' = b + N c) ∨ (N a - b < N c ∧ (∀ k, k < N a - b → T a (b + k) = T c k) ∧ a' = c ∧ b' = N a - b))
/-- a state of the class's work list: m entries A B, all of P -/
def WL (P : Nat → Nat → Prop) (sl bg : Nat → Int32) (kn : Nat → Int64) (rm : Int32) (A B : Nat → Nat) (m : Nat) : Prop := rm = nI m ∧ m < 360 ∧ (∀ k, k < m → sl k = nI (A k) ∧ bg k = nI (B k) ∧ A k < 6 ∧ 1 ≤ B k ∧ B k < 60 ∧ P (A k) (B k)) ∧ (∀ k l, k < m → l < m → A k = A l → B k = B l → k = l) ∧ ∀ a b, a < 6 → b < 60 → (bt (kn a) b = true ↔ ∃ k, k < m ∧ A k = a ∧ B k = b)
theorem wl_room {P : Nat → Nat → Prop} {A B : Nat → Nat} (h1 : ∀ k, k < 360 → A k < 6 ∧ 1 ≤ B k ∧ B k < 60) (h2 : ∀ k l, k < 360 → l < 360 → A k = A l → B k = B l → k = l) : False := by
  obtain ⟨k, k1, k2⟩ := pigeon 360 (fun k => 60 * A k + B k) (fun k hk => by have := h1 k hk; show 60 * A k + B k < 360; omega) (fun a b ha hb hab => by
    have hab' : 60 * A a + B a = 60 * A b + B b := hab
    have := h1 a ha
    have := h1 b hb
    exact h2 a b ha hb (by omega) (by omega)) 0 (by omega)
  have k2' : 60 * A k + B k = 0 := k2
  have := h1 k k1
  omega
theorem kr_C {P : Nat → Nat → Prop} {A B : Nat → Nat} {m a b : Nat} (h : WL P sl bg kn rm A B m) (ha : a < 6) (hb1 : 1 ≤ b) (hb : b < 60) (hP : P a b) : ∃ sl' bg' kn' rm' A' B' m', fX2_keepRemainder sl bg kn rm (nI a) (nI b) = some (sl', bg', kn', rm') ∧ WL P sl' bg' kn' rm' A' B' m' ∧ m ≤ m' ∧ (∀ k, k < m → A' k = A k ∧ B' k = B k) ∧ ∃ k, k < m' ∧ A' k = a ∧ B' k = b := by
  obtain ⟨h1, h2, h3, h4, h5⟩ := h
  have ne1 : ¬ nI a < 0 := nI_pos (by omega)
  have ne2 : ¬ 6 ≤ nI a := fun z => by rw [i_6] at z; have := (nI_leI (by omega) (by omega)).mp z; omega
  have l1 : ldA kn 6 (nI a) = some (kn a) := ldA_nI ha (by decide)
  have hm : mk1 b = (1 : Int64) <<< ((nI b).toInt64 &&& 63) := rfl
  by_cases e : bt (kn a) b = true
  · have e2 := (h5 a b ha hb).mp e
    refine ⟨sl, bg, kn, rm, A, B, m, ?_, ⟨h1, h2, h3, h4, h5⟩, Nat.le_refl _, fun k hk => ⟨rfl, rfl⟩, e2⟩
    unfold fX2_keepRemainder
    rw [← hm]
    unfold bt at e
    exact ns ne1 (ns ne2 (bs l1 (ns (fun z => of_decide_eq_true e (lgc0.mp z)) (show fX2_keepRemainder_31 (nI a) (nI b) (mk1 b) sl bg kn rm = _ from show fX2_keepRemainder_32 (nI a) (nI b) (mk1 b) 0 sl bg kn rm = _ from ps rfl rfl))))
  · have e' := Bool.eq_false_iff.mpr e
    have nok : ¬ ∃ k, k < m ∧ A k = a ∧ B k = b := fun z => e ((h5 a b ha hb).mpr z)
    have a1 : ∀ k, k < m + 1 → (updL sl m (nI a)) k = nI (updL A m a k) ∧ (updL bg m (nI b)) k = nI (updL B m b k) ∧ updL A m a k < 6 ∧ 1 ≤ updL B m b k ∧ updL B m b k < 60 ∧ P (updL A m a k) (updL B m b k) := fun k hk => by
      by_cases z : k = m
      · subst z
        rw [upd_s, upd_s, upd_s, upd_s]
        exact ⟨rfl, rfl, ha, hb1, hb, hP⟩
      · rw [upd_n z, upd_n z, upd_n z, upd_n z]
        exact h3 k (by omega)
    have a2 : ∀ k l, k < m + 1 → l < m + 1 → updL A m a k = updL A m a l → updL B m b k = updL B m b l → k = l := fun k l hk hl e1 e2 => by
      by_cases z : k = m
      · by_cases y : l = m
        · omega
        · subst z
          rw [upd_s, upd_n y] at e1 e2
          exact absurd ⟨l, by omega, e1.symm, e2.symm⟩ nok
      · by_cases y : l = m
        · subst y
          rw [upd_s, upd_n z] at e1 e2
          exact absurd ⟨k, by omega, e1, e2⟩ nok
        · rw [upd_n z, upd_n y] at e1 e2
          exact h4 k l (by omega) (by omega) e1 e2
    have room : m + 1 < 360 := by
      by_cases z : m + 1 < 360
      · exact z
      · exact (wl_room (P := P) (A := updL A m a) (B := updL B m b) (fun k hk => by have := a1 k (by omega); exact ⟨this.2.2.1, this.2.2.2.1, this.2.2.2.2.1⟩) (fun k l hk hl => a2 k l (by omega) (by omega))).elim
    refine ⟨updL sl m (nI a), updL bg m (nI b), updL kn a (kn a ||| mk1 b), nI (m + 1), updL A m a, updL B m b, m + 1, ?_, ⟨rfl, room, a1, a2, fun a' b' ha' hb' => ?_⟩, by omega, fun k hk => ⟨upd_n (by omega), upd_n (by omega)⟩, ⟨m, by omega, upd_s, upd_s⟩⟩
    · have le : ¬ 360 ≤ nI m := fun z => by rw [i_360] at z; have := (nI_leI (by omega) (by omega)).mp z; omega
      have z0 : lg_cmp (kn a &&& mk1 b) 0 = 0 := by
        rw [lgc0]
        unfold bt at e'
        have := of_decide_eq_false e'
        by_cases y : kn a &&& mk1 b = 0
        · exact y
        · exact absurd y this
      unfold fX2_keepRemainder
      rw [← hm, h1, ← nI_1]
      exact ns ne1 (ns ne2 (bs l1 (ps z0 (show fX2_keepRemainder_32 (nI a) (nI b) (mk1 b) 1 sl bg kn (nI m) = _ from ns i32_10 (ns le (bs l1 (bs (stA_nI ha (by decide)) (bs (stA_nI (by omega) (by decide)) (bs (stA_nI (by omega) (by decide)) rfl)))))))))
    · by_cases z : a' = a
      · subst z
        rw [upd_s, bt_or hb hb', Bool.or_eq_true, h5 a' b' ha' hb', decide_eq_true_iff]
        constructor
        · rintro (⟨k, k1, k2, k3⟩ | y)
          · exact ⟨k, by omega, by rw [upd_n (by omega)]; exact k2, by rw [upd_n (by omega)]; exact k3⟩
          · exact ⟨m, by omega, upd_s, by rw [upd_s]; exact y.symm⟩
        · rintro ⟨k, k1, k2, k3⟩
          by_cases y : k = m
          · subst y; rw [upd_s] at k3; exact Or.inr k3.symm
          · rw [upd_n y] at k2 k3; exact Or.inl ⟨k, by omega, k2, k3⟩
      · rw [upd_n z, h5 a' b' ha' hb']
        constructor
        · rintro ⟨k, k1, k2, k3⟩
          exact ⟨k, by omega, by rw [upd_n (by omega)]; exact k2, by rw [upd_n (by omega)]; exact k3⟩
        · rintro ⟨k, k1, k2, k3⟩
          by_cases y : k = m
          · subst y; rw [upd_s] at k2; exact absurd k2.symm z
          · rw [upd_n y] at k2 k3; exact ⟨k, by omega, k2, k3⟩
end QQ
