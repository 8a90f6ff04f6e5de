/-! CALLS OUT OF THE LAW: the world has two sides, the class's and the model's; a call changes its own side alone. And the law's own short stretches, as rows. -/
section XF0
variable {α : Type} {w1 w2 : List α} {k : Nat} {q : α}
theorem ap_l (h : w1[k]? = some q) : (w1 ++ w2)[k]? = some q := by
  rw [List.getElem?_append_left (List.getElem?_eq_some_iff.mp h).1]; exact h
theorem ap_r (h : w2[k]? = some q) : (w1 ++ w2)[w1.length + k]? = some q := by
  rw [List.getElem?_append_right (Nat.le_add_right _ _), Nat.add_sub_cancel_left]; exact h
theorem ap_or (h : (w1 ++ w2)[k]? = some q) : (k < w1.length ∧ w1[k]? = some q) ∨ (w1.length ≤ k ∧ w2[k - w1.length]? = some q) := by
  by_cases hl : k < w1.length
  · rw [List.getElem?_append_left hl] at h; exact Or.inl ⟨hl, h⟩
  · rw [List.getElem?_append_right (by omega)] at h; exact Or.inr ⟨by omega, h⟩
end XF0
theorem vd_swap {A : Nat → Prop} {w1 w2 : va_W} (h : va_D A (w1 ++ w2)) : va_D A (w2 ++ w1) := by
  refine ⟨fun i j x y hi hj hxy => ?_, fun k q hk => ?_⟩
  · rcases ap_or hi with ⟨a1, b1⟩ | ⟨a1, b1⟩ <;> rcases ap_or hj with ⟨a2, b2⟩ | ⟨a2, b2⟩
    · have := h.1 _ _ x y (ap_r b1) (ap_r b2) hxy
      omega
    · have h1 := h.1 _ _ x y (ap_r b1) (ap_l b2) hxy
      have h2 := (List.getElem?_eq_some_iff.mp b2).1
      omega
    · have h1 := h.1 _ _ x y (ap_l b1) (ap_r b2) hxy
      have h2 := (List.getElem?_eq_some_iff.mp b1).1
      omega
    · have := h.1 _ _ x y (ap_l b1) (ap_l b2) hxy
      omega
  · rcases ap_or hk with ⟨a1, b1⟩ | ⟨a1, b1⟩
    · exact h.2 _ q (ap_r b1)
    · exact h.2 _ q (ap_l b1)
theorem TH.narrow {A B : Nat → Prop} {U : State} {H : Heap} (h : TH A U H) (hAB : ∀ q, B q → A q) : TH B U H := ⟨h.1.narrow hAB, h.2.1.narrow hAB, h.2.2⟩
section XF
variable {p : Program} {l : Launch} {e : Env} {R : Room} {s : State} {m : MethodId} {args : Array Value} {below : List Frame} {meth : Method} {c : Code} {H : Heap} {locs : List Loc} {cells slots : Nat} {Q : State → Prop}
variable {cc : ByteArray} {pc : Nat} {ls : Array Slot} {rest st0 : List Value} {own C : String} {Ts : List Cond} {dd : va_G} {cy : Nat → ClassId} {A : Nat → Prop} {index : Nat} {a : Nat} {w1 w1' w2 : va_W}
theorem XW.swap (X : XW dd cy A s (w1 ++ w2) H locs) : XW dd cy A s (w2 ++ w1) H locs := by
  refine ⟨X.1, fun k q hk => ?_, vd_swap X.2.2.1, X.2.2.2.1, X.2.2.2.2⟩
  rcases ap_or hk with ⟨_, b⟩ | ⟨_, b⟩
  · exact X.2.1 _ q (ap_r b)
  · exact X.2.1 _ q (ap_l b)
theorem xf_sub (X : XW dd cy A s (w1 ++ w2) H locs) : ∀ q, va_A w1 H.size q → A q := by
  intro q h
  rcases h with ⟨k, e, h⟩ | h
  · exact X.2.2.1.2 k (q, e) (ap_l h)
  · exact X.2.2.2.1 q (Nat.le_trans X.2.2.2.2.1 h)
theorem xf_pre (X : XW dd cy A s (w1 ++ w2) H locs) (U : State) (hU : U.heap = H) (hW : s.WarmedH U.vm) : IW dd cy (va_A w1 H.size) w1 U := by
  have hD : va_D A w1 := ⟨fun i j x y hi hj => X.2.2.1.1 i j x y (ap_l hi) (ap_l hj), fun k q hk => X.2.2.1.2 k q (ap_l hk)⟩
  exact ⟨va_K.moved hW.alike X.1, by rw [hU]; exact fun k q hk => X.2.1 k q (ap_l hk), hD.self, fun q hq => Or.inr (by rw [← hU]; exact hq)⟩
theorem xf_preT (X : XW dd cy A s (w1 ++ w2) H locs) (hT : TH A s s.heap) (U : State) (hU : U.heap = H) (hW : s.WarmedH U.vm) : IT dd cy (va_A w1 H.size) w1 U := ⟨xf_pre X U hU hW, (hT.pre X.2.2.2.2 hU hW).narrow (xf_sub X)⟩
theorem xf_post (X : XW dd cy A s (w1 ++ w2) H locs) {t T' : State} {L : List Loc} (hB : IW dd cy (va_A w1 H.size) w1' t) (hz : H.size ≤ t.heap.size) (hk : ∀ q : Nat, q < H.size → ¬ va_A w1 H.size q → t.heap[q]? = H[q]?) (e1 : T'.heap = t.heap) (hL : ∀ q ∈ L, va_A w1 H.size q.base) : XW dd cy A s (w1' ++ w2) T'.heap (locs ++ L) := by
  have hsub := xf_sub X
  have apart : ∀ (k : Nat) (q : Nat × va_E), w2[k]? = some q → q.1 < H.size ∧ ¬ va_A w1 H.size q.1 := by
    intro k q hq
    have hl := (X.2.1 _ q (ap_r hq)).lt
    refine ⟨hl, fun h => ?_⟩
    rcases h with ⟨k2, e2, h⟩ | h
    · have h3 := X.2.2.1.1 _ _ q (q.1, e2) (ap_r hq) (ap_l h) rfl
      have h4 := (List.getElem?_eq_some_iff.mp h).1
      omega
    · omega
  have hS := X.2.2.2.2
  refine ⟨X.1, ?_, ?_, X.2.2.2.1, Nat.le_trans hS.1 (by rw [e1]; exact hz), fun q h1 h2 => ?_, fun q hq => ?_⟩
  · rw [e1]
    intro k q hq
    rcases ap_or hq with ⟨_, b⟩ | ⟨_, b⟩
    · exact hB.2.1 k q b
    · obtain ⟨g1, g2⟩ := apart _ q b
      exact (X.2.1 _ q (ap_r b)).kept (hk q.1 g1 g2)
  · refine va_D.app (hB.2.2.1.weaken (fun k q _ h => hsub q.1 h)) ⟨fun i j x y hi hj hxy => ?_, fun k q hk => X.2.2.1.2 _ q (ap_r hk)⟩ (fun i j x y hx hy hxy => ?_)
    · have := X.2.2.1.1 _ _ x y (ap_r hi) (ap_r hj) hxy
      omega
    · exact (apart j y hy).2 (by rw [← hxy]; exact hB.2.2.1.2 i x hx)
  · rw [e1, hk q (Nat.lt_of_lt_of_le h1 hS.1) (fun h => h2 (hsub q h))]
    exact hS.2.1 q h1 h2
  · rcases List.mem_append.mp hq with h | h
    · exact hS.2.2 q h
    · exact hsub _ (hL q h)
theorem xf_of {ov : Option Value} {aa : Array Value} {mc ms : Nat} (hr : va_Run p l e R s m args below meth c H locs cells slots mc ms (F0 m pc ls st0) rest (QX dd cy (va_A w1 H.size) ov w1' aa) (va_A w1 H.size)) (X : XW dd cy A s (w1 ++ w2) H locs) (kk : ∀ (H1 : Heap) (locs1 : List Loc), XW dd cy A s (w1' ++ w2) H1 locs1 → W p l e R s m args below meth c H1 locs1 (cells + mc) (slots + ms) Q (F0 m (pc + 3) ls (ov.toList ++ rest))) : W p l e R s m args below meth c H locs cells slots Q (F0 m pc ls st0) := by
  intro T hT Y
  obtain ⟨v, st₀, t, T', L, h0, X', hL, e1, e2, ⟨⟨hv, hb⟩, hz, hk⟩, st⟩ := hr T hT Y
  cases hv
  rw [h0] at hz hk
  obtain ⟨t2, a1, b1⟩ := kk T'.heap (locs ++ L) (xf_post X hb hz hk e1 hL) T' rfl X'
  exact ⟨t2, st t2 a1, b1⟩
variable {y : MethodName} {bytes : ByteArray} {maxL nL n : Nat} {ret : Option FieldType} {ws : List Cond} {rm : Room} {b : Nat} {As : List Value} {v : Value}
theorem xf_S {hh : List (Nat × Nat × Nat × Nat)} (S : CallFix p m c cc nL s args Ts own) (hM : Met l y ws rm (va_Pc As (IT dd cy (va_A w1 H.size) w1)) (QX dd cy (va_A w1 H.size) (some v) w1') 1 6 (va_A w1 H.size)) (cw : vx_CSW R s args own index y bytes maxL ret hh ws rm 1 6 n) (X : XW dd cy A s (w1 ++ w2) H locs) (hT : TH A s s.heap) (hn : As.length = n) (hsize : ls.size = nL) (hst : st0 = As.reverse ++ rest) (hW : (rest.map fun v => v.category).sum ≤ 8) (hdg : decode cc pc = .ok (.invokestatic index, 3)) (hR : cells + 1 ≤ R.cells ∧ slots + 6 ≤ R.slots) (kk : ∀ (H1 : Heap) (locs1 : List Loc), XW dd cy A s (w1' ++ w2) H1 locs1 → W p l e R s m args below meth c H1 locs1 (cells + 1) (slots + 6) Q (F0 m (pc + 3) ls (v :: rest))) : W p l e R s m args below meth c H locs cells slots Q (F0 m pc ls st0) :=
  xf_of (vx_runSW S hM cw ⟨IT.blind, fun U hU hW => ⟨rfl, xf_preT X hT U hU hW⟩⟩ rfl hn hsize hst (lv_room hW) hdg hR) X kk
theorem xf_V (S : CallFix p m c cc nL s args Ts own) (hM : Met l y ws rm (va_Pc (.ref b :: As) (IW dd cy (va_A w1 H.size) w1)) (QX dd cy (va_A w1 H.size) (some v) w1') 0 0 (va_A w1 H.size)) (cw : CallW R s args own C index y bytes maxL ret ws rm 0 0 n) (X : XW dd cy A s (w1 ++ w2) H locs) (hrecv : ∃ cell : Cell, H[b]? = some cell ∧ cell.vm.isStatics = false ∧ s.vm.findClass C = some cell.cls) (hn : As.length = n) (hsize : ls.size = nL) (hst : st0 = As.reverse ++ .ref b :: rest) (hW : (rest.map fun v => v.category).sum ≤ 8) (hdg : decode cc pc = .ok (.invokevirtual index, 3)) (hR : cells ≤ R.cells ∧ slots ≤ R.slots) (kk : ∀ (H1 : Heap) (locs1 : List Loc), XW dd cy A s (w1' ++ w2) H1 locs1 → W p l e R s m args below meth c H1 locs1 cells slots Q (F0 m (pc + 3) ls (v :: rest))) : W p l e R s m args below meth c H locs cells slots Q (F0 m pc ls st0) :=
  xf_of (va_runV S hM cw ⟨IW.blind, hrecv, fun U hU hW => ⟨rfl, xf_pre X U hU hW⟩⟩ rfl hn hsize hst (lv_room hW) hdg hR) X kk
end XF
