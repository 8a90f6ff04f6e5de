/-! CONSTRUCTORS: rows that make objects and arrays, over worlds; a call of a constructor. -/
theorem cy_eq {U : State} {cA cB : ClassId} {ty : FieldType} (h1 : va_RA U cA ty) (h2 : va_RA U cB ty) : cA = cB := by
  cases ty with
  | object C =>
    obtain ⟨_, _, _, _, _, a⟩ := h1
    obtain ⟨_, _, _, _, _, b⟩ := h2
    exact Option.some.inj (a.symm.trans b)
  | _ => exact Option.some.inj (Eq.trans (Eq.symm h1) h2)
def QE {α : Type} (dd : va_G) (cy : Nat → ClassId) (A : Nat → Prop) (P : α → Prop) (wf : α → va_W) : Array Value → State → Outcome → State → Prop := fun _ st oc t => (oc = .returned none ∧ ∃ u : α, P u ∧ IW dd cy A (wf u) t) ∧ va_F A st t
theorem fm_of {α β : Type} {f : α → Option β} : ∀ {is : List α} {w : List β}, is.map f = w.map some → is.filterMap f = w := by
  intro is
  induction is with
  | nil =>
    intro w h
    cases w with
    | nil => rfl
    | cons b w => cases h
  | cons a is ih =>
    intro w h
    cases w with
    | nil => cases h
    | cons b w =>
      rw [List.map_cons, List.map_cons] at h
      injection h with h1 h2
      rw [List.filterMap_cons, h1, ih h2]
section XN
variable {p : Program} {l : Launch} {e : Env} {R : Room} {s : State} {m : MethodId} {args : Array Value} {below : List Frame} {meth : Method} {c : Code} {H : Heap} {locs : List Loc} {cells slots : Nat} {Q : State → Prop}
variable {cc : ByteArray} {pc : Nat} {ls : Array Slot} {rest st0 : List Value} {own C : String} {Ts : List Cond} {dd : va_G} {cy : Nat → ClassId} {A : Nat → Prop} {index : Nat} {a : Nat} {wl wl' w1 w2 : va_W}
theorem XW.sub (X : XW dd cy A s wl H locs) (is : List Nat) (hn : va_nd is = true) (hs : is.map (fun i => wl[i]?) = wl'.map some) : XW dd cy A s wl' H locs := ⟨X.1, X.2.1.sub is (fm_of hs), X.2.2.1.sub is hn hs, X.2.2.2.1, X.2.2.2.2⟩
theorem XW.ref_ext (X : XW dd cy A s wl H locs) (p : Nat) {cA : ClassId} {n : Nat} {f g : Nat → Option Nat} (hp : wl[p]? = some (a, .inl (cA, n, .inr (.inr (.inr (.inr f)))))) (hfg : ∀ k, k < n → f k = g k) (hw : wl.set p (a, .inl (cA, n, .inr (.inr (.inr (.inr g))))) = wl') : XW dd cy A s wl' H locs := by
  subst hw
  have hz := (List.getElem?_eq_some_iff.mp hp).1
  have key : ∀ (k : Nat) (q : Nat × va_E), (wl.set p (a, .inl (cA, n, .inr (.inr (.inr (.inr g))))))[k]? = some q → ∃ q0, wl[k]? = some q0 ∧ q0.1 = q.1 ∧ (q = q0 ∨ (q0 = (a, .inl (cA, n, .inr (.inr (.inr (.inr f))))) ∧ q = (a, .inl (cA, n, .inr (.inr (.inr (.inr g))))))) := by
    intro k q hk
    by_cases e : p = k
    · subst e
      rw [List.getElem?_set_self hz] at hk
      cases hk
      exact ⟨_, hp, rfl, Or.inr ⟨rfl, rfl⟩⟩
    · rw [List.getElem?_set_ne e] at hk
      exact ⟨q, hk, rfl, Or.inl rfl⟩
  refine ⟨X.1, fun k q hk => ?_, ⟨fun i j x y hi hj hxy => ?_, fun k q hk => ?_⟩, X.2.2.2.1, X.2.2.2.2⟩
  · obtain ⟨q0, h1, h2, h3 | ⟨h3, h4⟩⟩ := key k q hk
    · subst h3
      exact X.2.1 k _ h1
    · subst h4
      have h5 : H[a]? = some (vp_cell cA (n, .inr (.inr (.inr (.inr f))))) := X.2.1 p _ hp
      show H[a]? = some (vp_cell cA (n, .inr (.inr (.inr (.inr g)))))
      rw [h5, vp_cell_q, vp_cell_q]
      congr 1
      show ({ cls := cA, slots := Array.ofFn (n := n) fun j => va_rf (f j.val), vm := .none } : Cell) = { cls := cA, slots := Array.ofFn (n := n) fun j => va_rf (g j.val), vm := .none }
      have h6 : (fun j : Fin n => va_rf (f j.val)) = (fun j : Fin n => va_rf (g j.val)) := funext fun j => by rw [hfg j.val j.isLt]
      rw [h6]
  · obtain ⟨x0, a1, a2, -⟩ := key i x hi
    obtain ⟨y0, b1, b2, -⟩ := key j y hj
    exact X.2.2.1.1 i j x0 y0 a1 b1 (by rw [a2, b2]; exact hxy)
  · obtain ⟨x0, a1, a2, -⟩ := key k q hk
    rw [← a2]
    exact X.2.2.1.2 k x0 a1
theorem xn_newa (hx : p.tables.exec = Jvm.exec) (hb : c.code = cc) {atype : ArrayType} (harr : (Cond.arrayClass (newarray.typeOf atype)).before args s = true) {ty : FieldType} (hty : newarray.typeOf atype = ty) (X : XW dd cy A s wl H locs) (k : Nat) (hk : (tyA cy)[k]? = some (cy k, ty)) {n : Int32} {N' : Nat} {a0 : vp_A} (ha : ∀ cA : ClassId, vp_cell cA a0 = arrV cA N' (fun _ => defaultValue ty)) (hn : ¬ n < 0) (hN : n.toNatClampNeg = N') (hbytes : N' * componentBytes ty ≤ 536870912) (hcells : cells + 1 ≤ R.cells) (hslots : slots + N' ≤ R.slots) (hdg : decode cc pc = .ok (.newarray atype, 2)) (kk : ∀ (q : Nat) (H1 : Heap), XW dd cy A s (wl ++ [(q, .inl (cy k, a0))]) H1 locs → W p l e R s m args below meth c H1 locs (cells + 1) (slots + N') Q (F0 m (pc + 2) ls (.ref q :: rest))) : W p l e R s m args below meth c H locs cells slots Q (F0 m pc ls (.int n :: rest)) := by
  refine va_newa hx hb harr hty X.1 X.2.1 X.2.2.1 X.2.2.2.2 X.2.2.2.1 ha hn hN hbytes hcells hslots hdg (fun q cA H1 hK hP hD hS => ?_)
  have e1 : cA = cy k := cy_eq (hK.2 6 (cA, ty) rfl).2 (X.1.2 k _ hk).2
  subst e1
  exact kk q H1 ⟨X.1, hP, hD, X.2.2.2.1, hS⟩
theorem xn_newq (hx : p.tables.exec = Jvm.exec) (hb : c.code = cc) (hown : s.vm.findClass own = some m.cls) (hclink : (Cond.classLink own index C).before args s = true) (hover : va_AO C s) (X : XW dd cy A s wl H locs) (k : Nat) (hk : (tyA cy)[k]? = some (cy k, .object C)) {n : Int32} {N' : Nat} (hn : ¬ n < 0) (hN : n.toNatClampNeg = N') (hbytes : N' * 4 ≤ 536870912) (hcells : cells + 1 ≤ R.cells) (hslots : slots + N' ≤ R.slots) (hdg : decode cc pc = .ok (.anewarray index, 3)) (kk : ∀ (q : Nat) (H1 : Heap), XW dd cy A s (wl ++ [(q, .inl (cy k, N', .inr (.inr (.inr (.inr (fun _ => none))))))]) H1 locs → W p l e R s m args below meth c H1 locs (cells + 1) (slots + N') Q (F0 m (pc + 3) ls (.ref q :: rest))) : W p l e R s m args below meth c H locs cells slots Q (F0 m pc ls (.int n :: rest)) := by
  refine va_newq hx hb hown hclink hover X.1 X.2.1 X.2.2.1 X.2.2.2.2 X.2.2.2.1 hn hN hbytes hcells hslots hdg (fun q cA H1 hK hP hD hS => ?_)
  have e1 : cA = cy k := cy_eq (hK.2 6 (cA, .object C) rfl).2 (X.1.2 k _ hk).2
  subst e1
  exact kk q H1 ⟨X.1, hP, hD, X.2.2.2.1, hS⟩
theorem xn_new (hx : p.tables.exec = Jvm.exec) (hb : c.code = cc) (hts : ∀ w ∈ Ts, w.before args s = true) (hown : s.vm.findClass own = some m.cls) {T : u_T} {N ci : Nat} (hin : ∀ w ∈ u_ws C T N, w ∈ Ts) (ty : Nat → FieldType) (hty : ∀ k, k < N → parseFieldDescriptor (T k).2.2.1 = some (ty k)) (hcl : (Cond.classLink own index C).before args s = true) (hinst : (Cond.instantiable C N).before args s = true) (hini : (Cond.initialized C).before args s = true) (X : XW dd cy A s wl H locs) (hc : clA[ci]? = some (C, T, N)) {fs : List Value} (hfs : ∀ j, j < N → defaultValue (ty j) = vp_V fs j) (hcells : cells + 1 ≤ R.cells) (hslots : slots + N ≤ R.slots) (hdg : decode cc pc = .ok (.new index, 3)) (kk : ∀ (q : Nat) (H1 : Heap), XW dd cy A s (wl ++ [(q, .inr (ci, fs))]) H1 locs → W p l e R s m args below meth c H1 locs (cells + 1) (slots + N) Q (F0 m (pc + 3) ls (.ref q :: rest))) : W p l e R s m args below meth c H locs cells slots Q (F0 m pc ls rest) :=
  va_new hx hb hts hin ty hty hown hcl hinst hini X.1 X.2.1 X.2.2.1 X.2.2.2.2 X.2.2.2.1 hc hfs hcells hslots hdg (fun q H1 hP hD hS => kk q H1 ⟨X.1, hP, hD, X.2.2.2.1, hS⟩)
theorem xn_putF (hx : p.tables.exec = Jvm.exec) (hb : c.code = cc) (hts : ∀ w ∈ Ts, w.before args s = true) (hown : s.vm.findClass own = some m.cls) (hin2 : meth.name = "<init>") (X : XW dd cy A s wl H locs) {C0 : String} {T : u_T} {N ci : Nat} (hin : ∀ w ∈ u_ws C0 T N, w ∈ Ts) {ty0 : Nat → FieldType} (hty : ∀ k, k < N → parseFieldDescriptor (T k).2.2.1 = some (ty0 k)) (hnm : ∀ a, a < N → ∀ b, b < N → a ≠ b → (T a).2.1 ≠ (T b).2.1) (q0 : Nat) {fs : List Value} (hq : wl[q0]? = some (a, .inr (ci, fs))) (hc : clA[ci]? = some (C0, T, N)) (k : Nat) (hk : k < N) (hfin : (T k).2.2.2 = true) (hdecl : (T k).1 = own) {ty : FieldType} (hd : parseFieldDescriptor (T k).2.2.1 = some ty) {v : Nat} (hn : narrow ty (.ref v) = .ref v) (hfit : fits ty (.ref v) = true) (hlink : Cond.fieldLink own index (T k).1 (T k).2.1 (T k).2.2.1 ∈ Ts) (hl : k < fs.length) {w9 : va_W} (hw : wl.set q0 (a, .inr (ci, fs.set k (.ref v))) = w9) (hdg : decode cc pc = .ok (.putfield index, 3)) (kk : ∀ (H1 : Heap) (locs1 : List Loc), XW dd cy A s w9 H1 locs1 → W p l e R s m args below meth c H1 locs1 cells slots Q (F0 m (pc + 3) ls rest)) : W p l e R s m args below meth c H locs cells slots Q (F0 m pc ls (.ref v :: .ref a :: rest)) :=
  va_putF hx hb hts hin ty0 hty hnm hown X.1 X.2.1 X.2.2.1 X.2.2.2.2 q0 hq hc k hk (hts _ hlink) (fun _ h9 => h9) hfin hin2 hdecl hd hn hfit hl hdg (fun H1 locs1 hP hD hS => kk H1 locs1 ⟨X.1, by rw [← hw]; exact hP, by rw [← hw]; exact hD, X.2.2.2.1, hS⟩)
theorem xn_astq (hx : p.tables.exec = Jvm.exec) (hb : c.code = cc) (X : XW dd cy A s wl H locs) (q0 qk ci : Nat) {r : vw_C} {n v : Nat} {vs : List Value} {f : Nat → Option Nat} (ht : (tyA cy)[4]? = some (cy 4, .object r.1)) (ha : wl[q0]? = some (a, .inl (cy 4, n, .inr (.inr (.inr (.inr f)))))) (hv : wl[qk]? = some (v, .inr (ci, vs))) (hc : clA[ci]? = some r) {i : Int32} (k : Nat) (hi : i.toNatClampNeg = k) (hin : vp_in i n) {w9 : va_W} (hw : wl.set q0 (a, .inl (cy 4, n, .inr (.inr (.inr (.inr (va_up f k (some v))))))) = w9) (hdg : decode cc pc = .ok (.aastore, 1)) (kk : ∀ (H1 : Heap) (locs1 : List Loc), XW dd cy A s w9 H1 locs1 → W p l e R s m args below meth c H1 locs1 cells slots Q (F0 m (pc + 1) ls rest)) : W p l e R s m args below meth c H locs cells slots Q (F0 m pc ls (.ref v :: .int i :: .ref a :: rest)) := by
  subst hi
  exact va_astq hx hb X.1 X.2.1 X.2.2.1 X.2.2.2.2 q0 4 qk ci ha ht hv hc hin hdg (fun H1 locs1 hP hD hS => kk H1 locs1 ⟨X.1, by rw [← hw]; exact hP, by rw [← hw]; exact hD, X.2.2.2.1, hS⟩)
theorem xf_ofE {α : Type} {P : α → Prop} {wf : α → va_W} {aa : Array Value} {mc ms : Nat} (hr : va_Run p l e R s m args below meth c H locs cells slots mc ms (F0 m pc ls st0) rest (QE dd cy (va_A w1 H.size) P wf aa) (va_A w1 H.size)) (X : XW dd cy A s (w1 ++ w2) H locs) (kk : ∀ (u : α) (H1 : Heap) (locs1 : List Loc), P u → XW dd cy A s (wf u ++ w2) H1 locs1 → W p l e R s m args below meth c H1 locs1 (cells + mc) (slots + ms) Q (F0 m (pc + 3) ls rest)) : W p l e R s m args below meth c H locs cells slots Q (F0 m pc ls st0) := by
  intro T hT Y
  obtain ⟨v, st₀, t, T', L, h0, X', hL, e1, e2, ⟨⟨hv, u, hu, hB⟩, hz, hk⟩, st⟩ := hr T hT Y
  cases hv
  rw [h0] at hz hk
  obtain ⟨t2, a1, b1⟩ := kk u T'.heap (locs ++ L) hu (xf_post X hB hz hk e1 hL) T' rfl X'
  exact ⟨t2, st t2 a1, b1⟩
variable {y : MethodName} {bytes : ByteArray} {maxL nL n : Nat} {ws : List Cond} {rm : Room} {b : Nat} {host : String}
theorem xf_IN {α : Type} {P : α → Prop} {wf : α → va_W} {mc ms : Nat} (S : CallFix p m c cc nL s args Ts own) (hM : Met l y ws rm (va_Pc [.ref b] (IW dd cy (va_A w1 H.size) w1)) (QE dd cy (va_A w1 H.size) P wf) mc ms (va_A w1 H.size)) (cw : va_CN R s args own index y host bytes maxL none ws rm mc ms 0 ∧ y.name = "<init>" ∧ (Cond.instanceMethod y).before args s = true) (X : XW dd cy A s (w1 ++ w2) H locs) (hsize : ls.size = nL) (hst : st0 = .ref b :: rest) (hW : (rest.map fun v => v.category).sum ≤ 8) (hdg : decode cc pc = .ok (.invokespecial index, 3)) (hR : cells + mc ≤ R.cells ∧ slots + ms ≤ R.slots) (kk : ∀ (u : α) (H1 : Heap) (locs1 : List Loc), P u → XW dd cy A s (wf u ++ w2) H1 locs1 → W p l e R s m args below meth c H1 locs1 (cells + mc) (slots + ms) Q (F0 m (pc + 3) ls rest)) : W p l e R s m args below meth c H locs cells slots Q (F0 m pc ls st0) :=
  xf_ofE (va_runIN (As := []) S hM cw ⟨IW.blind, fun U hU hW => ⟨rfl, xf_pre X U hU hW⟩⟩ rfl rfl hsize hst (lv_room hW) hdg hR) X kk
/-- what Rootsong() asks of the tables beside its words -/
def NW (U : State) : Prop := va_AO RX4 U ∧ va_Nw (.methodLinkNest RX5 15 yX4_init RX5) U ∧ va_Nw (.methodLinkNest RX5 22 yX0_init RX5) U ∧ va_Nw (.methodLinkNest RX5 29 yX2_init RX5) U
def IV (dd : va_G) (cy : Nat → ClassId) (A : Nat → Prop) (wl : va_W) (U : State) : Prop := IW dd cy A wl U ∧ NW U
theorem IV.blind {As : List Value} : FrameBlind (va_Pc As (IV dd cy A wl)) := fun a U g mk q =>
  ⟨q.1, ⟨va_K.moved (u := U) (U := U.calling g mk a) (Vm.Alike.refl U.vm) q.2.1.1, q.2.1.2⟩, va_AO.moved (u := U) (U := U.calling g mk a) (Vm.Alike.refl U.vm) q.2.2.1, va_Nw.same (u := U) (U := U.calling g mk a) rfl rfl q.2.2.2.1, va_Nw.same (u := U) (U := U.calling g mk a) rfl rfl q.2.2.2.2.1, va_Nw.same (u := U) (U := U.calling g mk a) rfl rfl q.2.2.2.2.2⟩
theorem NW.warm {U : State} (hW : s.WarmedH U.vm) (h : NW s) : NW U := ⟨va_AO.moved hW.alike h.1, va_Nw.warmM hW h.2.1, va_Nw.warmM hW h.2.2.1, va_Nw.warmM hW h.2.2.2⟩
theorem xf_I {α : Type} {P : α → Prop} {wf : α → va_W} {mc ms : Nat} (S : CallFix p m c cc nL s args Ts own) (hM : Met l y ws rm (va_Pc [.ref b] (IW dd cy (va_A w1 H.size) w1)) (QE dd cy (va_A w1 H.size) P wf) mc ms (va_A w1 H.size)) (cw : CallB R s args own index y bytes maxL none ws rm mc ms 0 ∧ y.name = "<init>" ∧ (Cond.instanceMethod y).before args s = true) (X : XW dd cy A s (w1 ++ w2) H locs) (hsize : ls.size = nL) (hst : st0 = .ref b :: rest) (hW : (rest.map fun v => v.category).sum ≤ 8) (hdg : decode cc pc = .ok (.invokespecial index, 3)) (hR : cells + mc ≤ R.cells ∧ slots + ms ≤ R.slots) (kk : ∀ (u : α) (H1 : Heap) (locs1 : List Loc), P u → XW dd cy A s (wf u ++ w2) H1 locs1 → W p l e R s m args below meth c H1 locs1 (cells + mc) (slots + ms) Q (F0 m (pc + 3) ls rest)) : W p l e R s m args below meth c H locs cells slots Q (F0 m pc ls st0) :=
  xf_ofE (va_runI (As := []) S hM cw ⟨IW.blind, fun U hU hW => ⟨rfl, xf_pre X U hU hW⟩⟩ rfl rfl hsize hst (lv_room hW) hdg hR) X kk
theorem xf_IV {α : Type} {P : α → Prop} {wf : α → va_W} {mc ms : Nat} (S : CallFix p m c cc nL s args Ts own) (hM : Met l y ws rm (va_Pc [.ref b] (IV dd cy (va_A w1 H.size) w1)) (QE dd cy (va_A w1 H.size) P wf) mc ms (va_A w1 H.size)) (cw : CallB R s args own index y bytes maxL none ws rm mc ms 0 ∧ y.name = "<init>" ∧ (Cond.instanceMethod y).before args s = true) (X : XW dd cy A s (w1 ++ w2) H locs) (hN : NW s) (hsize : ls.size = nL) (hst : st0 = .ref b :: rest) (hW : (rest.map fun v => v.category).sum ≤ 8) (hdg : decode cc pc = .ok (.invokespecial index, 3)) (hR : cells + mc ≤ R.cells ∧ slots + ms ≤ R.slots) (kk : ∀ (u : α) (H1 : Heap) (locs1 : List Loc), P u → XW dd cy A s (wf u ++ w2) H1 locs1 → W p l e R s m args below meth c H1 locs1 (cells + mc) (slots + ms) Q (F0 m (pc + 3) ls rest)) : W p l e R s m args below meth c H locs cells slots Q (F0 m pc ls st0) :=
  xf_ofE (va_runI (As := []) S hM cw ⟨IV.blind, fun U hU hW => ⟨rfl, xf_pre X U hU hW, hN.warm hW⟩⟩ rfl rfl hsize hst (lv_room hW) hdg hR) X kk
end XN
