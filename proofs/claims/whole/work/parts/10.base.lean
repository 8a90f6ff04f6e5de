/-! THE WORLDS of the two sides: the class's cells (26 places) and the model's (5 places), as functions of what they hold; rows of the kit said over them; the pieces of the functions that the walk is held against. -/
abbrev clA : List vw_C := [(RX4, TX4, 2), (RX5, TX5, 4), (RX0, TX0, 2), (RX2, TX2, 5), (RX6, TX6, 5)]
def tyA (cy : Nat → ClassId) : List (ClassId × FieldType) := [(cy 0, .char), (cy 1, .int), (cy 2, .long), (cy 3, .boolean), (cy 4, .object RX4), (cy 5, .double)]
def IW (dd : va_G) (cy : Nat → ClassId) (A : Nat → Prop) (wl : va_W) (U : State) : Prop := va_K dd clA (tyA cy) U ∧ va_P dd clA wl U.heap ∧ va_D A wl ∧ ∀ q : Nat, U.heap.size ≤ q → A q
def XW (dd : va_G) (cy : Nat → ClassId) (A : Nat → Prop) (s : State) (wl : va_W) (H : Heap) (locs : List Loc) : Prop := va_K dd clA (tyA cy) s ∧ va_P dd clA wl H ∧ va_D A wl ∧ (∀ q : Nat, s.heap.size ≤ q → A q) ∧ va_S A s.heap H locs
theorem XW.of {dd : va_G} {cy : Nat → ClassId} {A : Nat → Prop} {s : State} {wl : va_W} (h : IW dd cy A wl s) : XW dd cy A s wl s.heap [] := ⟨h.1, h.2.1, h.2.2.1, h.2.2.2, va_S.rf⟩
theorem XW.pre {dd : va_G} {cy : Nat → ClassId} {A : Nat → Prop} {s : State} {wl : va_W} {H : Heap} {locs : List Loc} (X : XW dd cy A s wl H locs) (U : State) (hU : U.heap = H) (hW : s.WarmedH U.vm) : IW dd cy A wl U :=
  ⟨va_K.moved hW.alike X.1, by rw [hU]; exact X.2.1, X.2.2.1, fun q hq => X.2.2.2.1 q (Nat.le_trans X.2.2.2.2.1 (by rw [← hU]; exact hq))⟩
theorem XW.post {dd : va_G} {cy : Nat → ClassId} {A : Nat → Prop} {s : State} {wl : va_W} {H : Heap} {locs : List Loc} (X : XW dd cy A s wl H locs) (t : State) (ht : t.heap = H) (hvm : s.vm.Alike t.vm) : IW dd cy A wl t :=
  ⟨va_K.moved hvm X.1, by rw [ht]; exact X.2.1, X.2.2.1, fun q hq => X.2.2.2.1 q (Nat.le_trans X.2.2.2.2.1 (by rw [← ht]; exact hq))⟩
theorem XW.next {dd : va_G} {cy : Nat → ClassId} {A : Nat → Prop} {s t : State} {wl wl' : va_W} {H H1 : Heap} {locs locs1 : List Loc} (X : XW dd cy A s wl H locs) (ht : t.heap = H1) (hB : IW dd cy A wl' t) (hS : va_S A s.heap H1 locs1) : XW dd cy A s wl' H1 locs1 :=
  ⟨X.1, by rw [← ht]; exact hB.2.1, hB.2.2.1, X.2.2.2.1, hS⟩
theorem IW.blind {dd : va_G} {cy : Nat → ClassId} {A : Nat → Prop} {wl : va_W} {As : List Value} : FrameBlind (va_Pc As (IW dd cy A wl)) := fun a U g mk q => ⟨q.1, va_K.moved (u := U) (U := U.calling g mk a) (Vm.Alike.refl U.vm) q.2.1, q.2.2⟩
-- a world listed by places
def wlF (n : Nat) (ad : Nat → Nat) (w : Nat → va_E) : va_W := (List.range n).map fun p => (ad p, w p)
theorem wlF_at {n p : Nat} {ad : Nat → Nat} {w : Nat → va_E} (h : p < n) : (wlF n ad w)[p]? = some (ad p, w p) := by
  simp [wlF, h]
theorem wlF_set {n p : Nat} {ad : Nat → Nat} {w w' : Nat → va_E} {e : va_E} (hp : w' p = e) (hq : ∀ q, q < n → q ≠ p → w' q = w q) : (wlF n ad w).set p (ad p, e) = wlF n ad w' := by
  apply List.ext_getElem?
  intro k
  by_cases hk : k < n
  · rw [wlF_at hk]
    by_cases e : p = k
    · subst e
      rw [List.getElem?_set_self (by simp [wlF, hk]), hp]
    · rw [List.getElem?_set_ne e, wlF_at hk, hq k hk (fun z => e z.symm)]
  · rw [List.getElem?_eq_none (by simp [wlF]; omega), List.getElem?_eq_none (by simp [wlF]; omega)]
def weC (ad : Nat → Nat) (cy : Nat → ClassId) (ts : Nat → Int32) (tc : Nat → Nat → Int32) (rk pl : Nat → Int32) (ru : Nat → Int64) (sl bg : Nat → Int32) (kn : Nat → Int64) (rm : Int32) (ol : Nat → Int64) (od : Nat → UInt64) (p : Nat) : va_E :=
  if p < 7 then .inr (0, [.ref (ad (p + 7)), .int (ts p)])
  else if p < 14 then .inl (cy 0, 60, .inl (tc (p - 7)))
  else if p = 14 then .inr (1, [.ref (ad 15), .ref (ad 6), .ref (ad 16), .ref (ad 19)])
  else if p = 15 then .inl (cy 4, 6, .inr (.inr (.inr (.inr (fun k => some (ad k))))))
  else if p = 16 then .inr (2, [.ref (ad 17), .ref (ad 18)])
  else if p = 17 then .inl (cy 1, 61, .inl rk)
  else if p = 18 then .inl (cy 1, 60, .inl pl)
  else if p = 19 then .inr (3, [.ref (ad 20), .ref (ad 21), .ref (ad 22), .ref (ad 23), .int rm])
  else if p = 20 then .inl (cy 2, 61, .inr (.inl ru))
  else if p = 21 then .inl (cy 1, 360, .inl sl)
  else if p = 22 then .inl (cy 1, 360, .inl bg)
  else if p = 23 then .inl (cy 2, 6, .inr (.inl kn))
  else if p = 24 then .inl (cy 2, 1, .inr (.inl ol))
  else .inl (cy 5, 1, .inr (.inr (.inr (.inl od))))
def wlC (ad : Nat → Nat) (cy : Nat → ClassId) (ts : Nat → Int32) (tc : Nat → Nat → Int32) (rk pl : Nat → Int32) (ru : Nat → Int64) (sl bg : Nat → Int32) (kn : Nat → Int64) (rm : Int32) (ol : Nat → Int64) (od : Nat → UInt64) : va_W := wlF 26 ad (weC ad cy ts tc rk pl ru sl bg kn rm ol od)
def weR (bd : Nat → Nat) (cy : Nat → ClassId) (th : Int32) (ce sz : Nat → Int32) (wy : Nat → Int64) (op : Nat → Int32) (p : Nat) : va_E :=
  if p = 0 then .inr (4, [.int th, .ref (bd 1), .ref (bd 2), .ref (bd 3), .ref (bd 4)])
  else if p = 1 then .inl (cy 1, 900, .inl ce)
  else if p = 2 then .inl (cy 1, 6, .inl sz)
  else if p = 3 then .inl (cy 2, 121, .inr (.inl wy))
  else .inl (cy 3, 360, .inl op)
def wlR (bd : Nat → Nat) (cy : Nat → ClassId) (th : Int32) (ce sz : Nat → Int32) (wy : Nat → Int64) (op : Nat → Int32) : va_W := wlF 5 bd (weR bd cy th ce sz wy op)
-- pieces of the functions
def updL {α : Type} (f : Nat → α) (k : Nat) (x : α) : Nat → α := fun j => if j = k then x else f j
def inB (x : Int32) (n : Nat) : Bool := decide (0 ≤ x.toInt ∧ x.toInt < (n : Int))
theorem inB_vp {x : Int32} {n : Nat} : inB x n = true ↔ vp_in x n := by simp [inB, vp_in_iff]
def ldA {α : Type} (f : Nat → α) (n : Nat) (x : Int32) : Option α := if inB x n = true then some (f x.toNatClampNeg) else none
def stA {α : Type} (f : Nat → α) (n : Nat) (x : Int32) (v : α) : Option (Nat → α) := if inB x n = true then some (updL f x.toNatClampNeg v) else none
theorem ldA_some {α : Type} {f : Nat → α} {n : Nat} {x : Int32} {v : α} (h : ldA f n x = some v) : vp_in x n ∧ f x.toNatClampNeg = v := by
  unfold ldA at h
  split at h
  · next q => exact ⟨inB_vp.mp q, Option.some.inj h⟩
  · cases h
theorem stA_some {α : Type} {f g : Nat → α} {n : Nat} {x : Int32} {v : α} (h : stA f n x v = some g) : vp_in x n ∧ updL f x.toNatClampNeg v = g := by
  unfold stA at h
  split at h
  · next q => exact ⟨inB_vp.mp q, Option.some.inj h⟩
  · cases h
def dvI (x y : Int32) : Option Int32 := if y = 0 then none else some (x / y)
def rmI (x y : Int32) : Option Int32 := if y = 0 then none else some (x - x / y * y)
def miI (x y : Int32) : Int32 := if y < x then y else x
def mxI (x y : Int32) : Int32 := if x < y then y else x
def ckZ (x : Int32) : Option Int32 := if narrow .boolean (.int x) = .int x then some x else none
def ckC (x : Int32) : Option Int32 := if narrow .char (.int x) = .int x then some x else none
def ckF (x : UInt32) : Option UInt32 := if x &&& 0x7fffffff ≤ 0x7f800000 then some x else none
def ckD (x : UInt64) : Option UInt64 := if x &&& 0x7fffffffffffffff ≤ 0x7ff0000000000000 then some x else none
/-- a copy of n values within two rows of z each -/
def cpA (z : Nat) (f g : Nat → Int32) (sp dp n : Int32) : Option (Nat → Int32) := if ¬ sp < 0 ∧ ¬ dp < 0 ∧ ¬ n < 0 ∧ sp.toNatClampNeg + n.toNatClampNeg ≤ z ∧ dp.toNatClampNeg + n.toNatClampNeg ≤ z ∧ (∀ i, i < n.toNatClampNeg → fits .char (.int (f (sp.toNatClampNeg + i))) = true) then some (va_cpy f g sp.toNatClampNeg dp.toNatClampNeg n.toNatClampNeg) else none
def exb {α β : Type} (v : Except String α) (ke : String → β) (k : α → β) : β := match v with
  | .error e => ke e
  | .ok x => k x
theorem xb {α β : Type} {o : Option α} {K : α → Option β} {r : β} {P : Prop} (hf : o.bind K = some r) (k : ∀ v, o = some v → K v = some r → P) : P := by
  cases o with
  | none => cases hf
  | some v => exact k v rfl hf
