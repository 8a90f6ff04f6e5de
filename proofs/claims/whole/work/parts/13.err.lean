/-! METHODS THAT THROW: what a throw needs of the state, its row, and the call of a method that throws. -/
def thS : List (String × Nat × String) := [(RX5, 55, "not 1 to 6 signs"), (RX5, 83, "a text can't be repeated less than 0 times"), (RX5, 91, "no such part"), (RX5, 98, "no text is turned by so much"), (RX5, 138, "not 0 to 1000 times"), (RX5, 152, "no such period"), (RX5, 176, "no such factor"), (RX5, 178, "no such end"), (RX5, 208, "no common root"), (RX5, 225, "an empty text has no root"), (RX5, 228, "an empty text has no period"), (RX5, 243, "no such slot"), (RX5, 248, "a sign's code is not 32 to 126"), (RX5, 254, "more than 60 signs"), (RX5, 257, "no such place"), (RX5, 259, "the text is empty"), (RX5, 261, "the set is not 0 to 63")]
def thE : List String := ["java/lang/IndexOutOfBoundsException", "java/lang/IllegalArgumentException", "java/lang/IllegalStateException", "java/lang/UnsupportedOperationException", "java/util/NoSuchElementException", "java/lang/ArithmeticException"]
def thP : List (String × String) := [("java/lang/IllegalArgumentException", "java/lang/IndexOutOfBoundsException"), ("java/lang/IllegalStateException", "java/lang/IndexOutOfBoundsException"), ("java/lang/IllegalStateException", "java/lang/IllegalArgumentException"), ("java/lang/UnsupportedOperationException", "java/lang/IndexOutOfBoundsException"), ("java/lang/IllegalStateException", "java/lang/UnsupportedOperationException"), ("java/util/NoSuchElementException", "java/lang/IndexOutOfBoundsException"), ("java/lang/ArithmeticException", "java/lang/IndexOutOfBoundsException")]
def thN : List String := ["java/lang/RuntimeException", "java/lang/Exception"]
def TH (A : Nat → Prop) (U : State) (H : Heap) : Prop := vx_Zq Bundle.tN "UNASSIGNED_STACK" Bundle.steD A U H ∧ vx_Zq Bundle.tN "SUPPRESSED_SENTINEL" Bundle.listD A U H ∧ (∀ q ∈ thS, ∃ sa : Nat, vk_R q.1 q.2.1 q.2.2 sa U) ∧ (∀ Y ∈ Bundle.tN :: thN, va_Nw (.declares (Bundle.initS Y)) U) ∧ (∀ Y ∈ thE, va_Nw (.castable Y Y) U) ∧ ∀ q ∈ thP, va_Nc q.1 q.2 U
theorem TH.pre {A : Nat → Prop} {s U : State} {H : Heap} {locs : List Loc} (h : TH A s s.heap) (hS : va_S A s.heap H locs) (hU : U.heap = H) (hW : s.WarmedH U.vm) : TH A U U.heap := by
  rw [hU]
  exact ⟨(h.1.kept hS.2.1).moved hW.alike, (h.2.1.kept hS.2.1).moved hW.alike, fun q hq => (h.2.2.1 q hq).imp fun _ k => k.warm hW, fun Y hY => va_Nw.warmD hW (h.2.2.2.1 Y hY), fun Y hY => va_Nw.warmC hW (h.2.2.2.2.1 Y hY), fun q hq => va_Nc.moved hW.alike (h.2.2.2.2.2 q hq)⟩
def IT (dd : va_G) (cy : Nat → ClassId) (A : Nat → Prop) (wl : va_W) (U : State) : Prop := IW dd cy A wl U ∧ TH A U U.heap
theorem IT.blind {dd : va_G} {cy : Nat → ClassId} {A : Nat → Prop} {wl : va_W} {As : List Value} : FrameBlind (va_Pc As (IT dd cy A wl)) := fun a U g mk q => by
  have hv : (U.calling g mk a).vm = U.vm := rfl
  have hh : (U.calling g mk a).heap = U.heap := rfl
  refine ⟨q.1, ⟨va_K.moved (u := U) (U := U.calling g mk a) (Vm.Alike.refl U.vm) q.2.1.1, q.2.1.2⟩, ?_⟩
  obtain ⟨h1, h2, h3, h4, h5, h6⟩ := q.2.2
  exact ⟨vx_Zq.moved (u := U) (U := U.calling g mk a) (Vm.Alike.refl U.vm) h1, vx_Zq.moved (u := U) (U := U.calling g mk a) (Vm.Alike.refl U.vm) h2, fun q hq => (h3 q hq).imp fun _ k => vk_R.same (u := U) (U := U.calling g mk a) rfl k, fun Y hY => va_tabs (u := U) (U := U.calling g mk a) rfl rfl (h4 Y hY), fun Y hY => va_tabs (u := U) (U := U.calling g mk a) rfl rfl (h5 Y hY), fun q hq => va_Nc.moved (u := U) (U := U.calling g mk a) (Vm.Alike.refl U.vm) (h6 q hq)⟩
def XE (dd : va_G) (cy : Nat → ClassId) (A : Nat → Prop) (E : String) (wl : va_W) : String → State → State → Prop := fun E' st t => E' = E ∧ IW dd cy A wl t ∧ va_F A st t
def thW (E : String) : List Cond := [.declares (Bundle.initS "java/lang/RuntimeException"), .declares (Bundle.initS "java/lang/Exception"), .declares (Bundle.initS Bundle.tN), .castable E E]
theorem thW_ok {A : Nat → Prop} {s : State} {args : Array Value} {E : String} (h : TH A s s.heap) (hE : E ∈ thE) : ∀ w ∈ thW E, w.before args s = true := by
  obtain ⟨-, -, -, h4, h5, -⟩ := h
  intro w hw
  simp only [thW, List.mem_cons, List.not_mem_nil, or_false] at hw
  rcases hw with rfl | rfl | rfl | rfl
  · exact va_any rfl (h4 "java/lang/RuntimeException" (by simp [thN]))
  · exact va_any rfl (h4 "java/lang/Exception" (by simp [thN]))
  · exact va_any rfl (h4 Bundle.tN (by simp))
  · exact va_any rfl (h5 E hE)
section XT
variable {p : Program} {l : Launch} {e : Env} {R : Room} {s : State} {m : MethodId} {args : Array Value} {below : List Frame} {meth : Method} {c : Code} {H : Heap} {locs : List Loc} {cells slots : Nat} {Q : State → Prop}
variable {cc : ByteArray} {pc : Nat} {ls : Array Slot} {rest st0 : List Value} {own C : String} {Ts : List Cond} {dd : va_G} {cy : Nat → ClassId} {A : Nat → Prop} {index : Nat} {a : Nat} {wl wl' : va_W}
theorem XW.post2 (X : XW dd cy A s wl H locs) (t : State) (hvm : s.vm.Alike t.vm) (hz : H.size ≤ t.heap.size) (hk : ∀ q : Nat, q < H.size → t.heap[q]? = H[q]?) : IW dd cy A wl t ∧ va_F A s t := by
  obtain ⟨hK, hP, hD, hA, hS⟩ := X
  refine ⟨⟨va_K.moved hvm hK, hP.kept (fun k q hq => hk q.1 (hP k q hq).lt), hD, fun q hq => hA q (Nat.le_trans hS.1 (Nat.le_trans hz hq))⟩, Nat.le_trans hS.1 hz, fun q h1 h2 => ?_⟩
  rw [hk q (Nat.lt_of_lt_of_le h1 hS.1)]
  exact hS.2.1 q h1 h2
theorem xt_throw (hx : p.tables.exec = Jvm.exec) (hb : c.code = cc) (htr : l.stackTraces = false) (hown : s.vm.findClass own = some m.cls) (hts : ∀ w ∈ Ts, w.before args s = true) (hT : TH A s s.heap) (X : XW dd cy A s wl H locs) {E text : String} {ik is ic : Nat} (hlink : Cond.classLink own ik E ∈ Ts) (hini : Cond.initialized E ∈ Ts) (hS : (own, is, text) ∈ thS) (hE : E ∈ thE) (hfit : Bundle.fit E = true) (hg : ∀ w ∈ (vx_atS own ic E thN).filter goodWord, w ∈ Ts) (hn : ∀ w ∈ (vx_atS own ic E thN).filter (fun w => !goodWord w), w ∈ thW E) (hot : (Cond.classLink own ik E :: Cond.initialized E :: vx_atS own ic E thN).all vx_ot = true) (hsize : ls.size = c.maxLocals) (d0 : decode cc pc = .ok (.new ik, 3)) (d3 : decode cc (pc + 3) = .ok (.dup, 1)) (d4 : decode cc (pc + 4) = .ok (.ldc is, 2)) (d6 : decode cc (pc + 6) = .ok (.invokespecial ic, 3)) (d9 : decode cc (pc + 9) = .ok (.athrow, 1)) (hexc : ∀ x ∈ c.exceptionTable.toList, False) (hRf : 5 < R.frames) (hRl : (rest.map fun v => v.category).sum + 82 ≤ R.locals) (hRc : 1 ≤ R.cells) (hRs : 6 ≤ R.slots) (hlocks : meth.locks = false) : W p l e R s m args below meth c H locs 0 0 (vx_MQ below (fun _ _ _ _ => False) (XE dd cy A E wl) args s 1 6 A) (F0 m pc ls rest) := by
  obtain ⟨sa, hsa⟩ := hT.2.2.1 _ hS
  exact vx_throwS hx hb htr hown hfit (by decide +kernel) (hts _ hlink) (hts _ hini) hsa (vx_hat (fun w hw => hts w (hg w hw)) hn (thW_ok hT hE)) (fun w hw => List.all_eq_true.mp hot w hw) hT.1 hT.2.1 X.2.2.2.2 hsize d0 d3 d4 d6 d9 (fun x hx => (hexc x hx).elim) hRf hRl (by rw [Nat.zero_add]; exact hRc) (by rw [Nat.zero_add]; exact hRs) hlocks (fun t hvm hz hk => ⟨rfl, X.post2 t hvm hz hk⟩) X.2.2.2.2.2.2 (Nat.le_refl 1) (Nat.le_refl 6)
theorem xt_throwW (hx : p.tables.exec = Jvm.exec) (hb : c.code = cc) (htr : l.stackTraces = false) (hown : s.vm.findClass own = some m.cls) (hts : ∀ w ∈ Ts, w.before args s = true) (hT : TH A s s.heap) (X : XW dd cy A s wl H locs) {E text : String} {ik is ic : Nat} (hlink : Cond.classLink own ik E ∈ Ts) (hini : Cond.initialized E ∈ Ts) (hS : (own, is, text) ∈ thS) (hE : E ∈ thE) (hfit : Bundle.fit E = true) (hg : ∀ w ∈ (vx_atS own ic E thN).filter goodWord, w ∈ Ts) (hn : ∀ w ∈ (vx_atS own ic E thN).filter (fun w => !goodWord w), w ∈ thW E) (hot : (Cond.classLink own ik E :: Cond.initialized E :: vx_atS own ic E thN).all vx_ot = true) (hsize : ls.size = c.maxLocals) (d0 : decode cc pc = .ok (.new ik, 3)) (d3 : decode cc (pc + 3) = .ok (.dup, 1)) (d4 : decode cc (pc + 4) = .ok (.ldc_w is, 3)) (d6 : decode cc (pc + 7) = .ok (.invokespecial ic, 3)) (d9 : decode cc (pc + 10) = .ok (.athrow, 1)) (hexc : ∀ x ∈ c.exceptionTable.toList, False) (hRf : 5 < R.frames) (hRl : (rest.map fun v => v.category).sum + 82 ≤ R.locals) (hRc : 1 ≤ R.cells) (hRs : 6 ≤ R.slots) (hlocks : meth.locks = false) : W p l e R s m args below meth c H locs 0 0 (vx_MQ below (fun _ _ _ _ => False) (XE dd cy A E wl) args s 1 6 A) (F0 m pc ls rest) := by
  obtain ⟨sa, hsa⟩ := hT.2.2.1 _ hS
  exact vx_throwSW hx hb htr hown hfit (by decide +kernel) (hts _ hlink) (hts _ hini) hsa (vx_hat (fun w hw => hts w (hg w hw)) hn (thW_ok hT hE)) (fun w hw => List.all_eq_true.mp hot w hw) hT.1 hT.2.1 X.2.2.2.2 hsize d0 d3 d4 d6 d9 (fun x hx => (hexc x hx).elim) hRf hRl (by rw [Nat.zero_add]; exact hRc) (by rw [Nat.zero_add]; exact hRs) hlocks (fun t hvm hz hk => ⟨rfl, X.post2 t hvm hz hk⟩) X.2.2.2.2.2.2 (Nat.le_refl 1) (Nat.le_refl 6)
theorem xt_call {E : String} (hr : vx_Run p l e R s m args below meth c H locs 0 0 1 6 (F0 m pc ls st0) rest (fun _ _ _ => False) (XE dd cy A E wl') A) (X : XW dd cy A s wl H locs) (hexc : ∀ x ∈ c.exceptionTable.toList, False) (hlocks : meth.locks = false) : W p l e R s m args below meth c H locs 0 0 (vx_MQ below (fun _ _ _ _ => False) (XE dd cy A E wl') args s 1 6 A) (F0 m pc ls st0) := by
  intro T hT Y
  rcases hr T hT Y with ⟨v, st₀, t, T', L, h0, X', hL, e1, e2, hF, st⟩ | ⟨q, st₀, t, T', L, E', ce, h0, X', hL, e1, e2, ⟨hE, hB, hF⟩, hce, hcv, hcl, st⟩
  · exact hF.elim
  · subst hE
    have hS := X.2.2.2.2
    obtain ⟨k1, k2, k3⟩ := vx_keep h0 e1 hS (fun q _ h => h) (fun q h => h) hL hF
    have Z := vx_out (Qc := fun _ _ _ _ => False) (XC := XE dd cy A E' wl') (args := args) (s := s) (below := below) (meth := meth) (c := c) (ls := ls) (rest := rest) (H := T'.heap) (locs := locs ++ L) (cells := 0 + 1) (slots := 0 + 6) (mc := 1) (ms := 6) (free := A) (p := p) (l := l) (e := e) (R := R) (m := m) (pc := pc) (q := q) (fun x hx => (hexc x hx).elim) hlocks (by rw [e1]; exact hce) hcv hcl
      (fun u hu hvm => ⟨rfl, ⟨va_K.moved hvm X.1, by rw [hu, e1]; exact hB.2.1, hB.2.2.1, fun z hz => X.2.2.2.1 z (Nat.le_trans k3.1 (by rw [← hu]; exact hz))⟩, by rw [hu]; exact k3.1, fun z h1 h2 => by rw [hu]; exact k3.2.1 z h1 h2⟩) k3.2.2 (Nat.le_refl 1) (Nat.le_refl 6)
    obtain ⟨t2, a1, b1⟩ := Z T' rfl X'
    exact ⟨t2, st.trans a1, b1⟩
variable {y : MethodName} {bytes : ByteArray} {maxL nL n : Nat} {ret : Option FieldType} {ws : List Cond} {rm : Room} {b : Nat} {As : List Value} {v : Value}
theorem xt_V {E : String} (S : CallFix p m c cc nL s args Ts own) (hM : vx_Met l y ws rm (va_Pc (.ref b :: As) (IT dd cy A wl)) (fun _ _ _ _ => False) (XE dd cy A E wl') 1 6 A) (cw : CallW R s args own C index y bytes maxL ret ws rm 1 6 n) (X : XW dd cy A s wl H locs) (hT : TH A s s.heap) (hrecv : ∃ cell : Cell, H[b]? = some cell ∧ cell.vm.isStatics = false ∧ s.vm.findClass C = some cell.cls) (hn : As.length = n) (hsize : ls.size = nL) (hst : st0 = As.reverse ++ .ref b :: rest) (hW : (rest.map fun v => v.category).sum ≤ 8) (hdg : decode cc pc = .ok (.invokevirtual index, 3)) (hR : 1 ≤ R.cells ∧ 6 ≤ R.slots) (hexc : ∀ x ∈ c.exceptionTable.toList, False) (hlocks : meth.locks = false) : W p l e R s m args below meth c H locs 0 0 (vx_MQ below (fun _ _ _ _ => False) (XE dd cy A E wl') args s 1 6 A) (F0 m pc ls st0) :=
  xt_call (vx_runV S hM cw ⟨IT.blind, hrecv, fun U hU hW => ⟨rfl, X.pre U hU hW, hT.pre X.2.2.2.2 hU hW⟩⟩ rfl hn hsize hst (lv_room hW) hdg ⟨by rw [Nat.zero_add]; exact hR.1, by rw [Nat.zero_add]; exact hR.2⟩) X hexc hlocks
theorem xt_S {E : String} (S : CallFix p m c cc nL s args Ts own) (hM : vx_Met l y ws rm (va_Pc As (IT dd cy A wl)) (fun _ _ _ _ => False) (XE dd cy A E wl') 1 6 A) (cw : CallB R s args own index y bytes maxL ret ws rm 1 6 n ∧ (Cond.static y).before args s = true) (X : XW dd cy A s wl H locs) (hT : TH A s s.heap) (hn : As.length = n) (hsize : ls.size = nL) (hst : st0 = As.reverse ++ rest) (hW : (rest.map fun v => v.category).sum ≤ 8) (hdg : decode cc pc = .ok (.invokestatic index, 3)) (hR : 1 ≤ R.cells ∧ 6 ≤ R.slots) (hexc : ∀ x ∈ c.exceptionTable.toList, False) (hlocks : meth.locks = false) : W p l e R s m args below meth c H locs 0 0 (vx_MQ below (fun _ _ _ _ => False) (XE dd cy A E wl') args s 1 6 A) (F0 m pc ls st0) :=
  xt_call (vx_runS S hM cw ⟨IT.blind, fun U hU hW => ⟨rfl, X.pre U hU hW, hT.pre X.2.2.2.2 hU hW⟩⟩ rfl hn hsize hst (lv_room hW) hdg ⟨by rw [Nat.zero_add]; exact hR.1, by rw [Nat.zero_add]; exact hR.2⟩) X hexc hlocks
theorem xt_p0 {own : String} {E : String} {pc : Nat} : ∀ z ∈ ([] : List ExceptionTableEntry), covers z pc = false ∨ (z.catchType ≠ 0 ∧ ∃ nm : String, (Cond.classLink own z.catchType nm).before args s = true ∧ va_Nc E nm s) := fun _ h => nomatch h
theorem xt_p1 {own E nm : String} {pc : Nat} {z0 : ExceptionTableEntry} {zs : List ExceptionTableEntry} (hts : ∀ w ∈ Ts, w.before args s = true) (hT : TH A s s.heap) (h0 : z0.catchType ≠ 0) (hl : Cond.classLink own z0.catchType nm ∈ Ts) (hp : (E, nm) ∈ thP) (t : ∀ z ∈ zs, covers z pc = false ∨ (z.catchType ≠ 0 ∧ ∃ nm : String, (Cond.classLink own z.catchType nm).before args s = true ∧ va_Nc E nm s)) : ∀ z ∈ z0 :: zs, covers z pc = false ∨ (z.catchType ≠ 0 ∧ ∃ nm : String, (Cond.classLink own z.catchType nm).before args s = true ∧ va_Nc E nm s) := fun z h => by
  rcases List.mem_cons.mp h with rfl | h
  · exact Or.inr ⟨h0, nm, hts _ hl, hT.2.2.2.2.2 _ hp⟩
  · exact t z h
theorem xt_catch {E : String} {Qa : Array Value → State → Outcome → State → Prop} {aa : Array Value} (hr : vx_Run p l e R s m args below meth c H locs 0 0 1 6 (F0 m pc ls st0) rest (fun _ _ _ => False) (XE dd cy A E wl') A) (hts : ∀ w ∈ Ts, w.before args s = true) (hown : s.vm.findClass own = some m.cls) (X : XW dd cy A s wl H locs) (hT : TH A s s.heap) (pre : List ExceptionTableEntry) (x : ExceptionTableEntry) (suf : List ExceptionTableEntry) (hsplit : c.exceptionTable.toList = pre ++ x :: suf) (hpass : ∀ z ∈ pre, covers z pc = false ∨ (z.catchType ≠ 0 ∧ ∃ nm : String, (Cond.classLink own z.catchType nm).before args s = true ∧ va_Nc E nm s)) (hx : covers x pc = true) (h0 : x.catchType ≠ 0) (hlink : Cond.classLink own x.catchType E ∈ Ts) (hE : E ∈ thE) (kk : ∀ (q9 : Nat) (H1 : Heap) (locs1 : List Loc), XW dd cy A s wl' H1 locs1 → W p l e R s m args below meth c H1 locs1 1 6 Q (F0 m x.handlerPc ls [.ref q9])) : W p l e R s m args below meth c H locs 0 0 Q (F0 m pc ls st0) := by
  intro T hT2 Y
  rcases hr T hT2 Y with ⟨v, st₀, t, T', L, h0, X', hL, e1, e2, hF, st⟩ | ⟨q, st₀, t, T', L, E', ce, h0', X', hL, e1, e2, ⟨hE', hB, hF⟩, hce, hcv, hcl, st⟩
  · exact hF.elim
  · subst hE'
    have hS := X.2.2.2.2
    obtain ⟨k1, k2, k3⟩ := vx_keep h0' e1 hS (fun q _ h => h) (fun q h => h) hL hF
    have Z := kk q T'.heap (locs ++ L) (X.next (t := t) e1.symm hB k3)
    obtain ⟨t2, a1, b1⟩ := vx_catch (rest := rest) hown pre x suf hsplit hpass hx h0 (hts _ hlink) (va_any rfl (hT.2.2.2.2.1 _ hE)) (by rw [e1]; exact hce) hcv hcl Z T' rfl X'
    exact ⟨t2, st.trans a1, b1⟩
theorem xt_VC {E : String} (S : CallFix p m c cc nL s args Ts own) (hM : vx_Met l y ws rm (va_Pc (.ref b :: As) (IT dd cy A wl)) (fun _ _ _ _ => False) (XE dd cy A E wl') 1 6 A) (cw : CallW R s args own C index y bytes maxL ret ws rm 1 6 n) (X : XW dd cy A s wl H locs) (hT : TH A s s.heap) (hrecv : ∃ cell : Cell, H[b]? = some cell ∧ cell.vm.isStatics = false ∧ s.vm.findClass C = some cell.cls) (hn : As.length = n) (hsize : ls.size = nL) (hst : st0 = As.reverse ++ .ref b :: rest) (hW : (rest.map fun v => v.category).sum ≤ 8) (hdg : decode cc pc = .ok (.invokevirtual index, 3)) (hR : 1 ≤ R.cells ∧ 6 ≤ R.slots) (pre : List ExceptionTableEntry) (x : ExceptionTableEntry) (suf : List ExceptionTableEntry) (hsplit : c.exceptionTable.toList = pre ++ x :: suf) (hpass : ∀ z ∈ pre, covers z pc = false ∨ (z.catchType ≠ 0 ∧ ∃ nm : String, (Cond.classLink own z.catchType nm).before args s = true ∧ va_Nc E nm s)) (hx : covers x pc = true) (h0 : x.catchType ≠ 0) (hlink : Cond.classLink own x.catchType E ∈ Ts) (hE : E ∈ thE) (kk : ∀ (q9 : Nat) (H1 : Heap) (locs1 : List Loc), XW dd cy A s wl' H1 locs1 → W p l e R s m args below meth c H1 locs1 1 6 Q (F0 m x.handlerPc ls [.ref q9])) : W p l e R s m args below meth c H locs 0 0 Q (F0 m pc ls st0) :=
  xt_catch (Qa := fun _ _ _ _ => False) (aa := #[]) (vx_runV S hM cw ⟨IT.blind, hrecv, fun U hU hW => ⟨rfl, X.pre U hU hW, hT.pre X.2.2.2.2 hU hW⟩⟩ rfl hn hsize hst (lv_room hW) hdg ⟨by rw [Nat.zero_add]; exact hR.1, by rw [Nat.zero_add]; exact hR.2⟩) S.2.2.2.2 S.2.2.2.1 X hT pre x suf hsplit hpass hx h0 hlink hE kk
theorem xe_i6 {x : Int32} (hx : p.tables.exec = Jvm.exec) (hb : c.code = cc) (hr : meth.sig.returnType = some .int) (hlocks : meth.locks = false) (X : XW dd cy A s wl H locs) (hdg : decode cc pc = .ok (.ireturn, 1)) : W p l e R s m args below meth c H locs 1 6 (MQ below (QX dd cy A (some (.int x)) wl) args s 1 6 A) (F0 m pc ls [.int x]) :=
  W.iret hx hb hr (fun t ht hW => ⟨⟨rfl, X.post t ht hW.alike⟩, X.2.2.2.2.F ht⟩) X.2.2.2.2.2.2 hdg hlocks
theorem xr_str {α : Type} {P : Prop} {e9 E : String} {Y Z : Option α} {r : α} (hf : (if e9 = E then Y else Z) = some r) (k1 : e9 = E → Y = some r → P) (k2 : Z = some r → P) : P := by
  by_cases h : e9 = E
  · rw [if_pos h] at hf; exact k1 h hf
  · rw [if_neg h] at hf; exact k2 hf
end XT
theorem fX5_textOf_lt {x : Int32} {k : Nat} (h : fX5_textOf x = some (.ok k)) : k < 7 := by
  unfold fX5_textOf at h
  split at h
  · cases h
  · split at h
    · refine xb h (fun v hv hf => ?_)
      obtain ⟨h1, h2⟩ := ldA_some hv
      cases hf
      have := vp_in_iff.mp h1
      have h3 : x.toNatClampNeg = k := h2
      rw [← h3, Int32.toNatClampNeg]
      omega
    · cases h
theorem th_hn_154 : ∀ w ∈ (vx_atS RX5 154 "java/util/NoSuchElementException" thN).filter (fun w => !goodWord w), w ∈ thW "java/util/NoSuchElementException" := by decide +kernel
theorem th_hot_150_154 : (Cond.classLink RX5 150 "java/util/NoSuchElementException" :: Cond.initialized "java/util/NoSuchElementException" :: vx_atS RX5 154 "java/util/NoSuchElementException" thN).all vx_ot = true := by decide +kernel
theorem th_hn_210 : ∀ w ∈ (vx_atS RX5 210 "java/lang/UnsupportedOperationException" thN).filter (fun w => !goodWord w), w ∈ thW "java/lang/UnsupportedOperationException" := by decide +kernel
theorem th_hot_206_210 : (Cond.classLink RX5 206 "java/lang/UnsupportedOperationException" :: Cond.initialized "java/lang/UnsupportedOperationException" :: vx_atS RX5 210 "java/lang/UnsupportedOperationException" thN).all vx_ot = true := by decide +kernel
theorem th_hn_227 : ∀ w ∈ (vx_atS RX5 227 "java/lang/ArithmeticException" thN).filter (fun w => !goodWord w), w ∈ thW "java/lang/ArithmeticException" := by decide +kernel
theorem th_hot_223_227 : (Cond.classLink RX5 223 "java/lang/ArithmeticException" :: Cond.initialized "java/lang/ArithmeticException" :: vx_atS RX5 227 "java/lang/ArithmeticException" thN).all vx_ot = true := by decide +kernel
theorem th_hn_256 : ∀ w ∈ (vx_atS RX5 256 "java/lang/IllegalStateException" thN).filter (fun w => !goodWord w), w ∈ thW "java/lang/IllegalStateException" := by decide +kernel
theorem th_hot_252_256 : (Cond.classLink RX5 252 "java/lang/IllegalStateException" :: Cond.initialized "java/lang/IllegalStateException" :: vx_atS RX5 256 "java/lang/IllegalStateException" thN).all vx_ot = true := by decide +kernel
theorem th_hn_57 : ∀ w ∈ (vx_atS RX5 57 "java/lang/IllegalArgumentException" thN).filter (fun w => !goodWord w), w ∈ thW "java/lang/IllegalArgumentException" := by decide +kernel
theorem th_hot_53_57 : (Cond.classLink RX5 53 "java/lang/IllegalArgumentException" :: Cond.initialized "java/lang/IllegalArgumentException" :: vx_atS RX5 57 "java/lang/IllegalArgumentException" thN).all vx_ot = true := by decide +kernel
theorem th_hn_93 : ∀ w ∈ (vx_atS RX5 93 "java/lang/IndexOutOfBoundsException" thN).filter (fun w => !goodWord w), w ∈ thW "java/lang/IndexOutOfBoundsException" := by decide +kernel
theorem th_hot_89_93 : (Cond.classLink RX5 89 "java/lang/IndexOutOfBoundsException" :: Cond.initialized "java/lang/IndexOutOfBoundsException" :: vx_atS RX5 93 "java/lang/IndexOutOfBoundsException" thN).all vx_ot = true := by decide +kernel
