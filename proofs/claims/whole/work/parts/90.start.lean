/-! THE ENTRY: classes, array classes, what a throw needs. -/
set_option maxRecDepth 100000 in
theorem th_words : (∀ q ∈ thS, Cond.stringRef q.1 q.2.1 q.2.2 ∈ lw_tbl) ∧ (∀ Y ∈ Bundle.tN :: thN, Cond.declares (Bundle.initS Y) ∈ lw_tbl) ∧ (∀ Y ∈ thE, Cond.castable Y Y ∈ lw_tbl) := ⟨by decide +kernel, by decide +kernel, by decide +kernel⟩
set_option maxRecDepth 100000 in
theorem th_zq : (Cond.laysStatic Bundle.tN "UNASSIGNED_STACK" Bundle.steD ∈ lw_tbl) ∧ (Cond.laysStatic Bundle.tN "SUPPRESSED_SENTINEL" Bundle.listD ∈ lw_tbl) ∧ (Cond.initialized Bundle.tN ∈ lw_tbl) := ⟨by decide +kernel, by decide +kernel, by decide +kernel⟩
set_option maxRecDepth 100000 in
theorem th_start {b : Nat} {s : State} (hts : ∀ w ∈ lw_tbl, w.before #[Value.ref b] s = true) (hgv : (Jvm.Cond.and given_1 narrow_1).before #[Value.ref b] s = true) : TH (LA s) s s.heap := by
  have hg := flat_of_before _ hgv
  have hA : ∀ a : Nat, a < s.heap.size → ¬ LA s a := fun a h => Nat.not_le.mpr h
  obtain ⟨t1, t2, t3⟩ := th_words
  obtain ⟨z1, z2, z3⟩ := th_zq
  refine ⟨vx_Zqof (hts _ z1) (hts _ z3) (hg _ (by decide +kernel)) hA, vx_Zqof (hts _ z2) (hts _ z3) (hg _ (by decide +kernel)) hA, fun q hq => ?_, fun Y hY => va_Nw.of rfl (hts _ (t2 Y hY)), fun Y hY => va_Nw.of rfl (hts _ (t3 Y hY)), fun q hq => ?_⟩
  · have h1 : ∀ q ∈ thS, (Cond.exactly (.string q.1 q.2.1) "java/lang/String").before #[Value.ref b] s = true := by
      intro q hq
      refine hg _ ?_
      revert hq
      revert q
      decide +kernel
    obtain ⟨a, -, -, -, h2, -⟩ := Cond.exactly_spec (h1 q hq)
    exact ⟨a, vk_R.of (hts _ (t1 q hq)) h2⟩
  · have h1 : ∀ q ∈ thP, (Cond.not (.castable q.1 q.2)).before #[Value.ref b] s = true := by
      intro q hq
      refine hg _ ?_
      revert hq
      revert q
      decide +kernel
    exact va_Nc.of (h1 q hq)
theorem ar_known {args : Array Value} {s : State} {ty : FieldType} (h : (Cond.arrayClass ty).before args s = true) : ∃ cA : ClassId, ArrOfT s cA ty ∧ s.vm.findClass ("[" ++ ty.toString) = some cA := by
  obtain ⟨cA, kA, comp, h1, h2, h3⟩ := Cond.arrayClass_spec h
  exact ⟨cA, fun n z => ⟨fun k h => (by cases h), kA, h2, comp, h3⟩, h1⟩
theorem ar_over {args : Array Value} {s : State} {C : String} (h : (Cond.arrayOver (.object C)).before args s = true) : ∃ cA : ClassId, ArrOfT s cA (.object C) ∧ va_RA s cA (.object C) := by
  obtain ⟨comp, cA, kA, h1, -, h2, h3, h4⟩ := Cond.arrayOver_spec h
  exact ⟨cA, fun n z => ⟨fun k h => (by cases h), kA, h2, comp, h3⟩, kA, comp, h2, h3, h1, h4⟩
set_option maxRecDepth 100000 in
theorem k_words : Cond.instantiable RX4 2 ∈ lw_tbl ∧ Cond.instantiable RX5 4 ∈ lw_tbl ∧ Cond.instantiable RX0 2 ∈ lw_tbl ∧ Cond.instantiable RX2 5 ∈ lw_tbl ∧ Cond.instantiable RX6 5 ∈ lw_tbl ∧ Cond.arrayClass .char ∈ lw_tbl ∧ Cond.arrayClass .int ∈ lw_tbl ∧ Cond.arrayClass .long ∈ lw_tbl ∧ Cond.arrayClass .boolean ∈ lw_tbl ∧ Cond.arrayOver (.object RX4) ∈ lw_tbl ∧ Cond.arrayClass .double ∈ lw_tbl := by decide +kernel
theorem k_start {args : Array Value} {s : State} (hts : ∀ w ∈ lw_tbl, w.before args s = true) : ∃ (dd : va_G) (cy : Nat → ClassId), va_K dd clA (tyA cy) s := by
  obtain ⟨w1, w2, w3, w4, w5, a0, a1, a2, a3, a4, a5⟩ := k_words
  obtain ⟨c0, iS0, k0⟩ := u_known (C := RX4) (T := TX4) (N := 2) (n := 2) hts inX4 (hts _ w1)
  obtain ⟨c1, iS1, k1⟩ := u_known (C := RX5) (T := TX5) (N := 4) (n := 4) hts inX5 (hts _ w2)
  obtain ⟨c2, iS2, k2⟩ := u_known (C := RX0) (T := TX0) (N := 2) (n := 2) hts inX0 (hts _ w3)
  obtain ⟨c3, iS3, k3⟩ := u_known (C := RX2) (T := TX2) (N := 5) (n := 5) hts inX2 (hts _ w4)
  obtain ⟨c4, iS4, k4⟩ := u_known (C := RX6) (T := TX6) (N := 5) (n := 5) hts inX6 (hts _ w5)
  obtain ⟨y0, r0, q0⟩ := ar_known (hts _ a0)
  obtain ⟨y1, r1, q1⟩ := ar_known (hts _ a1)
  obtain ⟨y2, r2, q2⟩ := ar_known (hts _ a2)
  obtain ⟨y3, r3, q3⟩ := ar_known (hts _ a3)
  obtain ⟨y4, r4, q4⟩ := ar_over (hts _ a4)
  obtain ⟨y5, r5, q5⟩ := ar_known (hts _ a5)
  refine ⟨(fun k => match k with | 0 => c0 | 1 => c1 | 2 => c2 | 3 => c3 | _ => c4, fun k => match k with | 0 => iS0 | 1 => iS1 | 2 => iS2 | 3 => iS3 | _ => iS4), fun k => match k with | 0 => y0 | 1 => y1 | 2 => y2 | 3 => y3 | 4 => y4 | _ => y5, fun k q hq => ?_, fun k q hq => ?_⟩
  · match k, hq with
    | 0, hq => cases hq; exact k0
    | 1, hq => cases hq; exact k1
    | 2, hq => cases hq; exact k2
    | 3, hq => cases hq; exact k3
    | 4, hq => cases hq; exact k4
    | k + 5, hq => simp [clA] at hq
  · match k, hq with
    | 0, hq => cases hq; exact ⟨r0, q0⟩
    | 1, hq => cases hq; exact ⟨r1, q1⟩
    | 2, hq => cases hq; exact ⟨r2, q2⟩
    | 3, hq => cases hq; exact ⟨r3, q3⟩
    | 4, hq => cases hq; exact ⟨r4, q4⟩
    | 5, hq => cases hq; exact ⟨r5, q5⟩
    | k + 6, hq => simp [tyA] at hq
set_option maxRecDepth 100000 in
theorem nw_words : Cond.arrayOver (.object RX4) ∈ lw_tbl ∧ Cond.methodLinkNest RX5 15 yX4_init RX5 ∈ lw_tbl ∧ Cond.methodLinkNest RX5 22 yX0_init RX5 ∈ lw_tbl ∧ Cond.methodLinkNest RX5 29 yX2_init RX5 ∈ lw_tbl := by decide +kernel
theorem nw_start {args : Array Value} {s : State} (hts : ∀ w ∈ lw_tbl, w.before args s = true) : NW s := by
  obtain ⟨a, b, c, d⟩ := nw_words
  exact ⟨va_AO.of (A := args) (hts _ a), va_Nw.of rfl (hts _ b), va_Nw.of rfl (hts _ c), va_Nw.of rfl (hts _ d)⟩
set_option maxRecDepth 100000 in
theorem lw_words : Cond.classLink RL 8 RX5 ∈ lw_tbl ∧ Cond.initialized RX5 ∈ lw_tbl ∧ Cond.classLink RL 158 RX6 ∈ lw_tbl ∧ Cond.initialized RX6 ∈ lw_tbl ∧ Cond.methodLink RL 157 yX5_init ∈ lw_tbl ∧ Cond.instanceMethod yX5_init ∈ lw_tbl ∧ Cond.methodLink RL 160 yX6_init ∈ lw_tbl ∧ Cond.instanceMethod yX6_init ∈ lw_tbl := by decide +kernel
theorem st_traces {l : Launch} (h : l.flags = flags0) : l.stackTraces = false := by
  unfold Launch.stackTraces
  rw [h]
  decide +kernel
/-- the addresses of the class's side -/
def adE (u : Nat → Nat) (x y : Nat) : Nat → Nat := fun k => if k < 24 then u k else if k = 24 then x else y
def bdE (r0 r1 r2 r3 r4 : Nat) : Nat → Nat := fun k => match k with | 0 => r0 | 1 => r1 | 2 => r2 | 3 => r3 | _ => r4
theorem wlC_list {ad : Nat → Nat} {cy : Nat → ClassId} : wlC ad cy (fun _ => 0) (fun _ _ => 0) (fun _ => 0) (fun _ => 0) (fun _ => 0) (fun _ => 0) (fun _ => 0) (fun _ => 0) 0 (fun _ => 0) (fun _ => 0) = wlI ad cy (fun k => some (ad k)) ++ [(ad 24, .inl (cy 2, 1, .inr (.inl fun _ => 0))), (ad 25, .inl (cy 5, 1, .inr (.inr (.inr (.inl fun _ => 0)))))] := rfl
theorem wlR_list {bd : Nat → Nat} {cy : Nat → ClassId} : wlR bd cy 0 (fun _ => 0) (fun _ => 0) (fun _ => 0) (fun _ => 0) = [(bd 0, .inr (4, [.int 0, .ref (bd 1), .ref (bd 2), .ref (bd 3), .ref (bd 4)])), (bd 1, .inl (cy 1, 900, .inl fun _ => 0)), (bd 2, .inl (cy 1, 6, .inl fun _ => 0)), (bd 3, .inl (cy 2, 121, .inr (.inl fun _ => 0))), (bd 4, .inl (cy 3, 360, .inl fun _ => 0))] := rfl
theorem wlI_E {u : Nat → Nat} {x y : Nat} {cy : Nat → ClassId} {f : Nat → Option Nat} : wlI (adE u x y) cy f = wlI u cy f := rfl
