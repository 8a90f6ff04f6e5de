/-! THE LAW'S OWN STRETCHES, each once: an int of the script is read; what a call is held against. -/
abbrev LA (s : State) : Nat → Prop := fun q => s.heap.size ≤ q
abbrev LV (b : Nat) (ad bd : Nat → Nat) (i : Int32) : List (Nat × Value) := [(0, .ref b), (1, .ref (ad 14)), (2, .ref (bd 0)), (3, .ref (ad 24)), (4, .ref (ad 25)), (5, .int i)]
theorem lg_cmp_same (x : Int64) : lg_cmp x x = 0 := by
  unfold lg_cmp
  rw [if_neg (show ¬ x > x by rw [gt_iff_lt, Int64.lt_iff_toInt_lt]; omega), if_pos rfl]
theorem vp_in_0 {n : Nat} (h : 0 < n) : vp_in (0 : Int32) n := by
  rw [vp_in_iff]
  exact ⟨by decide, by rw [show (0 : Int32).toInt = 0 from by decide]; omega⟩
theorem ckD_nn {x w : UInt64} (h : ckD x = some w) : x = w ∧ vf_n64 x ∧ FP.dIsNaN x = false := by
  unfold ckD at h
  split at h
  · next q =>
    refine ⟨Option.some.inj h, q, ?_⟩
    cases e : FP.dIsNaN x with
    | false => rfl
    | true =>
      have h3 : 9218868437227405312 < x.toNat % 2 ^ 63 := (FP.Core.isNaN_bits x).mp e
      rw [UInt64.le_iff_toNat_le, UInt64.toNat_and, show (0x7fffffffffffffff : UInt64).toNat = 2 ^ 63 - 1 from rfl, Nat.and_two_pow_sub_one_eq_mod] at q
      have h4 : x.toNat % 2 ^ 63 ≤ 9218868437227405312 := q
      omega
  · cases h
section LT
variable {p : Program} {l : Launch} {e : Env} {s : State} {m : MethodId} {args : Array Value} {below : List Frame} {meth : Method} {c : Code} {H : Heap} {locs : List Loc} {cells slots : Nat} {Q : State → Prop}
variable {cc : ByteArray} {pc : Nat} {ls : Array Slot} {rest : List Value} {Ts : List Cond} {dd : va_G} {cy : Nat → ClassId} {ad bd : Nat → Nat} {b L : Nat} {xs : Nat → Int32} {w1 w2 : va_W}
variable {ts : Nat → Int32} {tc : Nat → Nat → Int32} {rk pl : Nat → Int32} {ru : Nat → Int64} {sl bg : Nat → Int32} {kn : Nat → Int64} {rm : Int32} {ol : Nat → Int64} {od : Nat → UInt64} {th : Int32} {ce sz : Nat → Int32} {wy : Nat → Int64} {op : Nat → Int32}
theorem ll_ld (hx : p.tables.exec = Jvm.exec) (hb : c.code = cc) (hX : va_X b L xs s s.heap) (hbl : b < s.heap.size) (hS : va_S (LA s) s.heap H locs) {i : Int32} (g0 : ls[0]? = some (.val (.ref b))) (g5 : ls[5]? = some (.val (.int i))) (k : Nat) {n : Int} {x : Int32} (hk : Int32.ofInt n = nI k) (hin : vp_in (i + nI k) L) (hxk : xs (i + nI k).toNatClampNeg = x) (d0 : decode cc pc = .ok (.aload_n 0, 1)) (d1 : decode cc (pc + 1) = .ok (.iload 5, 2)) (d3 : decode cc (pc + 3) = .ok (.iconst n, 1)) (d4 : decode cc (pc + 4) = .ok (.iadd, 1)) (d5 : decode cc (pc + 5) = .ok (.iaload, 1)) (kk : W p l e room_1 s m args below meth c H locs cells slots Q (F0 m (pc + 6) ls (.int x :: rest))) : W p l e room_1 s m args below meth c H locs cells slots Q (F0 m pc ls rest) := by
  subst hxk
  refine lv_aload_n hx hb d0 rfl g0 ?_
  refine lv_iload hx hb d1 g5 ?_
  refine lv_iconst (v := nI k) hx hb d3 hk ?_
  refine lv_iadd hx hb d4 ?_
  exact va_sld hx hb hX hbl (Nat.not_le.mpr hbl) hS hin d5 kk
theorem ll_ldb (hx : p.tables.exec = Jvm.exec) (hb : c.code = cc) (hX : va_X b L xs s s.heap) (hbl : b < s.heap.size) (hS : va_S (LA s) s.heap H locs) {i : Int32} (g0 : ls[0]? = some (.val (.ref b))) (g5 : ls[5]? = some (.val (.int i))) (k : Nat) {n : Int} {x : Int32} (hk : (Int8.ofInt n).toInt32 = nI k) (hin : vp_in (i + nI k) L) (hxk : xs (i + nI k).toNatClampNeg = x) (d0 : decode cc pc = .ok (.aload_n 0, 1)) (d1 : decode cc (pc + 1) = .ok (.iload 5, 2)) (d3 : decode cc (pc + 3) = .ok (.bipush n, 2)) (d4 : decode cc (pc + 5) = .ok (.iadd, 1)) (d5 : decode cc (pc + 6) = .ok (.iaload, 1)) (kk : W p l e room_1 s m args below meth c H locs cells slots Q (F0 m (pc + 7) ls (.int x :: rest))) : W p l e room_1 s m args below meth c H locs cells slots Q (F0 m pc ls rest) := by
  subst hxk
  refine lv_aload_n hx hb d0 rfl g0 ?_
  refine lv_iload hx hb d1 g5 ?_
  refine lv_bipush (v := nI k) hx hb d3 hk ?_
  refine lv_iadd hx hb d4 ?_
  exact va_sld hx hb hX hbl (Nat.not_le.mpr hbl) hS hin d5 kk
theorem ll_bool (hx : p.tables.exec = Jvm.exec) (hb : c.code = cc) {y x : Int32} (hxy : (if y = 0 then (0 : Int32) else 1) = x) (d0 : decode cc pc = .ok (.ifCond .eq 7, 3)) (d3 : decode cc (pc + 3) = .ok (.iconst 1, 1)) (d4 : decode cc (pc + 4) = .ok (.goto 4, 3)) (d7 : decode cc (pc + 7) = .ok (.iconst 0, 1)) (kk : W p l e room_1 s m args below meth c H locs cells slots Q (F0 m (pc + 8) ls (.int x :: rest))) : W p l e room_1 s m args below meth c H locs cells slots Q (F0 m pc ls (.int y :: rest)) := by
  refine lv_if_eq (tgt := pc + 7) hx hb d0 (by omega) (fun h => ?_) (fun h => ?_)
  · rw [if_pos h] at hxy
    subst hxy
    exact lv_iconst (v := 0) hx hb d7 rfl kk
  · rw [if_neg h] at hxy
    subst hxy
    refine lv_iconst (v := 1) hx hb d3 rfl ?_
    exact lv_goto (tgt := pc + 8) hx hb d4 (by omega) kk
theorem ll_thr (S : CallFix p m c cc 9 s args Ts RL) (G : GoodIn Ts (wsV RL 167 RX6 yX6_thrown wsX6_thrown)) (X : XW dd cy (LA s) s (w1 ++ wlR bd cy th ce sz wy op) H locs) (g2 : ls[2]? = some (.val (.ref (bd 0)))) (g6 : ls[6]? = some (.val (.int th))) (hz : ls.size = 9) (hR : cells ≤ room_1.cells ∧ slots ≤ room_1.slots) (d0 : decode cc pc = .ok (.aload_n 2, 1)) (d1 : decode cc (pc + 1) = .ok (.invokevirtual 167, 3)) (d4 : decode cc (pc + 4) = .ok (.iload 6, 2)) (d6 : decode cc (pc + 6) = .ok (.if_icmp .eq 5, 3)) (kk : ∀ (H1 : Heap) (locs1 : List Loc), XW dd cy (LA s) s (w1 ++ wlR bd cy th ce sz wy op) H1 locs1 → W p l e room_1 s m args below meth c H1 locs1 cells slots Q (F0 m (pc + 11) ls [])) : W p l e room_1 s m args below meth c H locs cells slots Q (F0 m pc ls []) := by
  refine lv_aload_n S.1 S.2.1 d0 rfl g2 ?_
  refine xf_V (As := []) (rest := []) S (mX6_thrown rfl) (cwV 0 S.2.2.2.2 G rfl rfl rfl hqX6_thrown ⟨Nat.le_of_ble_eq_true rfl, Nat.le_of_ble_eq_true rfl⟩) X.swap (va_recv X.swap.1 X.swap.2.1 (ci := 4) (q0 := 0) rfl (ap_l wlR_0)) rfl hz rfl (Nat.le_of_ble_eq_true rfl) d1 hR (fun H1 locs1 X1 => ?_)
  refine lv_iload S.1 S.2.1 d4 g6 ?_
  exact lv_icmp_eq (tgt := pc + 11) S.1 S.2.1 d6 (by omega) (fun _ => kk _ _ X1.swap) (fun h => absurd rfl h)
theorem ll_endI (hx : p.tables.exec = Jvm.exec) (hb : c.code = cc) {k v : Int32} {off : Int} (X : XW dd cy (LA s) s (wlC ad cy ts tc rk pl ru sl bg kn rm ol od ++ w2) H locs) (hk : k = 0 → ol 0 = v.toInt64) (g3 : ls[3]? = some (.val (.ref (ad 24)))) (g6 : ls[6]? = some (.val (.int k))) (g7 : ls[7]? = some (.val (.int v))) (d0 : decode cc pc = .ok (.iload 6, 2)) (d2 : decode cc (pc + 2) = .ok (.ifCond .ne 15, 3)) (d5 : decode cc (pc + 5) = .ok (.aload_n 3, 1)) (d6 : decode cc (pc + 6) = .ok (.iconst 0, 1)) (d7 : decode cc (pc + 7) = .ok (.laload, 1)) (d8 : decode cc (pc + 8) = .ok (.iload 7, 2)) (d10 : decode cc (pc + 10) = .ok (.i2l, 1)) (d11 : decode cc (pc + 11) = .ok (.lcmp, 1)) (d12 : decode cc (pc + 12) = .ok (.ifCond .eq 5, 3)) (d17 : decode cc (pc + 17) = .ok (.goto off, 3)) (ht : ((pc + 17 : Nat) : Int) + off = ((3206 : Nat) : Int)) (kk : W p l e room_1 s m args below meth c H locs cells slots Q (F0 m 3206 ls [])) : W p l e room_1 s m args below meth c H locs cells slots Q (F0 m pc ls []) := by
  have kz : W p l e room_1 s m args below meth c H locs cells slots Q (F0 m (pc + 17) ls []) := lv_goto (tgt := 3206) hx hb d17 ht kk
  refine lv_iload hx hb d0 g6 ?_
  refine lv_if_ne (tgt := pc + 17) hx hb d2 (by omega) (fun _ => kz) (fun h => ?_)
  refine lv_aload_n hx hb d5 rfl g3 ?_
  refine lv_iconst (v := 0) hx hb d6 rfl ?_
  refine va_lald hx hb X.1 X.2.1 24 2 (ap_l wlC_24) rfl (vp_in_0 (by decide)) d7 ?_
  refine lv_iload hx hb d8 g7 ?_
  refine lv_i2l (v := v.toInt64) hx hb d10 rfl ?_
  refine W.lcmp hx hb d11 ?_
  refine lv_if_eq (tgt := pc + 17) hx hb d12 (by omega) (fun _ => kz) (fun z => absurd ?_ z)
  show lg_cmp (ol 0) v.toInt64 = 0
  rw [hk h]
  exact lg_cmp_same _
theorem ll_endJ (hx : p.tables.exec = Jvm.exec) (hb : c.code = cc) {k : Int32} {v : Int64} {off : Int} (X : XW dd cy (LA s) s (wlC ad cy ts tc rk pl ru sl bg kn rm ol od ++ w2) H locs) (hk : k = 0 → ol 0 = v) (g3 : ls[3]? = some (.val (.ref (ad 24)))) (g6 : ls[6]? = some (.val (.int k))) (g7 : ls[7]? = some (.val (.long v))) (d0 : decode cc pc = .ok (.iload 6, 2)) (d2 : decode cc (pc + 2) = .ok (.ifCond .ne 14, 3)) (d5 : decode cc (pc + 5) = .ok (.aload_n 3, 1)) (d6 : decode cc (pc + 6) = .ok (.iconst 0, 1)) (d7 : decode cc (pc + 7) = .ok (.laload, 1)) (d8 : decode cc (pc + 8) = .ok (.lload 7, 2)) (d10 : decode cc (pc + 10) = .ok (.lcmp, 1)) (d11 : decode cc (pc + 11) = .ok (.ifCond .eq 5, 3)) (d16 : decode cc (pc + 16) = .ok (.goto off, 3)) (ht : ((pc + 16 : Nat) : Int) + off = ((3206 : Nat) : Int)) (kk : W p l e room_1 s m args below meth c H locs cells slots Q (F0 m 3206 ls [])) : W p l e room_1 s m args below meth c H locs cells slots Q (F0 m pc ls []) := by
  have kz : W p l e room_1 s m args below meth c H locs cells slots Q (F0 m (pc + 16) ls []) := lv_goto (tgt := 3206) hx hb d16 ht kk
  refine lv_iload hx hb d0 g6 ?_
  refine lv_if_ne (tgt := pc + 16) hx hb d2 (by omega) (fun _ => kz) (fun h => ?_)
  refine lv_aload_n hx hb d5 rfl g3 ?_
  refine lv_iconst (v := 0) hx hb d6 rfl ?_
  refine va_lald hx hb X.1 X.2.1 24 2 (ap_l wlC_24) rfl (vp_in_0 (by decide)) d7 ?_
  refine lv_lload hx hb d8 g7 ?_
  refine W.lcmp hx hb d10 ?_
  refine lv_if_eq (tgt := pc + 16) hx hb d11 (by omega) (fun _ => kz) (fun z => absurd ?_ z)
  show lg_cmp (ol 0) v = 0
  rw [hk h]
  exact lg_cmp_same _
theorem ll_endZ (hx : p.tables.exec = Jvm.exec) (hb : c.code = cc) {k v : Int32} {off : Int} (X : XW dd cy (LA s) s (wlC ad cy ts tc rk pl ru sl bg kn rm ol od ++ w2) H locs) (hk : k = 0 → (v = 0 ∧ ol 0 = 0) ∨ (¬ v = 0 ∧ ol 0 = 1)) (g3 : ls[3]? = some (.val (.ref (ad 24)))) (g6 : ls[6]? = some (.val (.int k))) (g7 : ls[7]? = some (.val (.int v))) (d0 : decode cc pc = .ok (.iload 6, 2)) (d2 : decode cc (pc + 2) = .ok (.ifCond .ne 22, 3)) (d5 : decode cc (pc + 5) = .ok (.aload_n 3, 1)) (d6 : decode cc (pc + 6) = .ok (.iconst 0, 1)) (d7 : decode cc (pc + 7) = .ok (.laload, 1)) (d8 : decode cc (pc + 8) = .ok (.iload 7, 2)) (d10 : decode cc (pc + 10) = .ok (.ifCond .eq 7, 3)) (d13 : decode cc (pc + 13) = .ok (.lconst 1, 1)) (d14 : decode cc (pc + 14) = .ok (.goto 4, 3)) (d17 : decode cc (pc + 17) = .ok (.lconst 0, 1)) (d18 : decode cc (pc + 18) = .ok (.lcmp, 1)) (d19 : decode cc (pc + 19) = .ok (.ifCond .eq 5, 3)) (d24 : decode cc (pc + 24) = .ok (.goto off, 3)) (ht : ((pc + 24 : Nat) : Int) + off = ((3206 : Nat) : Int)) (kk : W p l e room_1 s m args below meth c H locs cells slots Q (F0 m 3206 ls [])) : W p l e room_1 s m args below meth c H locs cells slots Q (F0 m pc ls []) := by
  have kz : W p l e room_1 s m args below meth c H locs cells slots Q (F0 m (pc + 24) ls []) := lv_goto (tgt := 3206) hx hb d24 ht kk
  have kl : ∀ x : Int64, ol 0 = x → W p l e room_1 s m args below meth c H locs cells slots Q (F0 m (pc + 18) ls (.long x :: .long (ol 0) :: [])) := fun x hx0 => by
    refine W.lcmp hx hb d18 ?_
    refine lv_if_eq (tgt := pc + 24) hx hb d19 (by omega) (fun _ => kz) (fun z => absurd ?_ z)
    rw [← hx0]
    exact lg_cmp_same _
  refine lv_iload hx hb d0 g6 ?_
  refine lv_if_ne (tgt := pc + 24) hx hb d2 (by omega) (fun _ => kz) (fun h => ?_)
  refine lv_aload_n hx hb d5 rfl g3 ?_
  refine lv_iconst (v := 0) hx hb d6 rfl ?_
  refine va_lald hx hb X.1 X.2.1 24 2 (ap_l wlC_24) rfl (vp_in_0 (by decide)) d7 ?_
  refine lv_iload hx hb d8 g7 ?_
  refine lv_if_eq (tgt := pc + 17) hx hb d10 (by omega) (fun z => ?_) (fun z => ?_)
  · have h1 : ol 0 = 0 := (hk h).elim (fun q => q.2) (fun q => absurd z q.1)
    exact lv_lconst (v := 0) hx hb d17 rfl (kl 0 h1)
  · have h1 : ol 0 = 1 := (hk h).elim (fun q => absurd q.1 z) (fun q => q.2)
    refine lv_lconst (v := 1) hx hb d13 rfl ?_
    exact lv_goto (tgt := pc + 18) hx hb d14 (by omega) (kl 1 h1)
theorem cmpl_same {v : UInt64} (h : FP.dIsNaN v = false) : Op.cmpValue (FP.dcmp v v) .l = 0 := by
  rw [dcmp_nn h]
  rfl
theorem ll_endF (hx : p.tables.exec = Jvm.exec) (hb : c.code = cc) {k : Int32} {v : UInt32} {off : Int} (X : XW dd cy (LA s) s (wlC ad cy ts tc rk pl ru sl bg kn rm ol od ++ w2) H locs) (hk : k = 0 → ckD (FP.f2d v) = some (od 0)) (g4 : ls[4]? = some (.val (.ref (ad 25)))) (g6 : ls[6]? = some (.val (.int k))) (g7 : ls[7]? = some (.val (.float v))) (d0 : decode cc pc = .ok (.iload 6, 2)) (d2 : decode cc (pc + 2) = .ok (.ifCond .ne 36, 3)) (d5 : decode cc (pc + 5) = .ok (.aload 4, 2)) (d7 : decode cc (pc + 7) = .ok (.iconst 0, 1)) (d8 : decode cc (pc + 8) = .ok (.daload, 1)) (d9 : decode cc (pc + 9) = .ok (.fload 7, 2)) (d11 : decode cc (pc + 11) = .ok (.f2d, 1)) (d12 : decode cc (pc + 12) = .ok (.dcmp .l, 1)) (d13 : decode cc (pc + 13) = .ok (.ifCond .eq 25, 3)) (d38 : decode cc (pc + 38) = .ok (.goto off, 3)) (ht : ((pc + 38 : Nat) : Int) + off = ((3206 : Nat) : Int)) (kk : W p l e room_1 s m args below meth c H locs cells slots Q (F0 m 3206 ls [])) : W p l e room_1 s m args below meth c H locs cells slots Q (F0 m pc ls []) := by
  have kz : W p l e room_1 s m args below meth c H locs cells slots Q (F0 m (pc + 38) ls []) := lv_goto (tgt := 3206) hx hb d38 ht kk
  refine lv_iload hx hb d0 g6 ?_
  refine lv_if_ne (tgt := pc + 38) hx hb d2 (by omega) (fun _ => kz) (fun h => ?_)
  obtain ⟨h1, h2, h3⟩ := ckD_nn (hk h)
  refine lv_aload hx hb d5 g4 ?_
  refine lv_iconst (v := 0) hx hb d7 rfl ?_
  refine va_dald hx hb X.1 X.2.1 25 5 (ap_l wlC_25) rfl (vp_in_0 (by decide)) d8 ?_
  refine lv_fload hx hb d9 g7 ?_
  refine lv_f2d hx hb d11 h2 ?_
  refine lv_dcmp hx hb d12 ?_
  refine lv_if_eq (tgt := pc + 38) hx hb d13 (by omega) (fun _ => kz) (fun z => absurd ?_ z)
  show Op.cmpValue (FP.dcmp (od 0) (FP.f2d v)) .l = 0
  rw [← h1]
  exact cmpl_same h3
theorem ll_endD (hx : p.tables.exec = Jvm.exec) (hb : c.code = cc) {k : Int32} {v : UInt64} {off : Int} (X : XW dd cy (LA s) s (wlC ad cy ts tc rk pl ru sl bg kn rm ol od ++ w2) H locs) (hk : k = 0 → od 0 = v ∧ ckD v = some v) (g4 : ls[4]? = some (.val (.ref (ad 25)))) (g6 : ls[6]? = some (.val (.int k))) (g7 : ls[7]? = some (.val (.double v))) (d0 : decode cc pc = .ok (.iload 6, 2)) (d2 : decode cc (pc + 2) = .ok (.ifCond .ne 35, 3)) (d5 : decode cc (pc + 5) = .ok (.aload 4, 2)) (d7 : decode cc (pc + 7) = .ok (.iconst 0, 1)) (d8 : decode cc (pc + 8) = .ok (.daload, 1)) (d9 : decode cc (pc + 9) = .ok (.dload 7, 2)) (d11 : decode cc (pc + 11) = .ok (.dcmp .l, 1)) (d12 : decode cc (pc + 12) = .ok (.ifCond .eq 25, 3)) (d37 : decode cc (pc + 37) = .ok (.goto off, 3)) (ht : ((pc + 37 : Nat) : Int) + off = ((3206 : Nat) : Int)) (kk : W p l e room_1 s m args below meth c H locs cells slots Q (F0 m 3206 ls [])) : W p l e room_1 s m args below meth c H locs cells slots Q (F0 m pc ls []) := by
  have kz : W p l e room_1 s m args below meth c H locs cells slots Q (F0 m (pc + 37) ls []) := lv_goto (tgt := 3206) hx hb d37 ht kk
  refine lv_iload hx hb d0 g6 ?_
  refine lv_if_ne (tgt := pc + 37) hx hb d2 (by omega) (fun _ => kz) (fun h => ?_)
  obtain ⟨h1, h2⟩ := hk h
  refine lv_aload hx hb d5 g4 ?_
  refine lv_iconst (v := 0) hx hb d7 rfl ?_
  refine va_dald hx hb X.1 X.2.1 25 5 (ap_l wlC_25) rfl (vp_in_0 (by decide)) d8 ?_
  refine lv_dload hx hb d9 g7 ?_
  refine lv_dcmp hx hb d11 ?_
  refine lv_if_eq (tgt := pc + 37) hx hb d12 (by omega) (fun _ => kz) (fun z => absurd ?_ z)
  show Op.cmpValue (FP.dcmp (od 0) v) .l = 0
  rw [h1]
  exact cmpl_same (ckD_nn h2).2.2
end LT
/-- the loop's world: class and model hold the same texts -/
def LI (dd : va_G) (cy : Nat → ClassId) (ad bd : Nat → Nat) (s : State) (H : Heap) (locs : List Loc) : Prop := ∃ (ts : Nat → Int32) (tc : Nat → Nat → Int32) (rk pl : Nat → Int32) (ru : Nat → Int64) (sl bg : Nat → Int32) (kn : Nat → Int64) (rm : Int32) (ol : Nat → Int64) (od : Nat → UInt64) (th : Int32) (ce sz : Nat → Int32) (wy : Nat → Int64) (op : Nat → Int32) (N : Nat → Nat), INV ts tc ce sz N ∧ XW dd cy (LA s) s (wlC ad cy ts tc rk pl ru sl bg kn rm ol od ++ wlR bd cy th ce sz wy op) H locs
