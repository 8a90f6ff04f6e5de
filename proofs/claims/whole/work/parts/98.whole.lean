set_option maxRecDepth 100000 in
set_option maxHeartbeats 4000000 in
theorem whole_start {p : Program} {e : Env} {s : State} {m : MethodId} {below : List Frame} {meth : Method} {c : Code} (l : Launch) (hflags : l.flags = flags0) {b L : Nat} {xs : Nat → Int32} (hL : L ≤ 4608) (C0 : lw_At p s m meth c b L xs) : W p l e room_1 s m #[Value.ref b] below meth c s.heap [] 0 0 (lw_Z below #[Value.ref b] s) (entryFrame m ([Value.ref b] : List Value).toArray 9) := by
  obtain ⟨hx, hb, hr, hml, hown, hts, hX, hbl, hlocks, hgv⟩ := id C0
  have htr := st_traces hflags
  have hT := th_start hts hgv
  have hNW := nw_start hts
  obtain ⟨dd, cy, hK⟩ := k_start hts
  obtain ⟨u1, u2, u3, u4, u5, u6, u7, u8⟩ := lw_words
  obtain ⟨-, w2, -, -, w5, -, -, a2, -, -, a5⟩ := k_words
  have htw : ∀ w ∈ wsL_law, w.before #[Value.ref b] s = true := fun w h => hts w (wsL_law_in w h)
  have S : CallFix p m c cL_law 9 s #[Value.ref b] wsL_law RL := ⟨hx, hb, hml, hown, htw⟩
  have X : XW dd cy (LA s) s [] s.heap [] := ⟨hK, fun k q h => by simp at h, ⟨fun i j p q h => by simp at h, fun k q h => by simp at h⟩, fun q h => h, va_S.rf⟩
  have hl := lv_entry ([.ref b]) (n := 9) (Nat.le_of_ble_eq_true rfl)
  rw [lg_entry_eq]
  generalize (lg_sl ([.ref b]) ++ List.replicate (9 - (lg_sl ([.ref b])).length) Slot.unset).toArray = ls at hl ⊢
  have hl : lv_has ls 9 [(0, .ref b)] := hl
  refine xn_new (ci := 1) (fs := [.null, .null, .null, .null]) hx hb hts hown inX5 tyX5 tyX5_ok (hts _ u1) (hts _ w2) (hts _ u2) X rfl (fun j hj => by rcases (show j = 0 ∨ j = 1 ∨ j = 2 ∨ j = 3 by omega) with rfl | rfl | rfl | rfl <;> rfl) (Nat.le_of_ble_eq_true rfl) (Nat.le_of_ble_eq_true rfl) dL_law_0 (fun q0 H X => ?_)
  have X : XW dd cy (LA s) s ([(q0, .inr (1, [.null, .null, .null, .null]))] ++ []) H _ := X
  refine lv_dup hx hb dL_law_3 rfl ?_
  refine xf_IV (rest := [.ref q0]) S (c_X5 (h0 := q0)) (cwI 0 htw gL_law_X5_init rfl rfl rfl (hts _ u2) (hts _ u5) (hts _ u6) rfl (by decide +kernel) ⟨Nat.le_of_ble_eq_true rfl, Nat.le_of_ble_eq_true rfl⟩) X hNW hl.1 rfl (Nat.le_of_ble_eq_true rfl) dL_law_4 ⟨Nat.le_of_ble_eq_true rfl, Nat.le_of_ble_eq_true rfl⟩ (fun u H locs hu X9 => ?_)
  obtain ⟨ad0, f⟩ := u
  obtain ⟨h14, hf⟩ := hu
  dsimp only at h14 hf X9
  subst h14
  have X := X9
  refine lv_astore_n (lv' := [(1, .ref (ad0 14)), (0, .ref b)]) hx hb dL_law_7 rfl hl (by decide) rfl (fun ls hl => ?_)
  refine xn_new (ci := 4) (fs := [.int 0, .null, .null, .null, .null]) hx hb hts hown inX6 tyX6 tyX6_ok (hts _ u3) (hts _ w5) (hts _ u4) X rfl (fun j hj => by rcases (show j = 0 ∨ j = 1 ∨ j = 2 ∨ j = 3 ∨ j = 4 by omega) with rfl | rfl | rfl | rfl | rfl <;> rfl) (Nat.le_of_ble_eq_true rfl) (Nat.le_of_ble_eq_true rfl) dL_law_8 (fun r0 H X => ?_)
  have X := X.swap
  refine lv_dup hx hb dL_law_11 rfl ?_
  refine xf_I (rest := [.ref r0]) S (c_X6 (h0 := r0)) (cwI 0 htw gL_law_X6_init rfl rfl rfl (hts _ u4) (hts _ u7) (hts _ u8) rfl (by decide +kernel) ⟨Nat.le_of_ble_eq_true rfl, Nat.le_of_ble_eq_true rfl⟩) X hl.1 rfl (Nat.le_of_ble_eq_true rfl) dL_law_12 ⟨Nat.le_of_ble_eq_true rfl, Nat.le_of_ble_eq_true rfl⟩ (fun u H locs _ X8 => ?_)
  obtain ⟨r1, r2, r3, r4⟩ := u
  dsimp only at X8
  have X := X8
  refine lv_astore_n (lv' := [(2, .ref r0), (1, .ref (ad0 14)), (0, .ref b)]) hx hb dL_law_15 rfl hl (by decide) rfl (fun ls hl => ?_)
  refine lv_iconst (v := 1) hx hb dL_law_16 (by decide) ?_
  refine xn_newa (atype := .long) hx hb (hts _ a2) rfl X 2 rfl (N' := 1) (a0 := (1, .inr (.inl fun _ => 0))) (fun _ => rfl) (by decide) (by decide) (Nat.le_of_ble_eq_true rfl) (Nat.le_of_ble_eq_true rfl) (Nat.le_of_ble_eq_true rfl) dL_law_17 (fun q24 H X => ?_)
  refine lv_astore_n (lv' := [(3, .ref q24), (2, .ref r0), (1, .ref (ad0 14)), (0, .ref b)]) hx hb dL_law_19 rfl hl (by decide) rfl (fun ls hl => ?_)
  refine lv_iconst (v := 1) hx hb dL_law_20 (by decide) ?_
  refine xn_newa (atype := .double) hx hb (hts _ a5) rfl X 5 rfl (N' := 1) (a0 := (1, .inr (.inr (.inr (.inl fun _ => 0))))) (fun _ => rfl) (by decide) (by decide) (Nat.le_of_ble_eq_true rfl) (Nat.le_of_ble_eq_true rfl) (Nat.le_of_ble_eq_true rfl) dL_law_21 (fun q25 H X => ?_)
  refine lv_astore (lv' := [(4, .ref q25), (3, .ref q24), (2, .ref r0), (1, .ref (ad0 14)), (0, .ref b)]) hx hb dL_law_23 hl (by decide) rfl (fun ls hl => ?_)
  refine lv_iconst (v := 0) hx hb dL_law_25 (by decide) ?_
  refine lv_istore (lv' := [(5, .int 0), (4, .ref q25), (3, .ref q24), (2, .ref r0), (1, .ref (ad0 14)), (0, .ref b)]) hx hb dL_law_26 hl (by decide) rfl (fun ls hl => ?_)
  have X2 : XW dd cy (LA s) s (wlI ad0 cy f ++ ([(q24, .inl (cy 2, 1, .inr (.inl fun _ => 0))), (q25, .inl (cy 5, 1, .inr (.inr (.inr (.inl fun _ => 0)))))] ++ [(r0, .inr (4, [.int 0, .ref r1, .ref r2, .ref r3, .ref r4])), (r1, .inl (cy 1, 900, .inl fun _ => 0)), (r2, .inl (cy 1, 6, .inl fun _ => 0)), (r3, .inl (cy 2, 121, .inr (.inl fun _ => 0))), (r4, .inl (cy 3, 360, .inl fun _ => 0))])) H _ := X.sub [5, 6, 7, 8, 9, 10, 11, 12, 13, 14, 15, 16, 17, 18, 19, 20, 21, 22, 23, 24, 25, 26, 27, 28, 29, 30, 0, 1, 2, 3, 4] (by decide) rfl
  have X3 : XW dd cy (LA s) s (wlC (adE ad0 q24 q25) cy (fun _ => 0) (fun _ _ => 0) (fun _ => 0) (fun _ => 0) (fun _ => 0) (fun _ => 0) (fun _ => 0) (fun _ => 0) 0 (fun _ => 0) (fun _ => 0) ++ wlR (bdE r0 r1 r2 r3 r4) cy 0 (fun _ => 0) (fun _ => 0) (fun _ => 0) (fun _ => 0)) H locs := by
    rw [wlC_list, wlR_list, List.append_assoc]
    refine X2.ref_ext (a := ad0 15) 15 (f := f) (g := fun k => some (adE ad0 q24 q25 k)) rfl (fun k hk => ?_) rfl
    rw [hf k hk]
    show some (ad0 k) = some (if k < 24 then ad0 k else _)
    rw [if_pos (by omega)]
  refine W.widen (k := 100 + 0) (n := 5000 + 6 * 0) (Nat.le_of_ble_eq_true rfl) (Nat.le_of_ble_eq_true rfl) ?_
  refine law_loop (dd := dd) (cy := cy) (ad := adE ad0 q24 q25) (bd := bdE r0 r1 r2 r3 r4) S hX hbl hT htr hL (fun H locs ls hS => ?_) 513 0 0 (by omega) (by omega) (by decide) _ _ _ ⟨_, _, _, _, _, _, _, _, _, _, _, _, _, _, _, _, _, inv_start, X3⟩ (lv_sub hl [5, 4, 3, 2, 1, 0] rfl)
  refine lv_iconst (v := 1) hx hb dL_law_3212 (by decide) ?_
  refine va_forget (fun q hq => hS.2.2 q hq) ?_
  refine W.widen (k := 603072) (n := 7223402) (Nat.le_of_ble_eq_true rfl) (Nat.le_of_ble_eq_true rfl) ?_
  exact lw_ret (d0 := s.drawn) (Drawn.sameBut.refl s.drawn lw_cs) hx hb hr hlocks dL_law_3213
