set_option maxRecDepth 100000 in
set_option maxHeartbeats 4000000 in
theorem ca_type {p : Program} {l : Launch} {e : Env} {s : State} {m : MethodId} {args : Array Value} {below : List Frame} {meth : Method} {c : Code} {H : Heap} {locs : List Loc} {cells slots : Nat} {Q : State → Prop} {ls : Array Slot} {dd : va_G} {cy : Nat → ClassId} {ad bd : Nat → Nat} {b L : Nat} {xs : Nat → Int32} {i : Int32} (S : CallFix p m c cL_law 9 s args wsL_law RL) (hX : va_X b L xs s s.heap) (hbl : b < s.heap.size) (hT : TH (LA s) s s.heap) (htr : l.stackTraces = false) (J : LI dd cy ad bd s H locs) (hin : ∀ k : Nat, k < 9 → vp_in (i + nI k) L) (hl : lv_has ls 9 (LV b ad bd i)) (hR : cells + 1 ≤ room_1.cells ∧ slots + 6 ≤ room_1.slots) (kk : ∀ (H1 : Heap) (locs1 : List Loc) (ls1 : Array Slot), LI dd cy ad bd s H1 locs1 → lv_has ls1 9 (LV b ad bd i) → W p l e room_1 s m args below meth c H1 locs1 (cells + 1) (slots + 6) Q (F0 m 3206 ls1 [])) : W p l e room_1 s m args below meth c H locs cells slots Q (F0 m 232 ls []) := by
  have hx := S.1
  have hb := S.2.1
  have hts := S.2.2.2.2
  obtain ⟨ts, tc, rk, pl, ru, sl, bg, kn, rm, ol, od, th, ce, sz, wy, op, N, hI, X⟩ := J
  obtain ⟨x1, e1⟩ : ∃ x, xs (i + nI 1).toNatClampNeg = x := ⟨_, rfl⟩
  obtain ⟨y2, e2⟩ : ∃ x, xs (i + nI 2).toNatClampNeg = x := ⟨_, rfl⟩
  obtain ⟨x2, c2⟩ : ∃ x, (y2.toUInt32 % 65536).toInt32 = x := ⟨_, rfl⟩
  obtain ⟨k, ts', tc', g, bv, t, ce', sz', f1, f2, htk, hk, N', hI'⟩ := q_type (fu := 2000) (ol := ol) (th := th) hI (Nat.le_refl 2000) x1 x2
  obtain rfl : k = t := htk.symm
  refine lv_aload_n hx hb dL_law_232 rfl (lv_at hl 1 rfl) ?_
  refine ll_ld hx hb hX hbl X.2.2.2.2 (lv_at hl 0 rfl) (lv_at hl 5 rfl) 1 (by decide) (hin 1 (by decide)) e1 dL_law_233 dL_law_234 dL_law_236 dL_law_237 dL_law_238 ?_
  refine ll_ld hx hb hX hbl X.2.2.2.2 (lv_at hl 0 rfl) (lv_at hl 5 rfl) 2 (by decide) (hin 2 (by decide)) e2 dL_law_239 dL_law_240 dL_law_242 dL_law_243 dL_law_244 ?_
  refine lv_i2c hx hb dL_law_245 c2 ?_
  refine lv_aload_n hx hb dL_law_246 rfl (lv_at hl 3 rfl) ?_
  refine xf_S (As := [.ref (ad 14), .int x1, .int x2, .ref (ad 24)]) (rest := []) S (mL_type htr f1) (vx_cwSW 4 hts gL_law_L_type rfl rfl rfl (by decide +kernel) ⟨Nat.le_of_ble_eq_true rfl, Nat.le_of_ble_eq_true rfl⟩) X hT rfl hl.1 rfl (Nat.le_of_ble_eq_true rfl) dL_law_247 hR (fun H locs X => ?_)
  refine lv_istore (lv' := (6, .int k) :: LV b ad bd i) hx hb dL_law_250 hl (by decide) rfl (fun ls hl => ?_)
  refine lv_aload_n hx hb dL_law_252 rfl (lv_at hl 3 rfl) ?_
  refine ll_ld hx hb hX hbl X.2.2.2.2 (lv_at hl 1 rfl) (lv_at hl 6 rfl) 1 (by decide) (hin 1 (by decide)) e1 dL_law_253 dL_law_254 dL_law_256 dL_law_257 dL_law_258 ?_
  refine ll_ld hx hb hX hbl X.2.2.2.2 (lv_at hl 1 rfl) (lv_at hl 6 rfl) 2 (by decide) (hin 2 (by decide)) e2 dL_law_259 dL_law_260 dL_law_262 dL_law_263 dL_law_264 ?_
  refine lv_i2c hx hb dL_law_265 c2 ?_
  refine xf_V (As := [.int x1, .int x2]) (rest := []) S (mX6_type f2) (cwV 2 hts gL_law_X6_type rfl rfl rfl hqX6_type ⟨Nat.le_of_ble_eq_true rfl, Nat.le_of_ble_eq_true rfl⟩) X.swap (va_recv X.swap.1 X.swap.2.1 (ci := 4) (q0 := 0) rfl (ap_l wlR_0)) rfl hl.1 rfl (Nat.le_of_ble_eq_true rfl) dL_law_266 hR (fun H locs X => ?_)
  have X := X.swap
  refine lv_istore (lv' := (7, .int bv) :: (6, .int k) :: LV b ad bd i) hx hb dL_law_269 hl (by decide) rfl (fun ls hl => ?_)
  refine ll_thr S gL_law_X6_thrown X (lv_at hl 4 rfl) (lv_at hl 1 rfl) hl.1 hR dL_law_271 dL_law_272 dL_law_275 dL_law_277 (fun H locs X => ?_)
  refine ll_endI hx hb X hk (lv_at hl 5 rfl) (lv_at hl 1 rfl) (lv_at hl 0 rfl) dL_law_282 dL_law_284 dL_law_287 dL_law_288 dL_law_289 dL_law_290 dL_law_292 dL_law_293 dL_law_294 dL_law_299 (by decide) ?_
  exact kk _ _ _ ⟨_, _, _, _, _, _, _, _, _, _, _, _, _, _, _, _, N', hI', X⟩ (lv_sub hl [2, 3, 4, 5, 6, 7] rfl)
set_option maxRecDepth 100000 in
set_option maxHeartbeats 4000000 in
theorem ca_typeMore {p : Program} {l : Launch} {e : Env} {s : State} {m : MethodId} {args : Array Value} {below : List Frame} {meth : Method} {c : Code} {H : Heap} {locs : List Loc} {cells slots : Nat} {Q : State → Prop} {ls : Array Slot} {dd : va_G} {cy : Nat → ClassId} {ad bd : Nat → Nat} {b L : Nat} {xs : Nat → Int32} {i : Int32} (S : CallFix p m c cL_law 9 s args wsL_law RL) (hX : va_X b L xs s s.heap) (hbl : b < s.heap.size) (hT : TH (LA s) s s.heap) (htr : l.stackTraces = false) (J : LI dd cy ad bd s H locs) (hin : ∀ k : Nat, k < 9 → vp_in (i + nI k) L) (hl : lv_has ls 9 (LV b ad bd i)) (hR : cells + 1 ≤ room_1.cells ∧ slots + 6 ≤ room_1.slots) (kk : ∀ (H1 : Heap) (locs1 : List Loc) (ls1 : Array Slot), LI dd cy ad bd s H1 locs1 → lv_has ls1 9 (LV b ad bd i) → W p l e room_1 s m args below meth c H1 locs1 (cells + 1) (slots + 6) Q (F0 m 3206 ls1 [])) : W p l e room_1 s m args below meth c H locs cells slots Q (F0 m 302 ls []) := by
  have hx := S.1
  have hb := S.2.1
  have hts := S.2.2.2.2
  obtain ⟨ts, tc, rk, pl, ru, sl, bg, kn, rm, ol, od, th, ce, sz, wy, op, N, hI, X⟩ := J
  obtain ⟨x1, e1⟩ : ∃ x, xs (i + nI 1).toNatClampNeg = x := ⟨_, rfl⟩
  obtain ⟨x2, e2⟩ : ∃ x, xs (i + nI 2).toNatClampNeg = x := ⟨_, rfl⟩
  obtain ⟨y3, e3⟩ : ∃ x, xs (i + nI 3).toNatClampNeg = x := ⟨_, rfl⟩
  obtain ⟨x3, c3⟩ : ∃ x, (y3.toUInt32 % 65536).toInt32 = x := ⟨_, rfl⟩
  obtain ⟨y4, e4⟩ : ∃ x, xs (i + nI 4).toNatClampNeg = x := ⟨_, rfl⟩
  obtain ⟨x4, c4⟩ : ∃ x, (y4.toUInt32 % 65536).toInt32 = x := ⟨_, rfl⟩
  obtain ⟨y5, e5⟩ : ∃ x, xs (i + nI 5).toNatClampNeg = x := ⟨_, rfl⟩
  obtain ⟨x5, c5⟩ : ∃ x, (y5.toUInt32 % 65536).toInt32 = x := ⟨_, rfl⟩
  obtain ⟨y6, e6⟩ : ∃ x, xs (i + nI 6).toNatClampNeg = x := ⟨_, rfl⟩
  obtain ⟨x6, c6⟩ : ∃ x, (y6.toUInt32 % 65536).toInt32 = x := ⟨_, rfl⟩
  obtain ⟨y7, e7⟩ : ∃ x, xs (i + nI 7).toNatClampNeg = x := ⟨_, rfl⟩
  obtain ⟨x7, c7⟩ : ∃ x, (y7.toUInt32 % 65536).toInt32 = x := ⟨_, rfl⟩
  obtain ⟨y8, e8⟩ : ∃ x, xs (i + nI 8).toNatClampNeg = x := ⟨_, rfl⟩
  obtain ⟨x8, c8⟩ : ∃ x, (y8.toUInt32 % 65536).toInt32 = x := ⟨_, rfl⟩
  obtain ⟨k, ts', tc', g, bv, t, ce', sz', f1, f2, htk, hk, N', hI'⟩ := q_typeMore (fu := 2000) (ol := ol) (th := th) hI (Nat.le_refl 2000) x1 x2 x3 x4 x5 x6 x7 x8 (by rw [← c3]; exact i2c_ch _) (by rw [← c4]; exact i2c_ch _) (by rw [← c5]; exact i2c_ch _) (by rw [← c6]; exact i2c_ch _) (by rw [← c7]; exact i2c_ch _) (by rw [← c8]; exact i2c_ch _)
  obtain rfl : k = t := htk.symm
  refine lv_aload_n hx hb dL_law_302 rfl (lv_at hl 1 rfl) ?_
  refine ll_ld hx hb hX hbl X.2.2.2.2 (lv_at hl 0 rfl) (lv_at hl 5 rfl) 1 (by decide) (hin 1 (by decide)) e1 dL_law_303 dL_law_304 dL_law_306 dL_law_307 dL_law_308 ?_
  refine ll_ld hx hb hX hbl X.2.2.2.2 (lv_at hl 0 rfl) (lv_at hl 5 rfl) 2 (by decide) (hin 2 (by decide)) e2 dL_law_309 dL_law_310 dL_law_312 dL_law_313 dL_law_314 ?_
  refine ll_ld hx hb hX hbl X.2.2.2.2 (lv_at hl 0 rfl) (lv_at hl 5 rfl) 3 (by decide) (hin 3 (by decide)) e3 dL_law_315 dL_law_316 dL_law_318 dL_law_319 dL_law_320 ?_
  refine lv_i2c hx hb dL_law_321 c3 ?_
  refine ll_ld hx hb hX hbl X.2.2.2.2 (lv_at hl 0 rfl) (lv_at hl 5 rfl) 4 (by decide) (hin 4 (by decide)) e4 dL_law_322 dL_law_323 dL_law_325 dL_law_326 dL_law_327 ?_
  refine lv_i2c hx hb dL_law_328 c4 ?_
  refine ll_ld hx hb hX hbl X.2.2.2.2 (lv_at hl 0 rfl) (lv_at hl 5 rfl) 5 (by decide) (hin 5 (by decide)) e5 dL_law_329 dL_law_330 dL_law_332 dL_law_333 dL_law_334 ?_
  refine lv_i2c hx hb dL_law_335 c5 ?_
  refine ll_ldb hx hb hX hbl X.2.2.2.2 (lv_at hl 0 rfl) (lv_at hl 5 rfl) 6 (by decide) (hin 6 (by decide)) e6 dL_law_336 dL_law_337 dL_law_339 dL_law_341 dL_law_342 ?_
  refine lv_i2c hx hb dL_law_343 c6 ?_
  refine ll_ldb hx hb hX hbl X.2.2.2.2 (lv_at hl 0 rfl) (lv_at hl 5 rfl) 7 (by decide) (hin 7 (by decide)) e7 dL_law_344 dL_law_345 dL_law_347 dL_law_349 dL_law_350 ?_
  refine lv_i2c hx hb dL_law_351 c7 ?_
  refine ll_ldb hx hb hX hbl X.2.2.2.2 (lv_at hl 0 rfl) (lv_at hl 5 rfl) 8 (by decide) (hin 8 (by decide)) e8 dL_law_352 dL_law_353 dL_law_355 dL_law_357 dL_law_358 ?_
  refine lv_i2c hx hb dL_law_359 c8 ?_
  refine lv_aload_n hx hb dL_law_360 rfl (lv_at hl 3 rfl) ?_
  refine xf_S (As := [.ref (ad 14), .int x1, .int x2, .int x3, .int x4, .int x5, .int x6, .int x7, .int x8, .ref (ad 24)]) (rest := []) S (mL_typeMore htr f1) (vx_cwSW 10 hts gL_law_L_typeMore rfl rfl rfl (by decide +kernel) ⟨Nat.le_of_ble_eq_true rfl, Nat.le_of_ble_eq_true rfl⟩) X hT rfl hl.1 rfl (Nat.le_of_ble_eq_true rfl) dL_law_361 hR (fun H locs X => ?_)
  refine lv_istore (lv' := (6, .int k) :: LV b ad bd i) hx hb dL_law_364 hl (by decide) rfl (fun ls hl => ?_)
  refine lv_aload_n hx hb dL_law_366 rfl (lv_at hl 3 rfl) ?_
  refine ll_ld hx hb hX hbl X.2.2.2.2 (lv_at hl 1 rfl) (lv_at hl 6 rfl) 1 (by decide) (hin 1 (by decide)) e1 dL_law_367 dL_law_368 dL_law_370 dL_law_371 dL_law_372 ?_
  refine ll_ld hx hb hX hbl X.2.2.2.2 (lv_at hl 1 rfl) (lv_at hl 6 rfl) 2 (by decide) (hin 2 (by decide)) e2 dL_law_373 dL_law_374 dL_law_376 dL_law_377 dL_law_378 ?_
  refine ll_ld hx hb hX hbl X.2.2.2.2 (lv_at hl 1 rfl) (lv_at hl 6 rfl) 3 (by decide) (hin 3 (by decide)) e3 dL_law_379 dL_law_380 dL_law_382 dL_law_383 dL_law_384 ?_
  refine lv_i2c hx hb dL_law_385 c3 ?_
  refine ll_ld hx hb hX hbl X.2.2.2.2 (lv_at hl 1 rfl) (lv_at hl 6 rfl) 4 (by decide) (hin 4 (by decide)) e4 dL_law_386 dL_law_387 dL_law_389 dL_law_390 dL_law_391 ?_
  refine lv_i2c hx hb dL_law_392 c4 ?_
  refine ll_ld hx hb hX hbl X.2.2.2.2 (lv_at hl 1 rfl) (lv_at hl 6 rfl) 5 (by decide) (hin 5 (by decide)) e5 dL_law_393 dL_law_394 dL_law_396 dL_law_397 dL_law_398 ?_
  refine lv_i2c hx hb dL_law_399 c5 ?_
  refine ll_ldb hx hb hX hbl X.2.2.2.2 (lv_at hl 1 rfl) (lv_at hl 6 rfl) 6 (by decide) (hin 6 (by decide)) e6 dL_law_400 dL_law_401 dL_law_403 dL_law_405 dL_law_406 ?_
  refine lv_i2c hx hb dL_law_407 c6 ?_
  refine ll_ldb hx hb hX hbl X.2.2.2.2 (lv_at hl 1 rfl) (lv_at hl 6 rfl) 7 (by decide) (hin 7 (by decide)) e7 dL_law_408 dL_law_409 dL_law_411 dL_law_413 dL_law_414 ?_
  refine lv_i2c hx hb dL_law_415 c7 ?_
  refine ll_ldb hx hb hX hbl X.2.2.2.2 (lv_at hl 1 rfl) (lv_at hl 6 rfl) 8 (by decide) (hin 8 (by decide)) e8 dL_law_416 dL_law_417 dL_law_419 dL_law_421 dL_law_422 ?_
  refine lv_i2c hx hb dL_law_423 c8 ?_
  refine xf_V (As := [.int x1, .int x2, .int x3, .int x4, .int x5, .int x6, .int x7, .int x8]) (rest := []) S (mX6_typeMore f2) (cwV 8 hts gL_law_X6_typeMore rfl rfl rfl hqX6_typeMore ⟨Nat.le_of_ble_eq_true rfl, Nat.le_of_ble_eq_true rfl⟩) X.swap (va_recv X.swap.1 X.swap.2.1 (ci := 4) (q0 := 0) rfl (ap_l wlR_0)) rfl hl.1 rfl (Nat.le_of_ble_eq_true rfl) dL_law_424 hR (fun H locs X => ?_)
  have X := X.swap
  refine lv_istore (lv' := (7, .int bv) :: (6, .int k) :: LV b ad bd i) hx hb dL_law_427 hl (by decide) rfl (fun ls hl => ?_)
  refine ll_thr S gL_law_X6_thrown X (lv_at hl 4 rfl) (lv_at hl 1 rfl) hl.1 hR dL_law_429 dL_law_430 dL_law_433 dL_law_435 (fun H locs X => ?_)
  refine ll_endI hx hb X hk (lv_at hl 5 rfl) (lv_at hl 1 rfl) (lv_at hl 0 rfl) dL_law_440 dL_law_442 dL_law_445 dL_law_446 dL_law_447 dL_law_448 dL_law_450 dL_law_451 dL_law_452 dL_law_457 (by decide) ?_
  exact kk _ _ _ ⟨_, _, _, _, _, _, _, _, _, _, _, _, _, _, _, _, N', hI', X⟩ (lv_sub hl [2, 3, 4, 5, 6, 7] rfl)
set_option maxRecDepth 100000 in
set_option maxHeartbeats 4000000 in
theorem ca_erase {p : Program} {l : Launch} {e : Env} {s : State} {m : MethodId} {args : Array Value} {below : List Frame} {meth : Method} {c : Code} {H : Heap} {locs : List Loc} {cells slots : Nat} {Q : State → Prop} {ls : Array Slot} {dd : va_G} {cy : Nat → ClassId} {ad bd : Nat → Nat} {b L : Nat} {xs : Nat → Int32} {i : Int32} (S : CallFix p m c cL_law 9 s args wsL_law RL) (hX : va_X b L xs s s.heap) (hbl : b < s.heap.size) (hT : TH (LA s) s s.heap) (htr : l.stackTraces = false) (J : LI dd cy ad bd s H locs) (hin : ∀ k : Nat, k < 9 → vp_in (i + nI k) L) (hl : lv_has ls 9 (LV b ad bd i)) (hR : cells + 1 ≤ room_1.cells ∧ slots + 6 ≤ room_1.slots) (kk : ∀ (H1 : Heap) (locs1 : List Loc) (ls1 : Array Slot), LI dd cy ad bd s H1 locs1 → lv_has ls1 9 (LV b ad bd i) → W p l e room_1 s m args below meth c H1 locs1 (cells + 1) (slots + 6) Q (F0 m 3206 ls1 [])) : W p l e room_1 s m args below meth c H locs cells slots Q (F0 m 460 ls []) := by
  have hx := S.1
  have hb := S.2.1
  have hts := S.2.2.2.2
  obtain ⟨ts, tc, rk, pl, ru, sl, bg, kn, rm, ol, od, th, ce, sz, wy, op, N, hI, X⟩ := J
  obtain ⟨x1, e1⟩ : ∃ x, xs (i + nI 1).toNatClampNeg = x := ⟨_, rfl⟩
  obtain ⟨k, ts', g, bv, t, sz', f1, f2, htk, hk, N', hI'⟩ := q_erase (fu := 2000) (ol := ol) (th := th) hI (Nat.le_refl 2000) x1
  obtain rfl : k = t := htk.symm
  refine lv_aload_n hx hb dL_law_460 rfl (lv_at hl 1 rfl) ?_
  refine ll_ld hx hb hX hbl X.2.2.2.2 (lv_at hl 0 rfl) (lv_at hl 5 rfl) 1 (by decide) (hin 1 (by decide)) e1 dL_law_461 dL_law_462 dL_law_464 dL_law_465 dL_law_466 ?_
  refine lv_aload_n hx hb dL_law_467 rfl (lv_at hl 3 rfl) ?_
  refine xf_S (As := [.ref (ad 14), .int x1, .ref (ad 24)]) (rest := []) S (mL_erase htr f1) (vx_cwSW 3 hts gL_law_L_erase rfl rfl rfl (by decide +kernel) ⟨Nat.le_of_ble_eq_true rfl, Nat.le_of_ble_eq_true rfl⟩) X hT rfl hl.1 rfl (Nat.le_of_ble_eq_true rfl) dL_law_468 hR (fun H locs X => ?_)
  refine lv_istore (lv' := (6, .int k) :: LV b ad bd i) hx hb dL_law_471 hl (by decide) rfl (fun ls hl => ?_)
  refine lv_aload_n hx hb dL_law_473 rfl (lv_at hl 3 rfl) ?_
  refine ll_ld hx hb hX hbl X.2.2.2.2 (lv_at hl 1 rfl) (lv_at hl 6 rfl) 1 (by decide) (hin 1 (by decide)) e1 dL_law_474 dL_law_475 dL_law_477 dL_law_478 dL_law_479 ?_
  refine xf_V (As := [.int x1]) (rest := []) S (mX6_erase f2) (cwV 1 hts gL_law_X6_erase rfl rfl rfl hqX6_erase ⟨Nat.le_of_ble_eq_true rfl, Nat.le_of_ble_eq_true rfl⟩) X.swap (va_recv X.swap.1 X.swap.2.1 (ci := 4) (q0 := 0) rfl (ap_l wlR_0)) rfl hl.1 rfl (Nat.le_of_ble_eq_true rfl) dL_law_480 hR (fun H locs X => ?_)
  have X := X.swap
  refine lv_istore (lv' := (7, .int bv) :: (6, .int k) :: LV b ad bd i) hx hb dL_law_483 hl (by decide) rfl (fun ls hl => ?_)
  refine ll_thr S gL_law_X6_thrown X (lv_at hl 4 rfl) (lv_at hl 1 rfl) hl.1 hR dL_law_485 dL_law_486 dL_law_489 dL_law_491 (fun H locs X => ?_)
  refine ll_endI hx hb X hk (lv_at hl 5 rfl) (lv_at hl 1 rfl) (lv_at hl 0 rfl) dL_law_496 dL_law_498 dL_law_501 dL_law_502 dL_law_503 dL_law_504 dL_law_506 dL_law_507 dL_law_508 dL_law_513 (by decide) ?_
  exact kk _ _ _ ⟨_, _, _, _, _, _, _, _, _, _, _, _, _, _, _, _, N', hI', X⟩ (lv_sub hl [2, 3, 4, 5, 6, 7] rfl)
set_option maxRecDepth 100000 in
set_option maxHeartbeats 4000000 in
theorem ca_length {p : Program} {l : Launch} {e : Env} {s : State} {m : MethodId} {args : Array Value} {below : List Frame} {meth : Method} {c : Code} {H : Heap} {locs : List Loc} {cells slots : Nat} {Q : State → Prop} {ls : Array Slot} {dd : va_G} {cy : Nat → ClassId} {ad bd : Nat → Nat} {b L : Nat} {xs : Nat → Int32} {i : Int32} (S : CallFix p m c cL_law 9 s args wsL_law RL) (hX : va_X b L xs s s.heap) (hbl : b < s.heap.size) (hT : TH (LA s) s s.heap) (htr : l.stackTraces = false) (J : LI dd cy ad bd s H locs) (hin : ∀ k : Nat, k < 9 → vp_in (i + nI k) L) (hl : lv_has ls 9 (LV b ad bd i)) (hR : cells + 1 ≤ room_1.cells ∧ slots + 6 ≤ room_1.slots) (kk : ∀ (H1 : Heap) (locs1 : List Loc) (ls1 : Array Slot), LI dd cy ad bd s H1 locs1 → lv_has ls1 9 (LV b ad bd i) → W p l e room_1 s m args below meth c H1 locs1 (cells + 1) (slots + 6) Q (F0 m 3206 ls1 [])) : W p l e room_1 s m args below meth c H locs cells slots Q (F0 m 516 ls []) := by
  have hx := S.1
  have hb := S.2.1
  have hts := S.2.2.2.2
  obtain ⟨ts, tc, rk, pl, ru, sl, bg, kn, rm, ol, od, th, ce, sz, wy, op, N, hI, X⟩ := J
  obtain ⟨x1, e1⟩ : ∃ x, xs (i + nI 1).toNatClampNeg = x := ⟨_, rfl⟩
  obtain ⟨k, g, bv, t, f1, f2, htk, hk, N', hI'⟩ := q_length (fu := 2000) (ol := ol) (th := th) hI (Nat.le_refl 2000) x1
  obtain rfl : k = t := htk.symm
  refine lv_aload_n hx hb dL_law_516 rfl (lv_at hl 1 rfl) ?_
  refine ll_ld hx hb hX hbl X.2.2.2.2 (lv_at hl 0 rfl) (lv_at hl 5 rfl) 1 (by decide) (hin 1 (by decide)) e1 dL_law_517 dL_law_518 dL_law_520 dL_law_521 dL_law_522 ?_
  refine lv_aload_n hx hb dL_law_523 rfl (lv_at hl 3 rfl) ?_
  refine xf_S (As := [.ref (ad 14), .int x1, .ref (ad 24)]) (rest := []) S (mL_length htr f1) (vx_cwSW 3 hts gL_law_L_length rfl rfl rfl (by decide +kernel) ⟨Nat.le_of_ble_eq_true rfl, Nat.le_of_ble_eq_true rfl⟩) X hT rfl hl.1 rfl (Nat.le_of_ble_eq_true rfl) dL_law_524 hR (fun H locs X => ?_)
  refine lv_istore (lv' := (6, .int k) :: LV b ad bd i) hx hb dL_law_527 hl (by decide) rfl (fun ls hl => ?_)
  refine lv_aload_n hx hb dL_law_529 rfl (lv_at hl 3 rfl) ?_
  refine ll_ld hx hb hX hbl X.2.2.2.2 (lv_at hl 1 rfl) (lv_at hl 6 rfl) 1 (by decide) (hin 1 (by decide)) e1 dL_law_530 dL_law_531 dL_law_533 dL_law_534 dL_law_535 ?_
  refine xf_V (As := [.int x1]) (rest := []) S (mX6_length f2) (cwV 1 hts gL_law_X6_length rfl rfl rfl hqX6_length ⟨Nat.le_of_ble_eq_true rfl, Nat.le_of_ble_eq_true rfl⟩) X.swap (va_recv X.swap.1 X.swap.2.1 (ci := 4) (q0 := 0) rfl (ap_l wlR_0)) rfl hl.1 rfl (Nat.le_of_ble_eq_true rfl) dL_law_536 hR (fun H locs X => ?_)
  have X := X.swap
  refine lv_istore (lv' := (7, .int bv) :: (6, .int k) :: LV b ad bd i) hx hb dL_law_539 hl (by decide) rfl (fun ls hl => ?_)
  refine ll_thr S gL_law_X6_thrown X (lv_at hl 4 rfl) (lv_at hl 1 rfl) hl.1 hR dL_law_541 dL_law_542 dL_law_545 dL_law_547 (fun H locs X => ?_)
  refine ll_endI hx hb X hk (lv_at hl 5 rfl) (lv_at hl 1 rfl) (lv_at hl 0 rfl) dL_law_552 dL_law_554 dL_law_557 dL_law_558 dL_law_559 dL_law_560 dL_law_562 dL_law_563 dL_law_564 dL_law_569 (by decide) ?_
  exact kk _ _ _ ⟨_, _, _, _, _, _, _, _, _, _, _, _, _, _, _, _, N', hI', X⟩ (lv_sub hl [2, 3, 4, 5, 6, 7] rfl)
set_option maxRecDepth 100000 in
set_option maxHeartbeats 4000000 in
theorem ca_signAt {p : Program} {l : Launch} {e : Env} {s : State} {m : MethodId} {args : Array Value} {below : List Frame} {meth : Method} {c : Code} {H : Heap} {locs : List Loc} {cells slots : Nat} {Q : State → Prop} {ls : Array Slot} {dd : va_G} {cy : Nat → ClassId} {ad bd : Nat → Nat} {b L : Nat} {xs : Nat → Int32} {i : Int32} (S : CallFix p m c cL_law 9 s args wsL_law RL) (hX : va_X b L xs s s.heap) (hbl : b < s.heap.size) (hT : TH (LA s) s s.heap) (htr : l.stackTraces = false) (J : LI dd cy ad bd s H locs) (hin : ∀ k : Nat, k < 9 → vp_in (i + nI k) L) (hl : lv_has ls 9 (LV b ad bd i)) (hR : cells + 1 ≤ room_1.cells ∧ slots + 6 ≤ room_1.slots) (kk : ∀ (H1 : Heap) (locs1 : List Loc) (ls1 : Array Slot), LI dd cy ad bd s H1 locs1 → lv_has ls1 9 (LV b ad bd i) → W p l e room_1 s m args below meth c H1 locs1 (cells + 1) (slots + 6) Q (F0 m 3206 ls1 [])) : W p l e room_1 s m args below meth c H locs cells slots Q (F0 m 572 ls []) := by
  have hx := S.1
  have hb := S.2.1
  have hts := S.2.2.2.2
  obtain ⟨ts, tc, rk, pl, ru, sl, bg, kn, rm, ol, od, th, ce, sz, wy, op, N, hI, X⟩ := J
  obtain ⟨x1, e1⟩ : ∃ x, xs (i + nI 1).toNatClampNeg = x := ⟨_, rfl⟩
  obtain ⟨x2, e2⟩ : ∃ x, xs (i + nI 2).toNatClampNeg = x := ⟨_, rfl⟩
  obtain ⟨k, g, bv, t, f1, f2, htk, hk, N', hI'⟩ := q_signAt (fu := 2000) (ol := ol) (th := th) hI (Nat.le_refl 2000) x1 x2
  obtain rfl : k = t := htk.symm
  refine lv_aload_n hx hb dL_law_572 rfl (lv_at hl 1 rfl) ?_
  refine ll_ld hx hb hX hbl X.2.2.2.2 (lv_at hl 0 rfl) (lv_at hl 5 rfl) 1 (by decide) (hin 1 (by decide)) e1 dL_law_573 dL_law_574 dL_law_576 dL_law_577 dL_law_578 ?_
  refine ll_ld hx hb hX hbl X.2.2.2.2 (lv_at hl 0 rfl) (lv_at hl 5 rfl) 2 (by decide) (hin 2 (by decide)) e2 dL_law_579 dL_law_580 dL_law_582 dL_law_583 dL_law_584 ?_
  refine lv_aload_n hx hb dL_law_585 rfl (lv_at hl 3 rfl) ?_
  refine xf_S (As := [.ref (ad 14), .int x1, .int x2, .ref (ad 24)]) (rest := []) S (mL_signAt htr f1) (vx_cwSW 4 hts gL_law_L_signAt rfl rfl rfl (by decide +kernel) ⟨Nat.le_of_ble_eq_true rfl, Nat.le_of_ble_eq_true rfl⟩) X hT rfl hl.1 rfl (Nat.le_of_ble_eq_true rfl) dL_law_586 hR (fun H locs X => ?_)
  refine lv_istore (lv' := (6, .int k) :: LV b ad bd i) hx hb dL_law_589 hl (by decide) rfl (fun ls hl => ?_)
  refine lv_aload_n hx hb dL_law_591 rfl (lv_at hl 3 rfl) ?_
  refine ll_ld hx hb hX hbl X.2.2.2.2 (lv_at hl 1 rfl) (lv_at hl 6 rfl) 1 (by decide) (hin 1 (by decide)) e1 dL_law_592 dL_law_593 dL_law_595 dL_law_596 dL_law_597 ?_
  refine ll_ld hx hb hX hbl X.2.2.2.2 (lv_at hl 1 rfl) (lv_at hl 6 rfl) 2 (by decide) (hin 2 (by decide)) e2 dL_law_598 dL_law_599 dL_law_601 dL_law_602 dL_law_603 ?_
  refine xf_V (As := [.int x1, .int x2]) (rest := []) S (mX6_signAt f2) (cwV 2 hts gL_law_X6_signAt rfl rfl rfl hqX6_signAt ⟨Nat.le_of_ble_eq_true rfl, Nat.le_of_ble_eq_true rfl⟩) X.swap (va_recv X.swap.1 X.swap.2.1 (ci := 4) (q0 := 0) rfl (ap_l wlR_0)) rfl hl.1 rfl (Nat.le_of_ble_eq_true rfl) dL_law_604 hR (fun H locs X => ?_)
  have X := X.swap
  refine lv_istore (lv' := (7, .int bv) :: (6, .int k) :: LV b ad bd i) hx hb dL_law_607 hl (by decide) rfl (fun ls hl => ?_)
  refine ll_thr S gL_law_X6_thrown X (lv_at hl 4 rfl) (lv_at hl 1 rfl) hl.1 hR dL_law_609 dL_law_610 dL_law_613 dL_law_615 (fun H locs X => ?_)
  refine ll_endI hx hb X hk (lv_at hl 5 rfl) (lv_at hl 1 rfl) (lv_at hl 0 rfl) dL_law_620 dL_law_622 dL_law_625 dL_law_626 dL_law_627 dL_law_628 dL_law_630 dL_law_631 dL_law_632 dL_law_637 (by decide) ?_
  exact kk _ _ _ ⟨_, _, _, _, _, _, _, _, _, _, _, _, _, _, _, _, N', hI', X⟩ (lv_sub hl [2, 3, 4, 5, 6, 7] rfl)
set_option maxRecDepth 100000 in
set_option maxHeartbeats 4000000 in
theorem ca_join {p : Program} {l : Launch} {e : Env} {s : State} {m : MethodId} {args : Array Value} {below : List Frame} {meth : Method} {c : Code} {H : Heap} {locs : List Loc} {cells slots : Nat} {Q : State → Prop} {ls : Array Slot} {dd : va_G} {cy : Nat → ClassId} {ad bd : Nat → Nat} {b L : Nat} {xs : Nat → Int32} {i : Int32} (S : CallFix p m c cL_law 9 s args wsL_law RL) (hX : va_X b L xs s s.heap) (hbl : b < s.heap.size) (hT : TH (LA s) s s.heap) (htr : l.stackTraces = false) (J : LI dd cy ad bd s H locs) (hin : ∀ k : Nat, k < 9 → vp_in (i + nI k) L) (hl : lv_has ls 9 (LV b ad bd i)) (hR : cells + 1 ≤ room_1.cells ∧ slots + 6 ≤ room_1.slots) (kk : ∀ (H1 : Heap) (locs1 : List Loc) (ls1 : Array Slot), LI dd cy ad bd s H1 locs1 → lv_has ls1 9 (LV b ad bd i) → W p l e room_1 s m args below meth c H1 locs1 (cells + 1) (slots + 6) Q (F0 m 3206 ls1 [])) : W p l e room_1 s m args below meth c H locs cells slots Q (F0 m 640 ls []) := by
  have hx := S.1
  have hb := S.2.1
  have hts := S.2.2.2.2
  obtain ⟨ts, tc, rk, pl, ru, sl, bg, kn, rm, ol, od, th, ce, sz, wy, op, N, hI, X⟩ := J
  obtain ⟨x1, e1⟩ : ∃ x, xs (i + nI 1).toNatClampNeg = x := ⟨_, rfl⟩
  obtain ⟨x2, e2⟩ : ∃ x, xs (i + nI 2).toNatClampNeg = x := ⟨_, rfl⟩
  obtain ⟨x3, e3⟩ : ∃ x, xs (i + nI 3).toNatClampNeg = x := ⟨_, rfl⟩
  obtain ⟨k, ts', tc', g, bv, t, ce', sz', f1, f2, htk, hk, N', hI'⟩ := q_join (fu := 2000) (ol := ol) (th := th) hI (Nat.le_refl 2000) x1 x2 x3
  obtain rfl : k = t := htk.symm
  refine lv_aload_n hx hb dL_law_640 rfl (lv_at hl 1 rfl) ?_
  refine ll_ld hx hb hX hbl X.2.2.2.2 (lv_at hl 0 rfl) (lv_at hl 5 rfl) 1 (by decide) (hin 1 (by decide)) e1 dL_law_641 dL_law_642 dL_law_644 dL_law_645 dL_law_646 ?_
  refine ll_ld hx hb hX hbl X.2.2.2.2 (lv_at hl 0 rfl) (lv_at hl 5 rfl) 2 (by decide) (hin 2 (by decide)) e2 dL_law_647 dL_law_648 dL_law_650 dL_law_651 dL_law_652 ?_
  refine ll_ld hx hb hX hbl X.2.2.2.2 (lv_at hl 0 rfl) (lv_at hl 5 rfl) 3 (by decide) (hin 3 (by decide)) e3 dL_law_653 dL_law_654 dL_law_656 dL_law_657 dL_law_658 ?_
  refine lv_aload_n hx hb dL_law_659 rfl (lv_at hl 3 rfl) ?_
  refine xf_S (As := [.ref (ad 14), .int x1, .int x2, .int x3, .ref (ad 24)]) (rest := []) S (mL_join htr f1) (vx_cwSW 5 hts gL_law_L_join rfl rfl rfl (by decide +kernel) ⟨Nat.le_of_ble_eq_true rfl, Nat.le_of_ble_eq_true rfl⟩) X hT rfl hl.1 rfl (Nat.le_of_ble_eq_true rfl) dL_law_660 hR (fun H locs X => ?_)
  refine lv_istore (lv' := (6, .int k) :: LV b ad bd i) hx hb dL_law_663 hl (by decide) rfl (fun ls hl => ?_)
  refine lv_aload_n hx hb dL_law_665 rfl (lv_at hl 3 rfl) ?_
  refine ll_ld hx hb hX hbl X.2.2.2.2 (lv_at hl 1 rfl) (lv_at hl 6 rfl) 1 (by decide) (hin 1 (by decide)) e1 dL_law_666 dL_law_667 dL_law_669 dL_law_670 dL_law_671 ?_
  refine ll_ld hx hb hX hbl X.2.2.2.2 (lv_at hl 1 rfl) (lv_at hl 6 rfl) 2 (by decide) (hin 2 (by decide)) e2 dL_law_672 dL_law_673 dL_law_675 dL_law_676 dL_law_677 ?_
  refine ll_ld hx hb hX hbl X.2.2.2.2 (lv_at hl 1 rfl) (lv_at hl 6 rfl) 3 (by decide) (hin 3 (by decide)) e3 dL_law_678 dL_law_679 dL_law_681 dL_law_682 dL_law_683 ?_
  refine xf_V (As := [.int x1, .int x2, .int x3]) (rest := []) S (mX6_join f2) (cwV 3 hts gL_law_X6_join rfl rfl rfl hqX6_join ⟨Nat.le_of_ble_eq_true rfl, Nat.le_of_ble_eq_true rfl⟩) X.swap (va_recv X.swap.1 X.swap.2.1 (ci := 4) (q0 := 0) rfl (ap_l wlR_0)) rfl hl.1 rfl (Nat.le_of_ble_eq_true rfl) dL_law_684 hR (fun H locs X => ?_)
  have X := X.swap
  refine lv_istore (lv' := (7, .int bv) :: (6, .int k) :: LV b ad bd i) hx hb dL_law_687 hl (by decide) rfl (fun ls hl => ?_)
  refine ll_thr S gL_law_X6_thrown X (lv_at hl 4 rfl) (lv_at hl 1 rfl) hl.1 hR dL_law_689 dL_law_690 dL_law_693 dL_law_695 (fun H locs X => ?_)
  refine ll_endI hx hb X hk (lv_at hl 5 rfl) (lv_at hl 1 rfl) (lv_at hl 0 rfl) dL_law_700 dL_law_702 dL_law_705 dL_law_706 dL_law_707 dL_law_708 dL_law_710 dL_law_711 dL_law_712 dL_law_717 (by decide) ?_
  exact kk _ _ _ ⟨_, _, _, _, _, _, _, _, _, _, _, _, _, _, _, _, N', hI', X⟩ (lv_sub hl [2, 3, 4, 5, 6, 7] rfl)
set_option maxRecDepth 100000 in
set_option maxHeartbeats 4000000 in
theorem ca_repeat {p : Program} {l : Launch} {e : Env} {s : State} {m : MethodId} {args : Array Value} {below : List Frame} {meth : Method} {c : Code} {H : Heap} {locs : List Loc} {cells slots : Nat} {Q : State → Prop} {ls : Array Slot} {dd : va_G} {cy : Nat → ClassId} {ad bd : Nat → Nat} {b L : Nat} {xs : Nat → Int32} {i : Int32} (S : CallFix p m c cL_law 9 s args wsL_law RL) (hX : va_X b L xs s s.heap) (hbl : b < s.heap.size) (hT : TH (LA s) s s.heap) (htr : l.stackTraces = false) (J : LI dd cy ad bd s H locs) (hin : ∀ k : Nat, k < 9 → vp_in (i + nI k) L) (hl : lv_has ls 9 (LV b ad bd i)) (hR : cells + 1 ≤ room_1.cells ∧ slots + 6 ≤ room_1.slots) (kk : ∀ (H1 : Heap) (locs1 : List Loc) (ls1 : Array Slot), LI dd cy ad bd s H1 locs1 → lv_has ls1 9 (LV b ad bd i) → W p l e room_1 s m args below meth c H1 locs1 (cells + 1) (slots + 6) Q (F0 m 3206 ls1 [])) : W p l e room_1 s m args below meth c H locs cells slots Q (F0 m 720 ls []) := by
  have hx := S.1
  have hb := S.2.1
  have hts := S.2.2.2.2
  obtain ⟨ts, tc, rk, pl, ru, sl, bg, kn, rm, ol, od, th, ce, sz, wy, op, N, hI, X⟩ := J
  obtain ⟨x1, e1⟩ : ∃ x, xs (i + nI 1).toNatClampNeg = x := ⟨_, rfl⟩
  obtain ⟨x2, e2⟩ : ∃ x, xs (i + nI 2).toNatClampNeg = x := ⟨_, rfl⟩
  obtain ⟨x3, e3⟩ : ∃ x, xs (i + nI 3).toNatClampNeg = x := ⟨_, rfl⟩
  obtain ⟨k, ts', tc', g, bv, t, ce', sz', f1, f2, htk, hk, N', hI'⟩ := q_repeat (fu := 2000) (ol := ol) (th := th) hI (Nat.le_refl 2000) x1 x2 x3
  obtain rfl : k = t := htk.symm
  refine lv_aload_n hx hb dL_law_720 rfl (lv_at hl 1 rfl) ?_
  refine ll_ld hx hb hX hbl X.2.2.2.2 (lv_at hl 0 rfl) (lv_at hl 5 rfl) 1 (by decide) (hin 1 (by decide)) e1 dL_law_721 dL_law_722 dL_law_724 dL_law_725 dL_law_726 ?_
  refine ll_ld hx hb hX hbl X.2.2.2.2 (lv_at hl 0 rfl) (lv_at hl 5 rfl) 2 (by decide) (hin 2 (by decide)) e2 dL_law_727 dL_law_728 dL_law_730 dL_law_731 dL_law_732 ?_
  refine ll_ld hx hb hX hbl X.2.2.2.2 (lv_at hl 0 rfl) (lv_at hl 5 rfl) 3 (by decide) (hin 3 (by decide)) e3 dL_law_733 dL_law_734 dL_law_736 dL_law_737 dL_law_738 ?_
  refine lv_aload_n hx hb dL_law_739 rfl (lv_at hl 3 rfl) ?_
  refine xf_S (As := [.ref (ad 14), .int x1, .int x2, .int x3, .ref (ad 24)]) (rest := []) S (mL_repeat htr f1) (vx_cwSW 5 hts gL_law_L_repeat rfl rfl rfl (by decide +kernel) ⟨Nat.le_of_ble_eq_true rfl, Nat.le_of_ble_eq_true rfl⟩) X hT rfl hl.1 rfl (Nat.le_of_ble_eq_true rfl) dL_law_740 hR (fun H locs X => ?_)
  refine lv_istore (lv' := (6, .int k) :: LV b ad bd i) hx hb dL_law_743 hl (by decide) rfl (fun ls hl => ?_)
  refine lv_aload_n hx hb dL_law_745 rfl (lv_at hl 3 rfl) ?_
  refine ll_ld hx hb hX hbl X.2.2.2.2 (lv_at hl 1 rfl) (lv_at hl 6 rfl) 1 (by decide) (hin 1 (by decide)) e1 dL_law_746 dL_law_747 dL_law_749 dL_law_750 dL_law_751 ?_
  refine ll_ld hx hb hX hbl X.2.2.2.2 (lv_at hl 1 rfl) (lv_at hl 6 rfl) 2 (by decide) (hin 2 (by decide)) e2 dL_law_752 dL_law_753 dL_law_755 dL_law_756 dL_law_757 ?_
  refine ll_ld hx hb hX hbl X.2.2.2.2 (lv_at hl 1 rfl) (lv_at hl 6 rfl) 3 (by decide) (hin 3 (by decide)) e3 dL_law_758 dL_law_759 dL_law_761 dL_law_762 dL_law_763 ?_
  refine xf_V (As := [.int x1, .int x2, .int x3]) (rest := []) S (mX6_repeat f2) (cwV 3 hts gL_law_X6_repeat rfl rfl rfl hqX6_repeat ⟨Nat.le_of_ble_eq_true rfl, Nat.le_of_ble_eq_true rfl⟩) X.swap (va_recv X.swap.1 X.swap.2.1 (ci := 4) (q0 := 0) rfl (ap_l wlR_0)) rfl hl.1 rfl (Nat.le_of_ble_eq_true rfl) dL_law_764 hR (fun H locs X => ?_)
  have X := X.swap
  refine lv_istore (lv' := (7, .int bv) :: (6, .int k) :: LV b ad bd i) hx hb dL_law_767 hl (by decide) rfl (fun ls hl => ?_)
  refine ll_thr S gL_law_X6_thrown X (lv_at hl 4 rfl) (lv_at hl 1 rfl) hl.1 hR dL_law_769 dL_law_770 dL_law_773 dL_law_775 (fun H locs X => ?_)
  refine ll_endI hx hb X hk (lv_at hl 5 rfl) (lv_at hl 1 rfl) (lv_at hl 0 rfl) dL_law_780 dL_law_782 dL_law_785 dL_law_786 dL_law_787 dL_law_788 dL_law_790 dL_law_791 dL_law_792 dL_law_797 (by decide) ?_
  exact kk _ _ _ ⟨_, _, _, _, _, _, _, _, _, _, _, _, _, _, _, _, N', hI', X⟩ (lv_sub hl [2, 3, 4, 5, 6, 7] rfl)
set_option maxRecDepth 100000 in
set_option maxHeartbeats 4000000 in
theorem ca_part {p : Program} {l : Launch} {e : Env} {s : State} {m : MethodId} {args : Array Value} {below : List Frame} {meth : Method} {c : Code} {H : Heap} {locs : List Loc} {cells slots : Nat} {Q : State → Prop} {ls : Array Slot} {dd : va_G} {cy : Nat → ClassId} {ad bd : Nat → Nat} {b L : Nat} {xs : Nat → Int32} {i : Int32} (S : CallFix p m c cL_law 9 s args wsL_law RL) (hX : va_X b L xs s s.heap) (hbl : b < s.heap.size) (hT : TH (LA s) s s.heap) (htr : l.stackTraces = false) (J : LI dd cy ad bd s H locs) (hin : ∀ k : Nat, k < 9 → vp_in (i + nI k) L) (hl : lv_has ls 9 (LV b ad bd i)) (hR : cells + 1 ≤ room_1.cells ∧ slots + 6 ≤ room_1.slots) (kk : ∀ (H1 : Heap) (locs1 : List Loc) (ls1 : Array Slot), LI dd cy ad bd s H1 locs1 → lv_has ls1 9 (LV b ad bd i) → W p l e room_1 s m args below meth c H1 locs1 (cells + 1) (slots + 6) Q (F0 m 3206 ls1 [])) : W p l e room_1 s m args below meth c H locs cells slots Q (F0 m 800 ls []) := by
  have hx := S.1
  have hb := S.2.1
  have hts := S.2.2.2.2
  obtain ⟨ts, tc, rk, pl, ru, sl, bg, kn, rm, ol, od, th, ce, sz, wy, op, N, hI, X⟩ := J
  obtain ⟨x1, e1⟩ : ∃ x, xs (i + nI 1).toNatClampNeg = x := ⟨_, rfl⟩
  obtain ⟨x2, e2⟩ : ∃ x, xs (i + nI 2).toNatClampNeg = x := ⟨_, rfl⟩
  obtain ⟨x3, e3⟩ : ∃ x, xs (i + nI 3).toNatClampNeg = x := ⟨_, rfl⟩
  obtain ⟨x4, e4⟩ : ∃ x, xs (i + nI 4).toNatClampNeg = x := ⟨_, rfl⟩
  obtain ⟨k, ts', tc', g, bv, t, ce', sz', f1, f2, htk, hk, N', hI'⟩ := q_part (fu := 2000) (ol := ol) (th := th) hI (Nat.le_refl 2000) x1 x2 x3 x4
  obtain rfl : k = t := htk.symm
  refine lv_aload_n hx hb dL_law_800 rfl (lv_at hl 1 rfl) ?_
  refine ll_ld hx hb hX hbl X.2.2.2.2 (lv_at hl 0 rfl) (lv_at hl 5 rfl) 1 (by decide) (hin 1 (by decide)) e1 dL_law_801 dL_law_802 dL_law_804 dL_law_805 dL_law_806 ?_
  refine ll_ld hx hb hX hbl X.2.2.2.2 (lv_at hl 0 rfl) (lv_at hl 5 rfl) 2 (by decide) (hin 2 (by decide)) e2 dL_law_807 dL_law_808 dL_law_810 dL_law_811 dL_law_812 ?_
  refine ll_ld hx hb hX hbl X.2.2.2.2 (lv_at hl 0 rfl) (lv_at hl 5 rfl) 3 (by decide) (hin 3 (by decide)) e3 dL_law_813 dL_law_814 dL_law_816 dL_law_817 dL_law_818 ?_
  refine ll_ld hx hb hX hbl X.2.2.2.2 (lv_at hl 0 rfl) (lv_at hl 5 rfl) 4 (by decide) (hin 4 (by decide)) e4 dL_law_819 dL_law_820 dL_law_822 dL_law_823 dL_law_824 ?_
  refine lv_aload_n hx hb dL_law_825 rfl (lv_at hl 3 rfl) ?_
  refine xf_S (As := [.ref (ad 14), .int x1, .int x2, .int x3, .int x4, .ref (ad 24)]) (rest := []) S (mL_part htr f1) (vx_cwSW 6 hts gL_law_L_part rfl rfl rfl (by decide +kernel) ⟨Nat.le_of_ble_eq_true rfl, Nat.le_of_ble_eq_true rfl⟩) X hT rfl hl.1 rfl (Nat.le_of_ble_eq_true rfl) dL_law_826 hR (fun H locs X => ?_)
  refine lv_istore (lv' := (6, .int k) :: LV b ad bd i) hx hb dL_law_829 hl (by decide) rfl (fun ls hl => ?_)
  refine lv_aload_n hx hb dL_law_831 rfl (lv_at hl 3 rfl) ?_
  refine ll_ld hx hb hX hbl X.2.2.2.2 (lv_at hl 1 rfl) (lv_at hl 6 rfl) 1 (by decide) (hin 1 (by decide)) e1 dL_law_832 dL_law_833 dL_law_835 dL_law_836 dL_law_837 ?_
  refine ll_ld hx hb hX hbl X.2.2.2.2 (lv_at hl 1 rfl) (lv_at hl 6 rfl) 2 (by decide) (hin 2 (by decide)) e2 dL_law_838 dL_law_839 dL_law_841 dL_law_842 dL_law_843 ?_
  refine ll_ld hx hb hX hbl X.2.2.2.2 (lv_at hl 1 rfl) (lv_at hl 6 rfl) 3 (by decide) (hin 3 (by decide)) e3 dL_law_844 dL_law_845 dL_law_847 dL_law_848 dL_law_849 ?_
  refine ll_ld hx hb hX hbl X.2.2.2.2 (lv_at hl 1 rfl) (lv_at hl 6 rfl) 4 (by decide) (hin 4 (by decide)) e4 dL_law_850 dL_law_851 dL_law_853 dL_law_854 dL_law_855 ?_
  refine xf_V (As := [.int x1, .int x2, .int x3, .int x4]) (rest := []) S (mX6_part f2) (cwV 4 hts gL_law_X6_part rfl rfl rfl hqX6_part ⟨Nat.le_of_ble_eq_true rfl, Nat.le_of_ble_eq_true rfl⟩) X.swap (va_recv X.swap.1 X.swap.2.1 (ci := 4) (q0 := 0) rfl (ap_l wlR_0)) rfl hl.1 rfl (Nat.le_of_ble_eq_true rfl) dL_law_856 hR (fun H locs X => ?_)
  have X := X.swap
  refine lv_istore (lv' := (7, .int bv) :: (6, .int k) :: LV b ad bd i) hx hb dL_law_859 hl (by decide) rfl (fun ls hl => ?_)
  refine ll_thr S gL_law_X6_thrown X (lv_at hl 4 rfl) (lv_at hl 1 rfl) hl.1 hR dL_law_861 dL_law_862 dL_law_865 dL_law_867 (fun H locs X => ?_)
  refine ll_endI hx hb X hk (lv_at hl 5 rfl) (lv_at hl 1 rfl) (lv_at hl 0 rfl) dL_law_872 dL_law_874 dL_law_877 dL_law_878 dL_law_879 dL_law_880 dL_law_882 dL_law_883 dL_law_884 dL_law_889 (by decide) ?_
  exact kk _ _ _ ⟨_, _, _, _, _, _, _, _, _, _, _, _, _, _, _, _, N', hI', X⟩ (lv_sub hl [2, 3, 4, 5, 6, 7] rfl)
