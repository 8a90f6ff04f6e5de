def fX5_textOf (x1 : Int32) : Option (Except String Nat) :=
  if x1 < 0 then
    some (.error "java/lang/IndexOutOfBoundsException")
  else
    if x1 < (6 : Int32) then
      (ldA (fun k : Nat => k) 6 x1).bind fun a1 =>
      some (.ok a1)
    else
      some (.error "java/lang/IndexOutOfBoundsException")
def fX5_requireSign (x0 : Int32) : Option (Except String Unit) :=
  if x0 < (32 : Int32) then
    some (.error "java/lang/IllegalArgumentException")
  else
    if x0 ≤ (126 : Int32) then
      some (.ok ())
    else
      some (.error "java/lang/IllegalArgumentException")
def fX4_size (ts : Nat → Int32) (i : Nat) : Option (Int32) :=
  some (ts i)
def fX5_requireRoom (x0 : Int64) : Option (Except String Unit) :=
  if (lg_cmp x0 (60 : Int64)) ≤ 0 then
    some (.ok ())
  else
    some (.error "java/lang/IllegalStateException")
def fX4_add (ts : Nat → Int32) (tc : Nat → Nat → Int32) (i : Nat) (x1 : Int32) : Option ((Nat → Int32) × (Nat → Nat → Int32)) :=
  if (60 : Int32) ≤ (ts i) then
    some (ts, tc)
  else
    (stA (tc i) 60 (ts i) (vp_nar .char x1)).bind fun g1 =>
    some ((updL ts i ((ts i) + (1 : Int32))), (updL tc i g1))
def fX5_type (ts : Nat → Int32) (tc : Nat → Nat → Int32) (x1 : Int32) (x2 : Int32) : Option (Except String Int32 × (Nat → Int32) × (Nat → Nat → Int32)) :=
  (fX5_textOf x1).bind fun v1 => exb v1 (fun e9 => some (.error e9, ts, tc)) fun r2 =>
  (fX5_requireSign x2).bind fun v3 => exb v3 (fun e9 => some (.error e9, ts, tc)) fun r4 =>
  (fX4_size ts r2).bind fun v5 =>
  (fX5_requireRoom ((v5 + (1 : Int32)).toInt64)).bind fun v6 => exb v6 (fun e9 => some (.error e9, ts, tc)) fun r7 =>
  (fX4_add ts tc r2 x2).bind fun v8 =>
  (fX4_size v8.1 r2).bind fun v9 =>
  some (.ok v9, v8.1, v8.2)
def fX4_clear (ts : Nat → Int32) (i : Nat) : Option ((Nat → Int32)) :=
  some (updL ts i (0 : Int32))
def fX4_signOn (ts : Nat → Int32) (tc : Nat → Nat → Int32) (i : Nat) (x1 : Int32) : Option (Int32) :=
  if x1 < 0 then
    some (0 : Int32)
  else
    if x1 < (ts i) then
      (ldA (tc i) 60 x1).bind fun v1 =>
      (ckC v1).bind fun z9 => some z9
    else
      some (0 : Int32)
def fX4_addPart_3 (fu : Nat) (t0 : Nat) (t1 : Nat) (y3 : Int32) : Nat → Int32 → (Nat → Int32) → (Nat → Nat → Int32) → Option ((Nat → Int32) × (Nat → Nat → Int32))
  | 0, _, _, _ => none
  | n + 1, y4, ts, tc =>
    if y3 ≤ y4 then
      some (ts, tc)
    else
      (fX4_signOn ts tc t1 y4).bind fun v1 =>
      (fX4_add ts tc t0 v1).bind fun v2 =>
      fX4_addPart_3 fu t0 t1 y3 n (y4 + 1) v2.1 v2.2
def fX4_addPart (fu : Nat) (ts : Nat → Int32) (tc : Nat → Nat → Int32) (i : Nat) (j1 : Nat) (x2 : Int32) (x3 : Int32) : Option ((Nat → Int32) × (Nat → Nat → Int32)) :=
  fX4_addPart_3 fu i j1 x3 fu x2 ts tc
def fX5_typeMore_91 (fu : Nat) (y2 : Int32) (t9 : Nat) : Nat → Int32 → (Nat → Int32) → (Nat → Nat → Int32) → Option (Except String Int32 × (Nat → Int32) × (Nat → Nat → Int32))
  | 0, _, _, _ => none
  | n + 1, y10, ts, tc =>
    if y2 ≤ y10 then
      (fX4_size ts t9).bind fun v10 =>
      (fX5_requireRoom ((v10 + y2).toInt64)).bind fun v11 => exb v11 (fun e9 => some (.error e9, ts, tc)) fun r12 =>
      (fX4_addPart fu ts tc t9 6 (0 : Int32) y2).bind fun v13 =>
      (fX4_size v13.1 t9).bind fun v14 =>
      some (.ok v14, v13.1, v13.2)
    else
      (fX4_signOn ts tc 6 y10).bind fun v15 =>
      (fX5_requireSign v15).bind fun v16 => exb v16 (fun e9 => some (.error e9, ts, tc)) fun r17 =>
      fX5_typeMore_91 fu y2 t9 n (y10 + 1) ts tc
def fX5_typeMore (fu : Nat) (ts : Nat → Int32) (tc : Nat → Nat → Int32) (x1 : Int32) (x2 : Int32) (x3 : Int32) (x4 : Int32) (x5 : Int32) (x6 : Int32) (x7 : Int32) (x8 : Int32) : Option (Except String Int32 × (Nat → Int32) × (Nat → Nat → Int32)) :=
  (fX5_textOf x1).bind fun v1 => exb v1 (fun e9 => some (.error e9, ts, tc)) fun r2 =>
  if x2 < (1 : Int32) then
    some (.error "java/lang/IllegalArgumentException", ts, tc)
  else
    if x2 ≤ (6 : Int32) then
      (fX4_clear ts 6).bind fun v3 =>
      (fX4_add v3 tc 6 x3).bind fun v4 =>
      (fX4_add v4.1 v4.2 6 x4).bind fun v5 =>
      (fX4_add v5.1 v5.2 6 x5).bind fun v6 =>
      (fX4_add v6.1 v6.2 6 x6).bind fun v7 =>
      (fX4_add v7.1 v7.2 6 x7).bind fun v8 =>
      (fX4_add v8.1 v8.2 6 x8).bind fun v9 =>
      fX5_typeMore_91 fu x2 r2 fu (0 : Int32) v9.1 v9.2
    else
      some (.error "java/lang/IllegalArgumentException", ts, tc)
def fX5_erase (ts : Nat → Int32) (x1 : Int32) : Option (Except String Int32 × (Nat → Int32)) :=
  (fX5_textOf x1).bind fun v1 => exb v1 (fun e9 => some (.error e9, ts)) fun r2 =>
  (fX4_size ts r2).bind fun v3 =>
  (fX4_clear ts r2).bind fun v4 =>
  some (.ok v3, v4)
def fX5_length (ts : Nat → Int32) (x1 : Int32) : Option (Except String Int32) :=
  (fX5_textOf x1).bind fun v1 => exb v1 (fun e9 => some (.error e9)) fun r2 =>
  (fX4_size ts r2).bind fun v3 =>
  some (.ok v3)
def fX5_requirePlace (ts : Nat → Int32) (j0 : Nat) (x1 : Int32) : Option (Except String Unit) :=
  if x1 < 0 then
    some (.error "java/lang/IndexOutOfBoundsException")
  else
    (fX4_size ts j0).bind fun v1 =>
    if x1 < v1 then
      some (.ok ())
    else
      some (.error "java/lang/IndexOutOfBoundsException")
def fX5_signAt (ts : Nat → Int32) (tc : Nat → Nat → Int32) (x1 : Int32) (x2 : Int32) : Option (Except String Int32) :=
  (fX5_textOf x1).bind fun v1 => exb v1 (fun e9 => some (.error e9)) fun r2 =>
  (fX5_requirePlace ts r2 x2).bind fun v3 => exb v3 (fun e9 => some (.error e9)) fun r4 =>
  (fX4_signOn ts tc r2 x2).bind fun v5 =>
  (ckC v5).bind fun z9 => some (.ok z9)
def fX4_addAll (fu : Nat) (ts : Nat → Int32) (tc : Nat → Nat → Int32) (i : Nat) (j1 : Nat) : Option ((Nat → Int32) × (Nat → Nat → Int32)) :=
  (fX4_addPart fu ts tc i j1 (0 : Int32) (ts j1)).bind fun v1 =>
  some (v1.1, v1.2)
def fX4_become (fu : Nat) (ts : Nat → Int32) (tc : Nat → Nat → Int32) (i : Nat) (j1 : Nat) : Option ((Nat → Int32) × (Nat → Nat → Int32)) :=
  (fX4_clear ts i).bind fun v1 =>
  (fX4_addAll fu v1 tc i j1).bind fun v2 =>
  some (v2.1, v2.2)
def fX5_becomeBuilt (fu : Nat) (ts : Nat → Int32) (tc : Nat → Nat → Int32) (j1 : Nat) : Option (Int32 × (Nat → Int32) × (Nat → Nat → Int32)) :=
  (fX4_become fu ts tc j1 6).bind fun v1 =>
  (fX4_size v1.1 j1).bind fun v2 =>
  some (v2, v1.1, v1.2)
def fX5_join (fu : Nat) (ts : Nat → Int32) (tc : Nat → Nat → Int32) (x1 : Int32) (x2 : Int32) (x3 : Int32) : Option (Except String Int32 × (Nat → Int32) × (Nat → Nat → Int32)) :=
  (fX5_textOf x1).bind fun v1 => exb v1 (fun e9 => some (.error e9, ts, tc)) fun r2 =>
  (fX5_textOf x2).bind fun v3 => exb v3 (fun e9 => some (.error e9, ts, tc)) fun r4 =>
  (fX5_textOf x3).bind fun v5 => exb v5 (fun e9 => some (.error e9, ts, tc)) fun r6 =>
  (fX4_size ts r4).bind fun v7 =>
  (fX4_size ts r6).bind fun v8 =>
  (fX5_requireRoom ((v7 + v8).toInt64)).bind fun v9 => exb v9 (fun e9 => some (.error e9, ts, tc)) fun r10 =>
  (fX4_clear ts 6).bind fun v11 =>
  (fX4_addAll fu v11 tc 6 r4).bind fun v12 =>
  (fX4_addAll fu v12.1 v12.2 6 r6).bind fun v13 =>
  (fX5_becomeBuilt fu v13.1 v13.2 r2).bind fun v14 =>
  some (.ok v14.1, v14.2.1, v14.2.2)
def fX4_isEmpty (ts : Nat → Int32) (i : Nat) : Option (Int32) :=
  if (ts i) = 0 then
    some (1 : Int32)
  else
    some (0 : Int32)
def fX5_repeat_66 (fu : Nat) (t4 : Nat) (t5 : Nat) (y6 : Int32) : Nat → Int32 → (Nat → Int32) → (Nat → Nat → Int32) → Option (Except String Int32 × (Nat → Int32) × (Nat → Nat → Int32))
  | 0, _, _, _ => none
  | n + 1, y7, ts, tc =>
    if y6 ≤ y7 then
      (fX5_becomeBuilt fu ts tc t4).bind fun v10 =>
      some (.ok v10.1, v10.2.1, v10.2.2)
    else
      (fX4_addAll fu ts tc 6 t5).bind fun v11 =>
      fX5_repeat_66 fu t4 t5 y6 n (y7 + 1) v11.1 v11.2
def fX5_repeat_41 (fu : Nat) (t4 : Nat) (t5 : Nat) (s0 : Int32) (ts : Nat → Int32) (tc : Nat → Nat → Int32) : Option (Except String Int32 × (Nat → Int32) × (Nat → Nat → Int32)) :=
  (fX4_size ts t5).bind fun v6 =>
  (fX5_requireRoom ((v6.toInt64) * (s0.toInt64))).bind fun v7 => exb v7 (fun e9 => some (.error e9, ts, tc)) fun r8 =>
  (fX4_clear ts 6).bind fun v9 =>
  fX5_repeat_66 fu t4 t5 s0 fu (0 : Int32) v9 tc
def fX5_repeat (fu : Nat) (ts : Nat → Int32) (tc : Nat → Nat → Int32) (x1 : Int32) (x2 : Int32) (x3 : Int32) : Option (Except String Int32 × (Nat → Int32) × (Nat → Nat → Int32)) :=
  (fX5_textOf x1).bind fun v1 => exb v1 (fun e9 => some (.error e9, ts, tc)) fun r2 =>
  (fX5_textOf x2).bind fun v3 => exb v3 (fun e9 => some (.error e9, ts, tc)) fun r4 =>
  if 0 ≤ x3 then
    (fX4_isEmpty ts r4).bind fun v5 =>
    if v5 = 0 then
      fX5_repeat_41 fu r2 r4 x3 ts tc
    else
      fX5_repeat_41 fu r2 r4 (0 : Int32) ts tc
  else
    some (.error "java/lang/IllegalArgumentException", ts, tc)
def fX5_becomePart (fu : Nat) (ts : Nat → Int32) (tc : Nat → Nat → Int32) (j1 : Nat) (j2 : Nat) (x3 : Int32) (x4 : Int32) : Option (Int32 × (Nat → Int32) × (Nat → Nat → Int32)) :=
  (fX4_clear ts 6).bind fun v1 =>
  (fX4_addPart fu v1 tc 6 j2 x3 x4).bind fun v2 =>
  (fX5_becomeBuilt fu v2.1 v2.2 j1).bind fun v3 =>
  some (v3.1, v3.2.1, v3.2.2)
def fX5_part (fu : Nat) (ts : Nat → Int32) (tc : Nat → Nat → Int32) (x1 : Int32) (x2 : Int32) (x3 : Int32) (x4 : Int32) : Option (Except String Int32 × (Nat → Int32) × (Nat → Nat → Int32)) :=
  (fX5_textOf x1).bind fun v1 => exb v1 (fun e9 => some (.error e9, ts, tc)) fun r2 =>
  (fX5_textOf x2).bind fun v3 => exb v3 (fun e9 => some (.error e9, ts, tc)) fun r4 =>
  if x3 < 0 then
    some (.error "java/lang/IndexOutOfBoundsException", ts, tc)
  else
    if x4 < x3 then
      some (.error "java/lang/IndexOutOfBoundsException", ts, tc)
    else
      (fX4_size ts r4).bind fun v5 =>
      if x4 ≤ v5 then
        (fX5_becomePart fu ts tc r2 r4 x3 x4).bind fun v6 =>
        some (.ok v6.1, v6.2.1, v6.2.2)
      else
        some (.error "java/lang/IndexOutOfBoundsException", ts, tc)
def fX5_turn (fu : Nat) (ts : Nat → Int32) (tc : Nat → Nat → Int32) (x1 : Int32) (x2 : Int32) (x3 : Int32) : Option (Except String Int32 × (Nat → Int32) × (Nat → Nat → Int32)) :=
  (fX5_textOf x1).bind fun v1 => exb v1 (fun e9 => some (.error e9, ts, tc)) fun r2 =>
  (fX5_textOf x2).bind fun v3 => exb v3 (fun e9 => some (.error e9, ts, tc)) fun r4 =>
  if x3 < 0 then
    some (.error "java/lang/IndexOutOfBoundsException", ts, tc)
  else
    (fX4_size ts r4).bind fun v5 =>
    if x3 ≤ v5 then
      (fX4_clear ts 6).bind fun v6 =>
      (fX4_size v6 r4).bind fun v7 =>
      (fX4_addPart fu v6 tc 6 r4 x3 v7).bind fun v8 =>
      (fX4_addPart fu v8.1 v8.2 6 r4 (0 : Int32) x3).bind fun v9 =>
      (fX5_becomeBuilt fu v9.1 v9.2 r2).bind fun v10 =>
      some (.ok v10.1, v10.2.1, v10.2.2)
    else
      some (.error "java/lang/IndexOutOfBoundsException", ts, tc)
def fX5_back_29 (fu : Nat) (t3 : Nat) (t4 : Nat) : Nat → Int32 → (Nat → Int32) → (Nat → Nat → Int32) → Option (Except String Int32 × (Nat → Int32) × (Nat → Nat → Int32))
  | 0, _, _, _ => none
  | n + 1, y5, ts, tc =>
    if y5 < 0 then
      (fX5_becomeBuilt fu ts tc t3).bind fun v7 =>
      some (.ok v7.1, v7.2.1, v7.2.2)
    else
      (fX4_signOn ts tc t4 y5).bind fun v8 =>
      (fX4_add ts tc 6 v8).bind fun v9 =>
      fX5_back_29 fu t3 t4 n (y5 + (-1)) v9.1 v9.2
def fX5_back (fu : Nat) (ts : Nat → Int32) (tc : Nat → Nat → Int32) (x1 : Int32) (x2 : Int32) : Option (Except String Int32 × (Nat → Int32) × (Nat → Nat → Int32)) :=
  (fX5_textOf x1).bind fun v1 => exb v1 (fun e9 => some (.error e9, ts, tc)) fun r2 =>
  (fX5_textOf x2).bind fun v3 => exb v3 (fun e9 => some (.error e9, ts, tc)) fun r4 =>
  (fX4_clear ts 6).bind fun v5 =>
  (fX4_size v5 r4).bind fun v6 =>
  fX5_back_29 fu r2 r4 fu (v6 - (1 : Int32)) v5 tc
def fX5_requireNotEmpty (ts : Nat → Int32) (j0 : Nat) : Option (Except String Unit) :=
  (fX4_isEmpty ts j0).bind fun v1 =>
  if v1 = 0 then
    some (.ok ())
  else
    some (.error "java/lang/UnsupportedOperationException")
def fX4_alike_20 (fu : Nat) (ts : Nat → Int32) (tc : Nat → Nat → Int32) (t0 : Nat) (y1 : Int32) (t2 : Nat) (y3 : Int32) (y4 : Int32) : Nat → Int32 → Option (Int32)
  | 0, _ => none
  | n + 1, y5 =>
    if y4 ≤ y5 then
      some y5
    else
      (fX4_signOn ts tc t0 (y1 + y5)).bind fun v1 =>
      (fX4_signOn ts tc t2 (y3 + y5)).bind fun v2 =>
      if v1 = v2 then
        fX4_alike_20 fu ts tc t0 y1 t2 y3 y4 n (y5 + 1)
      else
        some y5
def fX4_alike (fu : Nat) (ts : Nat → Int32) (tc : Nat → Nat → Int32) (i : Nat) (x1 : Int32) (j2 : Nat) (x3 : Int32) : Option (Int32) :=
  fX4_alike_20 fu ts tc i x1 j2 x3 (miI ((ts i) - x1) ((ts j2) - x3)) fu (0 : Int32)
def fX4_hasAt (fu : Nat) (ts : Nat → Int32) (tc : Nat → Nat → Int32) (i : Nat) (x1 : Int32) (j2 : Nat) : Option (Int32) :=
  (fX4_alike fu ts tc i x1 j2 (0 : Int32)).bind fun v1 =>
  if v1 = (ts j2) then
    some (1 : Int32)
  else
    some (0 : Int32)
def fX4_countOf_8 (fu : Nat) (ts : Nat → Int32) (tc : Nat → Nat → Int32) (t0 : Nat) (t1 : Nat) (y2 : Int32) : Nat → Int32 → Int32 → Int32 → Option (Int32)
  | 0, _, _, _ => none
  | n + 1, y3, y4, y5 =>
    if ((ts t0) - (ts t1)) < y5 then
      some y3
    else
      if y5 < y4 then
        fX4_countOf_8 fu ts tc t0 t1 y2 n y3 y4 (y5 + 1)
      else
        (fX4_hasAt fu ts tc t0 y5 t1).bind fun v1 =>
        if v1 = 0 then
          fX4_countOf_8 fu ts tc t0 t1 y2 n y3 y4 (y5 + 1)
        else
          if y2 = 0 then
            fX4_countOf_8 fu ts tc t0 t1 y2 n (y3 + 1) y5 (y5 + 1)
          else
            fX4_countOf_8 fu ts tc t0 t1 y2 n (y3 + 1) (y5 + (ts t1)) (y5 + 1)
def fX4_countOf (fu : Nat) (ts : Nat → Int32) (tc : Nat → Nat → Int32) (i : Nat) (j1 : Nat) (x2 : Int32) : Option (Int32) :=
  fX4_countOf_8 fu ts tc i j1 x2 fu (0 : Int32) (0 : Int32) (0 : Int32)
def fX5_buildInstead_13 (fu : Nat) (t1 : Nat) (t2 : Nat) (t3 : Nat) : Nat → Int32 → Int32 → (Nat → Int32) → (Nat → Nat → Int32) → Option ((Nat → Int32) × (Nat → Nat → Int32))
  | 0, _, _, _, _ => none
  | n + 1, y4, y5, ts, tc =>
    (fX4_size ts t1).bind fun v2 =>
    if v2 ≤ y5 then
      some (ts, tc)
    else
      if y5 < y4 then
        fX5_buildInstead_13 fu t1 t2 t3 n y4 (y5 + 1) ts tc
      else
        (fX4_hasAt fu ts tc t1 y5 t2).bind fun v3 =>
        if v3 = 0 then
          (fX4_signOn ts tc t1 y5).bind fun v4 =>
          (fX4_add ts tc 6 v4).bind fun v5 =>
          fX5_buildInstead_13 fu t1 t2 t3 n y4 (y5 + 1) v5.1 v5.2
        else
          (fX4_addAll fu ts tc 6 t3).bind fun v6 =>
          (fX4_size v6.1 t2).bind fun v7 =>
          fX5_buildInstead_13 fu t1 t2 t3 n (y5 + v7) (y5 + 1) v6.1 v6.2
def fX5_buildInstead (fu : Nat) (ts : Nat → Int32) (tc : Nat → Nat → Int32) (j1 : Nat) (j2 : Nat) (j3 : Nat) : Option ((Nat → Int32) × (Nat → Nat → Int32)) :=
  (fX4_clear ts 6).bind fun v1 =>
  fX5_buildInstead_13 fu j1 j2 j3 fu (0 : Int32) (0 : Int32) v1 tc
def fX5_put (fu : Nat) (ts : Nat → Int32) (tc : Nat → Nat → Int32) (x1 : Int32) (x2 : Int32) (x3 : Int32) (x4 : Int32) : Option (Except String Int32 × (Nat → Int32) × (Nat → Nat → Int32)) :=
  (fX5_textOf x1).bind fun v1 => exb v1 (fun e9 => some (.error e9, ts, tc)) fun r2 =>
  (fX5_textOf x2).bind fun v3 => exb v3 (fun e9 => some (.error e9, ts, tc)) fun r4 =>
  (fX5_textOf x3).bind fun v5 => exb v5 (fun e9 => some (.error e9, ts, tc)) fun r6 =>
  (fX5_textOf x4).bind fun v7 => exb v7 (fun e9 => some (.error e9, ts, tc)) fun r8 =>
  (fX5_requireNotEmpty ts r6).bind fun v9 => exb v9 (fun e9 => some (.error e9, ts, tc)) fun r10 =>
  (fX4_countOf fu ts tc r4 r6 (1 : Int32)).bind fun v11 =>
  (fX4_size ts r4).bind fun v12 =>
  (fX4_size ts r8).bind fun v13 =>
  (fX4_size ts r6).bind fun v14 =>
  (fX5_requireRoom ((v12 + (v11 * (v13 - v14))).toInt64)).bind fun v15 => exb v15 (fun e9 => some (.error e9, ts, tc)) fun r16 =>
  (fX5_buildInstead fu ts tc r4 r6 r8).bind fun v17 =>
  (fX5_becomeBuilt fu v17.1 v17.2 r2).bind fun v18 =>
  some (.ok v18.1, v18.2.1, v18.2.2)
def fX5_first_42 (fu : Nat) (ts : Nat → Int32) (tc : Nat → Nat → Int32) (t4 : Nat) (t5 : Nat) (y6 : Int32) : Nat → Int32 → Option (Except String Int32)
  | 0, _ => none
  | n + 1, y7 =>
    if y6 < y7 then
      some (.ok (-1 : Int32))
    else
      (fX4_hasAt fu ts tc t4 y7 t5).bind fun v8 =>
      if v8 = 0 then
        fX5_first_42 fu ts tc t4 t5 y6 n (y7 + 1)
      else
        some (.ok y7)
def fX5_first (fu : Nat) (ts : Nat → Int32) (tc : Nat → Nat → Int32) (x1 : Int32) (x2 : Int32) (x3 : Int32) : Option (Except String Int32) :=
  (fX5_textOf x1).bind fun v1 => exb v1 (fun e9 => some (.error e9)) fun r2 =>
  (fX5_textOf x2).bind fun v3 => exb v3 (fun e9 => some (.error e9)) fun r4 =>
  (fX4_size ts r2).bind fun v5 =>
  (fX4_size ts r4).bind fun v6 =>
  (fX4_size ts r2).bind fun v7 =>
  fX5_first_42 fu ts tc r2 r4 (v5 - v6) fu (mxI (0 : Int32) (miI x3 v7))
def fX5_last_31 (fu : Nat) (ts : Nat → Int32) (tc : Nat → Nat → Int32) (t4 : Nat) (t5 : Nat) : Nat → Int32 → Option (Except String Int32)
  | 0, _ => none
  | n + 1, y6 =>
    if y6 < 0 then
      some (.ok (-1 : Int32))
    else
      (fX4_hasAt fu ts tc t4 y6 t5).bind fun v7 =>
      if v7 = 0 then
        fX5_last_31 fu ts tc t4 t5 n (y6 + (-1))
      else
        some (.ok y6)
def fX5_last (fu : Nat) (ts : Nat → Int32) (tc : Nat → Nat → Int32) (x1 : Int32) (x2 : Int32) (x3 : Int32) : Option (Except String Int32) :=
  (fX5_textOf x1).bind fun v1 => exb v1 (fun e9 => some (.error e9)) fun r2 =>
  (fX5_textOf x2).bind fun v3 => exb v3 (fun e9 => some (.error e9)) fun r4 =>
  (fX4_size ts r2).bind fun v5 =>
  (fX4_size ts r4).bind fun v6 =>
  fX5_last_31 fu ts tc r2 r4 fu (miI x3 (v5 - v6))
def fX5_many (fu : Nat) (ts : Nat → Int32) (tc : Nat → Nat → Int32) (x1 : Int32) (x2 : Int32) (x3 : Int32) : Option (Except String Int32) :=
  (fX5_textOf x1).bind fun v1 => exb v1 (fun e9 => some (.error e9)) fun r2 =>
  (fX5_textOf x2).bind fun v3 => exb v3 (fun e9 => some (.error e9)) fun r4 =>
  (fX5_requireNotEmpty ts r4).bind fun v5 => exb v5 (fun e9 => some (.error e9)) fun r6 =>
  (fX4_countOf fu ts tc r2 r4 x3).bind fun v7 =>
  some (.ok v7)
def fX4_compareWith (fu : Nat) (ts : Nat → Int32) (tc : Nat → Nat → Int32) (i : Nat) (j1 : Nat) : Option (Int32) :=
  (fX4_alike fu ts tc i (0 : Int32) j1 (0 : Int32)).bind fun v1 =>
  if (ts i) ≤ v1 then
    some ((ts i) - (ts j1))
  else
    if (ts j1) ≤ v1 then
      some ((ts i) - (ts j1))
    else
      (fX4_signOn ts tc i v1).bind fun v2 =>
      (fX4_signOn ts tc j1 v1).bind fun v3 =>
      some (v2 - v3)
def fX5_isSame (fu : Nat) (ts : Nat → Int32) (tc : Nat → Nat → Int32) (x1 : Int32) (x2 : Int32) : Option (Except String Int32) :=
  (fX5_textOf x1).bind fun v1 => exb v1 (fun e9 => some (.error e9)) fun r2 =>
  (fX5_textOf x2).bind fun v3 => exb v3 (fun e9 => some (.error e9)) fun r4 =>
  (fX4_compareWith fu ts tc r2 r4).bind fun v5 =>
  if v5 = 0 then
    some (.ok (1 : Int32))
  else
    some (.ok (0 : Int32))
def fX5_compare (fu : Nat) (ts : Nat → Int32) (tc : Nat → Nat → Int32) (x1 : Int32) (x2 : Int32) : Option (Except String Int32) :=
  (fX5_textOf x1).bind fun v1 => exb v1 (fun e9 => some (.error e9)) fun r2 =>
  (fX5_textOf x2).bind fun v3 => exb v3 (fun e9 => some (.error e9)) fun r4 =>
  (fX4_compareWith fu ts tc r2 r4).bind fun v5 =>
  some (.ok v5)
def fX5_common (fu : Nat) (ts : Nat → Int32) (tc : Nat → Nat → Int32) (x1 : Int32) (x2 : Int32) : Option (Except String Int32) :=
  (fX5_textOf x1).bind fun v1 => exb v1 (fun e9 => some (.error e9)) fun r2 =>
  (fX5_textOf x2).bind fun v3 => exb v3 (fun e9 => some (.error e9)) fun r4 =>
  (fX4_alike fu ts tc r2 (0 : Int32) r4 (0 : Int32)).bind fun v5 =>
  some (.ok v5)
def fX4_alikeAtEnd_14 (fu : Nat) (ts : Nat → Int32) (tc : Nat → Nat → Int32) (t0 : Nat) (t1 : Nat) (y2 : Int32) : Nat → Int32 → Option (Int32)
  | 0, _ => none
  | n + 1, y3 =>
    if y2 ≤ y3 then
      some y3
    else
      (fX4_signOn ts tc t0 (((ts t0) - (1 : Int32)) - y3)).bind fun v1 =>
      (fX4_signOn ts tc t1 (((ts t1) - (1 : Int32)) - y3)).bind fun v2 =>
      if v1 = v2 then
        fX4_alikeAtEnd_14 fu ts tc t0 t1 y2 n (y3 + 1)
      else
        some y3
def fX4_alikeAtEnd (fu : Nat) (ts : Nat → Int32) (tc : Nat → Nat → Int32) (i : Nat) (j1 : Nat) : Option (Int32) :=
  fX4_alikeAtEnd_14 fu ts tc i j1 (miI (ts i) (ts j1)) fu (0 : Int32)
def fX5_commonEnd (fu : Nat) (ts : Nat → Int32) (tc : Nat → Nat → Int32) (x1 : Int32) (x2 : Int32) : Option (Except String Int32) :=
  (fX5_textOf x1).bind fun v1 => exb v1 (fun e9 => some (.error e9)) fun r2 =>
  (fX5_textOf x2).bind fun v3 => exb v3 (fun e9 => some (.error e9)) fun r4 =>
  (fX4_alikeAtEnd fu ts tc r2 r4).bind fun v5 =>
  some (.ok v5)
def fX4_hashFrom_4 (fu : Nat) (ts : Nat → Int32) (tc : Nat → Nat → Int32) (t0 : Nat) : Nat → Int32 → Int32 → Option (Int32)
  | 0, _, _ => none
  | n + 1, y2, y3 =>
    if (ts t0) ≤ y3 then
      some y2
    else
      (fX4_signOn ts tc t0 y3).bind fun v1 =>
      fX4_hashFrom_4 fu ts tc t0 n ((y2 * (31 : Int32)) + v1) (y3 + 1)
def fX4_hashFrom (fu : Nat) (ts : Nat → Int32) (tc : Nat → Nat → Int32) (i : Nat) (x1 : Int32) : Option (Int32) :=
  fX4_hashFrom_4 fu ts tc i fu x1 (0 : Int32)
def fX5_hash (fu : Nat) (ts : Nat → Int32) (tc : Nat → Nat → Int32) (x1 : Int32) : Option (Except String Int32) :=
  (fX5_textOf x1).bind fun v1 => exb v1 (fun e9 => some (.error e9)) fun r2 =>
  (fX4_hashFrom fu ts tc r2 (0 : Int32)).bind fun v3 =>
  some (.ok v3)
def fX5_hashJoined (fu : Nat) (ts : Nat → Int32) (tc : Nat → Nat → Int32) (x1 : Int32) (x2 : Int32) : Option (Except String Int32) :=
  (fX5_textOf x1).bind fun v1 => exb v1 (fun e9 => some (.error e9)) fun r2 =>
  (fX5_textOf x2).bind fun v3 => exb v3 (fun e9 => some (.error e9)) fun r4 =>
  (fX4_hashFrom fu ts tc r2 (0 : Int32)).bind fun v5 =>
  (fX4_hashFrom fu ts tc r4 v5).bind fun v6 =>
  some (.ok v6)
def fX4_hashFactor_4 (fu : Nat) (ts : Nat → Int32) (t0 : Nat) : Nat → Int32 → Int32 → Option (Int32)
  | 0, _, _ => none
  | n + 1, y1, y2 =>
    if (ts t0) ≤ y2 then
      some y1
    else
      fX4_hashFactor_4 fu ts t0 n (y1 * (31 : Int32)) (y2 + 1)
def fX4_hashFactor (fu : Nat) (ts : Nat → Int32) (i : Nat) : Option (Int32) :=
  fX4_hashFactor_4 fu ts i fu (1 : Int32) (0 : Int32)
def fX5_hashRepeated_46 (fu : Nat) (ts : Nat → Int32) (tc : Nat → Nat → Int32) (y2 : Int32) (y4 : Int32) (y5 : Int32) : Nat → Int32 → Int32 → Option (Except String Int32)
  | 0, _, _ => none
  | n + 1, y6, y7 =>
    if y2 ≤ y7 then
      some (.ok y6)
    else
      fX5_hashRepeated_46 fu ts tc y2 y4 y5 n ((y6 * y5) + y4) (y7 + 1)
def fX5_hashRepeated (fu : Nat) (ts : Nat → Int32) (tc : Nat → Nat → Int32) (x1 : Int32) (x2 : Int32) : Option (Except String Int32) :=
  (fX5_textOf x1).bind fun v1 => exb v1 (fun e9 => some (.error e9)) fun r2 =>
  if x2 < 0 then
    some (.error "java/lang/IllegalArgumentException")
  else
    if x2 ≤ (1000 : Int32) then
      (fX4_hashFrom fu ts tc r2 (0 : Int32)).bind fun v3 =>
      (fX4_hashFactor fu ts r2).bind fun v4 =>
      fX5_hashRepeated_46 fu ts tc x2 v3 v4 fu (0 : Int32) (0 : Int32)
    else
      some (.error "java/lang/IllegalArgumentException")
def fX4_hasPeriod (fu : Nat) (ts : Nat → Int32) (tc : Nat → Nat → Int32) (i : Nat) (x1 : Int32) : Option (Int32) :=
  (fX4_alike fu ts tc i x1 i (0 : Int32)).bind fun v1 =>
  if v1 = ((ts i) - x1) then
    some (1 : Int32)
  else
    some (0 : Int32)
def fX4_countPeriods_4 (fu : Nat) (ts : Nat → Int32) (tc : Nat → Nat → Int32) (t0 : Nat) : Nat → Int32 → Int32 → Option (Int32)
  | 0, _, _ => none
  | n + 1, y1, y2 =>
    if (ts t0) < y2 then
      some y1
    else
      (fX4_hasPeriod fu ts tc t0 y2).bind fun v1 =>
      if v1 = 0 then
        fX4_countPeriods_4 fu ts tc t0 n y1 (y2 + 1)
      else
        fX4_countPeriods_4 fu ts tc t0 n (y1 + 1) (y2 + 1)
def fX4_countPeriods (fu : Nat) (ts : Nat → Int32) (tc : Nat → Nat → Int32) (i : Nat) : Option (Int32) :=
  fX4_countPeriods_4 fu ts tc i fu (0 : Int32) (1 : Int32)
def fX5_periods (fu : Nat) (ts : Nat → Int32) (tc : Nat → Nat → Int32) (x1 : Int32) : Option (Except String Int32) :=
  (fX5_textOf x1).bind fun v1 => exb v1 (fun e9 => some (.error e9)) fun r2 =>
  (fX4_countPeriods fu ts tc r2).bind fun v3 =>
  some (.ok v3)
def fX5_periodAt_12 (fu : Nat) (ts : Nat → Int32) (tc : Nat → Nat → Int32) (y2 : Int32) (t3 : Nat) : Nat → Int32 → Int32 → Option (Except String Int32)
  | 0, _, _ => none
  | n + 1, y4, y5 =>
    (fX4_size ts t3).bind fun v3 =>
    if v3 < y5 then
      some (.error "java/util/NoSuchElementException")
    else
      (fX4_hasPeriod fu ts tc t3 y5).bind fun v4 =>
      if v4 = 0 then
        fX5_periodAt_12 fu ts tc y2 t3 n y4 (y5 + 1)
      else
        if y4 = y2 then
          some (.ok y5)
        else
          fX5_periodAt_12 fu ts tc y2 t3 n (y4 + 1) (y5 + 1)
def fX5_periodAt (fu : Nat) (ts : Nat → Int32) (tc : Nat → Nat → Int32) (x1 : Int32) (x2 : Int32) : Option (Except String Int32) :=
  (fX5_textOf x1).bind fun v1 => exb v1 (fun e9 => some (.error e9)) fun r2 =>
  fX5_periodAt_12 fu ts tc x2 r2 fu (0 : Int32) (1 : Int32)
def fX4_leastPeriod_2 (fu : Nat) (ts : Nat → Int32) (tc : Nat → Nat → Int32) (t0 : Nat) : Nat → Int32 → Option (Int32)
  | 0, _ => none
  | n + 1, y1 =>
    if (ts t0) ≤ y1 then
      some (ts t0)
    else
      (fX4_hasPeriod fu ts tc t0 y1).bind fun v1 =>
      if v1 = 0 then
        fX4_leastPeriod_2 fu ts tc t0 n (y1 + 1)
      else
        some y1
def fX4_leastPeriod (fu : Nat) (ts : Nat → Int32) (tc : Nat → Nat → Int32) (i : Nat) : Option (Int32) :=
  fX4_leastPeriod_2 fu ts tc i fu (1 : Int32)
def fX5_border (fu : Nat) (ts : Nat → Int32) (tc : Nat → Nat → Int32) (x1 : Int32) (x2 : Int32) : Option (Except String Int32 × (Nat → Int32) × (Nat → Nat → Int32)) :=
  (fX5_textOf x1).bind fun v1 => exb v1 (fun e9 => some (.error e9, ts, tc)) fun r2 =>
  (fX5_textOf x2).bind fun v3 => exb v3 (fun e9 => some (.error e9, ts, tc)) fun r4 =>
  (fX5_requireNotEmpty ts r4).bind fun v5 => exb v5 (fun e9 => some (.error e9, ts, tc)) fun r6 =>
  (fX4_leastPeriod fu ts tc r4).bind fun v7 =>
  (fX4_size ts r4).bind fun v8 =>
  (fX5_becomePart fu ts tc r2 r4 v7 v8).bind fun v9 =>
  some (.ok v9.1, v9.2.1, v9.2.2)
def fX4_rootSize_2 (fu : Nat) (ts : Nat → Int32) (tc : Nat → Nat → Int32) (t0 : Nat) : Nat → Int32 → Option (Int32)
  | 0, _ => none
  | n + 1, y1 =>
    if (ts t0) ≤ y1 then
      some (ts t0)
    else
      (rmI (ts t0) y1).bind fun v1 =>
      if v1 = 0 then
        (fX4_hasPeriod fu ts tc t0 y1).bind fun v2 =>
        if v2 = 0 then
          fX4_rootSize_2 fu ts tc t0 n (y1 + 1)
        else
          some y1
      else
        fX4_rootSize_2 fu ts tc t0 n (y1 + 1)
def fX4_rootSize (fu : Nat) (ts : Nat → Int32) (tc : Nat → Nat → Int32) (i : Nat) : Option (Int32) :=
  fX4_rootSize_2 fu ts tc i fu (1 : Int32)
def fX5_root_42 (fu : Nat) (t3 : Nat) (t4 : Nat) (y5 : Int32) (s0 : Int32) (ts : Nat → Int32) (tc : Nat → Nat → Int32) : Option (Except String Int32 × (Nat → Int32) × (Nat → Nat → Int32)) :=
  (fX5_becomePart fu ts tc t3 t4 (0 : Int32) y5).bind fun v8 =>
  some (.ok s0, v8.2.1, v8.2.2)
def fX5_root (fu : Nat) (ts : Nat → Int32) (tc : Nat → Nat → Int32) (x1 : Int32) (x2 : Int32) : Option (Except String Int32 × (Nat → Int32) × (Nat → Nat → Int32)) :=
  (fX5_textOf x1).bind fun v1 => exb v1 (fun e9 => some (.error e9, ts, tc)) fun r2 =>
  (fX5_textOf x2).bind fun v3 => exb v3 (fun e9 => some (.error e9, ts, tc)) fun r4 =>
  (fX5_requireNotEmpty ts r4).bind fun v5 => exb v5 (fun e9 => some (.error e9, ts, tc)) fun r6 =>
  (fX4_rootSize fu ts tc r4).bind fun v7 =>
  if v7 ≤ 0 then
    fX5_root_42 fu r2 r4 v7 (0 : Int32) ts tc
  else
    (fX4_size ts r4).bind fun v9 =>
    (dvI v9 v7).bind fun v10 =>
    fX5_root_42 fu r2 r4 v7 v10 ts tc
def fX4_isTurnedTo (fu : Nat) (ts : Nat → Int32) (tc : Nat → Nat → Int32) (i : Nat) (x1 : Int32) (j2 : Nat) : Option (Int32) :=
  if (ts i) = (ts j2) then
    (fX4_alike fu ts tc i x1 j2 (0 : Int32)).bind fun v1 =>
    if v1 = ((ts i) - x1) then
      (fX4_alike fu ts tc j2 ((ts i) - x1) i (0 : Int32)).bind fun v2 =>
      if v2 = x1 then
        some (1 : Int32)
      else
        some (0 : Int32)
    else
      some (0 : Int32)
  else
    some (0 : Int32)
def fX5_turnTo_16 (fu : Nat) (ts : Nat → Int32) (tc : Nat → Nat → Int32) (t3 : Nat) (t4 : Nat) : Nat → Int32 → Option (Except String Int32)
  | 0, _ => none
  | n + 1, y5 =>
    (fX4_size ts t3).bind fun v5 =>
    if v5 < y5 then
      some (.ok (-1 : Int32))
    else
      (fX4_isTurnedTo fu ts tc t3 y5 t4).bind fun v6 =>
      if v6 = 0 then
        fX5_turnTo_16 fu ts tc t3 t4 n (y5 + 1)
      else
        some (.ok y5)
def fX5_turnTo (fu : Nat) (ts : Nat → Int32) (tc : Nat → Nat → Int32) (x1 : Int32) (x2 : Int32) : Option (Except String Int32) :=
  (fX5_textOf x1).bind fun v1 => exb v1 (fun e9 => some (.error e9)) fun r2 =>
  (fX5_textOf x2).bind fun v3 => exb v3 (fun e9 => some (.error e9)) fun r4 =>
  fX5_turnTo_16 fu ts tc r2 r4 fu (0 : Int32)
def fX5_turnings (fu : Nat) (ts : Nat → Int32) (tc : Nat → Nat → Int32) (x1 : Int32) : Option (Except String Int32) :=
  (fX5_textOf x1).bind fun v1 => exb v1 (fun e9 => some (.error e9)) fun r2 =>
  (fX4_isEmpty ts r2).bind fun v3 =>
  if v3 = 0 then
    (fX4_rootSize fu ts tc r2).bind fun v4 =>
    some (.ok v4)
  else
    some (.ok (1 : Int32))
def fX4_signTurned (ts : Nat → Int32) (tc : Nat → Nat → Int32) (i : Nat) (x1 : Int32) (x2 : Int32) : Option (Int32) :=
  if (ts i) ≤ (x1 + x2) then
    (fX4_signOn ts tc i ((x1 + x2) - (ts i))).bind fun v1 =>
    (ckC v1).bind fun z9 => some z9
  else
    (fX4_signOn ts tc i (x1 + x2)).bind fun v2 =>
    (ckC v2).bind fun z9 => some z9
def fX4_compareTurns_2 (fu : Nat) (ts : Nat → Int32) (tc : Nat → Nat → Int32) (t0 : Nat) (y1 : Int32) (y2 : Int32) : Nat → Int32 → Option (Int32)
  | 0, _ => none
  | n + 1, y3 =>
    if (ts t0) ≤ y3 then
      some (0 : Int32)
    else
      (fX4_signTurned ts tc t0 y1 y3).bind fun v1 =>
      (fX4_signTurned ts tc t0 y2 y3).bind fun v2 =>
      if (v1 - v2) = 0 then
        fX4_compareTurns_2 fu ts tc t0 y1 y2 n (y3 + 1)
      else
        some (v1 - v2)
def fX4_compareTurns (fu : Nat) (ts : Nat → Int32) (tc : Nat → Nat → Int32) (i : Nat) (x1 : Int32) (x2 : Int32) : Option (Int32) :=
  fX4_compareTurns_2 fu ts tc i x1 x2 fu (0 : Int32)
def fX5_leastTurn_11 (fu : Nat) (ts : Nat → Int32) (tc : Nat → Nat → Int32) (t2 : Nat) : Nat → Int32 → Int32 → Option (Except String Int32)
  | 0, _, _ => none
  | n + 1, y3, y4 =>
    (fX4_size ts t2).bind fun v3 =>
    if v3 ≤ y4 then
      some (.ok y3)
    else
      (fX4_compareTurns fu ts tc t2 y4 y3).bind fun v4 =>
      if 0 ≤ v4 then
        fX5_leastTurn_11 fu ts tc t2 n y3 (y4 + 1)
      else
        fX5_leastTurn_11 fu ts tc t2 n y4 (y4 + 1)
def fX5_leastTurn (fu : Nat) (ts : Nat → Int32) (tc : Nat → Nat → Int32) (x1 : Int32) : Option (Except String Int32) :=
  (fX5_textOf x1).bind fun v1 => exb v1 (fun e9 => some (.error e9)) fun r2 =>
  fX5_leastTurn_11 fu ts tc r2 fu (0 : Int32) (1 : Int32)
def fX1_sizeAt_6 (fu : Nat) (ts : Nat → Int32) (tc : Nat → Nat → Int32) (t0 : Nat) (y1 : Int32) : Nat → Int32 → Int32 → Option (Int32)
  | 0, _, _ => none
  | n + 1, y2, y3 =>
    (fX4_size ts t0).bind fun v1 =>
    if v1 ≤ y3 then
      some (y3 - y2)
    else
      (fX4_signOn ts tc t0 y2).bind fun v2 =>
      (fX4_signOn ts tc t0 y3).bind fun v3 =>
      if v3 < v2 then
        some (y3 - y2)
      else
        (fX4_signOn ts tc t0 y2).bind fun v4 =>
        (fX4_signOn ts tc t0 y3).bind fun v5 =>
        if v5 ≤ v4 then
          fX1_sizeAt_6 fu ts tc t0 y1 n (y2 + (1 : Int32)) (y3 + 1)
        else
          fX1_sizeAt_6 fu ts tc t0 y1 n y1 (y3 + 1)
def fX1_sizeAt (fu : Nat) (ts : Nat → Int32) (tc : Nat → Nat → Int32) (j0 : Nat) (x1 : Int32) : Option (Int32) :=
  fX1_sizeAt_6 fu ts tc j0 x1 fu x1 (x1 + (1 : Int32))
def fX1_countIn_4 (fu : Nat) (ts : Nat → Int32) (tc : Nat → Nat → Int32) (t0 : Nat) : Nat → Int32 → Int32 → Option (Int32)
  | 0, _, _ => none
  | n + 1, y1, y2 =>
    if (60 : Int32) ≤ y1 then
      some y1
    else
      (fX4_size ts t0).bind fun v1 =>
      if v1 ≤ y2 then
        some y1
      else
        (fX1_sizeAt fu ts tc t0 y2).bind fun v2 =>
        fX1_countIn_4 fu ts tc t0 n (y1 + 1) (y2 + v2)
def fX1_countIn (fu : Nat) (ts : Nat → Int32) (tc : Nat → Nat → Int32) (j0 : Nat) : Option (Int32) :=
  fX1_countIn_4 fu ts tc j0 fu (0 : Int32) (0 : Int32)
def fX5_factors (fu : Nat) (ts : Nat → Int32) (tc : Nat → Nat → Int32) (x1 : Int32) : Option (Except String Int32) :=
  (fX5_textOf x1).bind fun v1 => exb v1 (fun e9 => some (.error e9)) fun r2 =>
  (fX1_countIn fu ts tc r2).bind fun v3 =>
  some (.ok v3)
def fX1_beginOf_4 (fu : Nat) (ts : Nat → Int32) (tc : Nat → Nat → Int32) (t0 : Nat) (y1 : Int32) : Nat → Int32 → Int32 → Option (Int32)
  | 0, _, _ => none
  | n + 1, y2, y3 =>
    if y1 ≤ y3 then
      some y2
    else
      (fX4_size ts t0).bind fun v1 =>
      if v1 ≤ y2 then
        some y2
      else
        (fX1_sizeAt fu ts tc t0 y2).bind fun v2 =>
        fX1_beginOf_4 fu ts tc t0 y1 n (y2 + v2) (y3 + 1)
def fX1_beginOf (fu : Nat) (ts : Nat → Int32) (tc : Nat → Nat → Int32) (j0 : Nat) (x1 : Int32) : Option (Int32) :=
  fX1_beginOf_4 fu ts tc j0 x1 fu (0 : Int32) (0 : Int32)
def fX5_factorAt_22 (fu : Nat) (ts : Nat → Int32) (tc : Nat → Nat → Int32) (t3 : Nat) (s0 : Int32) : Option (Except String Int32) :=
  (fX4_size ts t3).bind fun v4 =>
  if s0 < v4 then
    some (.ok s0)
  else
    some (.error "java/util/NoSuchElementException")
def fX5_factorAt (fu : Nat) (ts : Nat → Int32) (tc : Nat → Nat → Int32) (x1 : Int32) (x2 : Int32) : Option (Except String Int32) :=
  (fX5_textOf x1).bind fun v1 => exb v1 (fun e9 => some (.error e9)) fun r2 =>
  if 0 ≤ x2 then
    (fX1_beginOf fu ts tc r2 x2).bind fun v3 =>
    fX5_factorAt_22 fu ts tc r2 v3
  else
    (fX4_size ts r2).bind fun v5 =>
    fX5_factorAt_22 fu ts tc r2 v5
def fX0_keepRank (rk : Nat → Int32) (x1 : Int32) (x2 : Int32) : Option ((Nat → Int32)) :=
  if x1 < 0 then
    some rk
  else
    if (61 : Int32) ≤ x1 then
      some rk
    else
      (stA rk 61 x1 x2).bind fun g1 =>
      some g1
def fX0_rankBy (rk : Nat → Int32) (x1 : Int32) : Option (Int32) :=
  if x1 < 0 then
    some (-1 : Int32)
  else
    if x1 < (61 : Int32) then
      (ldA rk 61 x1).bind fun v1 =>
      some v1
    else
      some (-1 : Int32)
def fX0_isLess (ts : Nat → Int32) (tc : Nat → Nat → Int32) (rk : Nat → Int32) (j1 : Nat) (x2 : Int32) (x3 : Int32) : Option (Int32) :=
  (fX4_signOn ts tc j1 x2).bind fun v1 =>
  (fX4_signOn ts tc j1 x3).bind fun v2 =>
  if v1 = v2 then
    (fX0_rankBy rk (x2 + (1 : Int32))).bind fun v3 =>
    (fX0_rankBy rk (x3 + (1 : Int32))).bind fun v4 =>
    if v4 ≤ v3 then
      some (0 : Int32)
    else
      some (1 : Int32)
  else
    if v2 ≤ v1 then
      some (0 : Int32)
    else
      some (1 : Int32)
def fX0_insert_41 (fu : Nat) (ts : Nat → Int32) (tc : Nat → Nat → Int32) (t1 : Nat) (y2 : Int32) (y3 : Int32) : Nat → Int32 → (Nat → Int32) → Option ((Nat → Int32))
  | 0, _, _ => none
  | n + 1, y4, rk =>
    (fX4_size ts t1).bind fun v2 =>
    if v2 ≤ y4 then
      (fX0_keepRank rk y2 y3).bind fun v3 =>
      some v3
    else
      (fX0_rankBy rk y4).bind fun v4 =>
      if v4 < y3 then
        fX0_insert_41 fu ts tc t1 y2 y3 n (y4 + 1) rk
      else
        (fX0_keepRank rk y4 (v4 + (1 : Int32))).bind fun v5 =>
        fX0_insert_41 fu ts tc t1 y2 y3 n (y4 + 1) v5
def fX0_insert_7 (fu : Nat) (ts : Nat → Int32) (tc : Nat → Nat → Int32) (t1 : Nat) (y2 : Int32) : Nat → Int32 → Int32 → (Nat → Int32) → Option ((Nat → Int32))
  | 0, _, _, _ => none
  | n + 1, y3, y4, rk =>
    (fX4_size ts t1).bind fun v1 =>
    if v1 ≤ y4 then
      fX0_insert_41 fu ts tc t1 y2 y3 fu (y2 + (1 : Int32)) rk
    else
      (fX0_isLess ts tc rk t1 y4 y2).bind fun v6 =>
      if v6 = 0 then
        fX0_insert_7 fu ts tc t1 y2 n y3 (y4 + 1) rk
      else
        fX0_insert_7 fu ts tc t1 y2 n (y3 + 1) (y4 + 1) rk
def fX0_insert (fu : Nat) (ts : Nat → Int32) (tc : Nat → Nat → Int32) (rk : Nat → Int32) (j1 : Nat) (x2 : Int32) : Option ((Nat → Int32)) :=
  fX0_insert_7 fu ts tc j1 x2 fu (0 : Int32) (x2 + (1 : Int32)) rk
def fX0_arrange_33 (fu : Nat) (ts : Nat → Int32) (tc : Nat → Nat → Int32) (y2 : Int32) : Nat → Int32 → (Nat → Int32) → (Nat → Int32) → Option ((Nat → Int32) × (Nat → Int32))
  | 0, _, _, _ => none
  | n + 1, y3, rk, pl =>
    if y2 ≤ y3 then
      some (rk, pl)
    else
      (fX0_rankBy rk y3).bind fun v3 =>
      if v3 < 0 then
        fX0_arrange_33 fu ts tc y2 n (y3 + 1) rk pl
      else
        if (60 : Int32) ≤ v3 then
          fX0_arrange_33 fu ts tc y2 n (y3 + 1) rk pl
        else
          (stA pl 60 v3 y3).bind fun g4 =>
          fX0_arrange_33 fu ts tc y2 n (y3 + 1) rk g4
def fX0_arrange_15 (fu : Nat) (ts : Nat → Int32) (tc : Nat → Nat → Int32) (t1 : Nat) (y2 : Int32) : Nat → Int32 → (Nat → Int32) → (Nat → Int32) → Option ((Nat → Int32) × (Nat → Int32))
  | 0, _, _, _ => none
  | n + 1, y3, rk, pl =>
    if y3 < 0 then
      fX0_arrange_33 fu ts tc y2 fu (0 : Int32) rk pl
    else
      (fX0_insert fu ts tc rk t1 y3).bind fun v5 =>
      fX0_arrange_15 fu ts tc t1 y2 n (y3 + (-1)) v5 pl
def fX0_arrange (fu : Nat) (ts : Nat → Int32) (tc : Nat → Nat → Int32) (rk : Nat → Int32) (pl : Nat → Int32) (j1 : Nat) : Option ((Nat → Int32) × (Nat → Int32)) :=
  (fX4_size ts j1).bind fun v1 =>
  (fX0_keepRank rk v1 (-1 : Int32)).bind fun v2 =>
  fX0_arrange_15 fu ts tc j1 v1 fu (v1 - (1 : Int32)) v2 pl
def fX0_placeBy (pl : Nat → Int32) (x1 : Int32) : Option (Int32) :=
  if x1 < 0 then
    some (-1 : Int32)
  else
    if x1 < (60 : Int32) then
      (ldA pl 60 x1).bind fun v1 =>
      some v1
    else
      some (-1 : Int32)
def fX5_endAt (fu : Nat) (ts : Nat → Int32) (tc : Nat → Nat → Int32) (rk : Nat → Int32) (pl : Nat → Int32) (x1 : Int32) (x2 : Int32) : Option (Except String Int32 × (Nat → Int32) × (Nat → Int32)) :=
  (fX5_textOf x1).bind fun v1 => exb v1 (fun e9 => some (.error e9, rk, pl)) fun r2 =>
  if x2 < 0 then
    some (.error "java/util/NoSuchElementException", rk, pl)
  else
    (fX4_size ts r2).bind fun v3 =>
    if x2 < v3 then
      (fX0_arrange fu ts tc rk pl r2).bind fun v4 =>
      (fX0_placeBy v4.2 x2).bind fun v5 =>
      some (.ok v5, v4.1, v4.2)
    else
      some (.error "java/util/NoSuchElementException", rk, pl)
def fX5_rankOf (fu : Nat) (ts : Nat → Int32) (tc : Nat → Nat → Int32) (rk : Nat → Int32) (pl : Nat → Int32) (x1 : Int32) (x2 : Int32) : Option (Except String Int32 × (Nat → Int32) × (Nat → Int32)) :=
  (fX5_textOf x1).bind fun v1 => exb v1 (fun e9 => some (.error e9, rk, pl)) fun r2 =>
  (fX5_requirePlace ts r2 x2).bind fun v3 => exb v3 (fun e9 => some (.error e9, rk, pl)) fun r4 =>
  (fX0_arrange fu ts tc rk pl r2).bind fun v5 =>
  (fX0_rankBy v5.1 x2).bind fun v6 =>
  some (.ok v6, v5.1, v5.2)
def fX0_sharedBefore (fu : Nat) (ts : Nat → Int32) (tc : Nat → Nat → Int32) (pl : Nat → Int32) (j1 : Nat) (x2 : Int32) : Option (Int32) :=
  if (1 : Int32) ≤ x2 then
    (fX0_placeBy pl x2).bind fun v1 =>
    (fX0_placeBy pl (x2 - (1 : Int32))).bind fun v2 =>
    (fX4_alike fu ts tc j1 v1 j1 v2).bind fun v3 =>
    some v3
  else
    some (0 : Int32)
def fX5_unlikeParts_19 (fu : Nat) (ts : Nat → Int32) (tc : Nat → Nat → Int32) (t2 : Nat) : Nat → Int32 → Int32 → (Nat → Int32) → (Nat → Int32) → Option (Except String Int32 × (Nat → Int32) × (Nat → Int32))
  | 0, _, _, _, _ => none
  | n + 1, y3, y4, rk, pl =>
    (fX4_size ts t2).bind fun v4 =>
    if v4 ≤ y4 then
      some (.ok y3, rk, pl)
    else
      (fX4_size ts t2).bind fun v5 =>
      (fX0_placeBy pl y4).bind fun v6 =>
      (fX0_sharedBefore fu ts tc pl t2 y4).bind fun v7 =>
      fX5_unlikeParts_19 fu ts tc t2 n (y3 + ((v5 - v6) - v7)) (y4 + 1) rk pl
def fX5_unlikeParts (fu : Nat) (ts : Nat → Int32) (tc : Nat → Nat → Int32) (rk : Nat → Int32) (pl : Nat → Int32) (x1 : Int32) : Option (Except String Int32 × (Nat → Int32) × (Nat → Int32)) :=
  (fX5_textOf x1).bind fun v1 => exb v1 (fun e9 => some (.error e9, rk, pl)) fun r2 =>
  (fX0_arrange fu ts tc rk pl r2).bind fun v3 =>
  fX5_unlikeParts_19 fu ts tc r2 fu (0 : Int32) (0 : Int32) v3.1 v3.2
def fX5_twice_31 (fu : Nat) (t3 : Nat) (t4 : Nat) : Nat → Int32 → Int32 → Int32 → (Nat → Int32) → (Nat → Nat → Int32) → (Nat → Int32) → (Nat → Int32) → Option (Except String Int32 × (Nat → Int32) × (Nat → Nat → Int32) × (Nat → Int32) × (Nat → Int32))
  | 0, _, _, _, _, _, _, _ => none
  | n + 1, y5, y6, y7, ts, tc, rk, pl =>
    (fX4_size ts t4).bind fun v6 =>
    if v6 ≤ y7 then
      (fX5_becomePart fu ts tc t3 t4 y6 (y6 + y5)).bind fun v7 =>
      some (.ok v7.1, v7.2.1, v7.2.2, rk, pl)
    else
      (fX0_sharedBefore fu ts tc pl t4 y7).bind fun v8 =>
      if v8 ≤ y5 then
        fX5_twice_31 fu t3 t4 n y5 y6 (y7 + 1) ts tc rk pl
      else
        (fX0_placeBy pl y7).bind fun v9 =>
        fX5_twice_31 fu t3 t4 n v8 v9 (y7 + 1) ts tc rk pl
def fX5_twice (fu : Nat) (ts : Nat → Int32) (tc : Nat → Nat → Int32) (rk : Nat → Int32) (pl : Nat → Int32) (x1 : Int32) (x2 : Int32) : Option (Except String Int32 × (Nat → Int32) × (Nat → Nat → Int32) × (Nat → Int32) × (Nat → Int32)) :=
  (fX5_textOf x1).bind fun v1 => exb v1 (fun e9 => some (.error e9, ts, tc, rk, pl)) fun r2 =>
  (fX5_textOf x2).bind fun v3 => exb v3 (fun e9 => some (.error e9, ts, tc, rk, pl)) fun r4 =>
  (fX0_arrange fu ts tc rk pl r4).bind fun v5 =>
  fX5_twice_31 fu r2 r4 fu (0 : Int32) (0 : Int32) (1 : Int32) ts tc v5.1 v5.2
def fX4_isMirror_7 (fu : Nat) (ts : Nat → Int32) (tc : Nat → Nat → Int32) (t0 : Nat) : Nat → Int32 → Int32 → Option (Int32)
  | 0, _, _ => none
  | n + 1, y3, y4 =>
    if y4 ≤ y3 then
      some (1 : Int32)
    else
      (fX4_signOn ts tc t0 y3).bind fun v1 =>
      (fX4_signOn ts tc t0 y4).bind fun v2 =>
      if v1 = v2 then
        fX4_isMirror_7 fu ts tc t0 n (y3 + 1) (y4 + (-1))
      else
        some (0 : Int32)
def fX4_isMirror (fu : Nat) (ts : Nat → Int32) (tc : Nat → Nat → Int32) (i : Nat) (x1 : Int32) (x2 : Int32) : Option (Int32) :=
  fX4_isMirror_7 fu ts tc i fu x1 (x2 - (1 : Int32))
def fX5_mirrors_60 (fu : Nat) (ts : Nat → Int32) (tc : Nat → Nat → Int32) (t2 : Nat) (y4 : Int32) (y5 : Int32) (k19 : Int32 → Int32 → (Nat → Int32) → (Nat → Int32) → Option (Except String Int32 × (Nat → Int32) × (Nat → Int32))) : Nat → Int32 → Int32 → (Nat → Int32) → (Nat → Int32) → Option (Except String Int32 × (Nat → Int32) × (Nat → Int32))
  | 0, _, _, _, _ => none
  | n + 1, y3, y7, rk, pl =>
    (fX4_size ts t2).bind fun v7 =>
    if v7 < y7 then
      k19 y3 (y4 + 1) rk pl
    else
      (fX4_isMirror fu ts tc t2 y5 y7).bind fun v8 =>
      if v8 = 0 then
        fX5_mirrors_60 fu ts tc t2 y4 y5 k19 n y3 (y7 + 1) rk pl
      else
        fX5_mirrors_60 fu ts tc t2 y4 y5 k19 n (y3 + 1) (y7 + 1) rk pl
def fX5_mirrors_19 (fu : Nat) (ts : Nat → Int32) (tc : Nat → Nat → Int32) (t2 : Nat) : Nat → Int32 → Int32 → (Nat → Int32) → (Nat → Int32) → Option (Except String Int32 × (Nat → Int32) × (Nat → Int32))
  | 0, _, _, _, _ => none
  | n + 1, y3, y4, rk, pl =>
    (fX4_size ts t2).bind fun v4 =>
    if v4 ≤ y4 then
      some (.ok y3, rk, pl)
    else
      (fX0_placeBy pl y4).bind fun v5 =>
      (fX0_sharedBefore fu ts tc pl t2 y4).bind fun v6 =>
      fX5_mirrors_60 fu ts tc t2 y4 v5 (fX5_mirrors_19 fu ts tc t2 n) fu y3 ((v5 + v6) + (1 : Int32)) rk pl
def fX5_mirrors (fu : Nat) (ts : Nat → Int32) (tc : Nat → Nat → Int32) (rk : Nat → Int32) (pl : Nat → Int32) (x1 : Int32) : Option (Except String Int32 × (Nat → Int32) × (Nat → Int32)) :=
  (fX5_textOf x1).bind fun v1 => exb v1 (fun e9 => some (.error e9, rk, pl)) fun r2 =>
  (fX0_arrange fu ts tc rk pl r2).bind fun v3 =>
  fX5_mirrors_19 fu ts tc r2 fu (0 : Int32) (0 : Int32) v3.1 v3.2
def fX3_signJoined (ts : Nat → Int32) (tc : Nat → Nat → Int32) (j0 : Nat) (j1 : Nat) (x2 : Int32) : Option (Int32) :=
  (fX4_size ts j0).bind fun v1 =>
  if v1 ≤ x2 then
    (fX4_size ts j0).bind fun v2 =>
    (fX4_signOn ts tc j1 (x2 - v2)).bind fun v3 =>
    (ckC v3).bind fun z9 => some z9
  else
    (fX4_signOn ts tc j0 x2).bind fun v4 =>
    (ckC v4).bind fun z9 => some z9
def fX3_doCommute_12 (fu : Nat) (ts : Nat → Int32) (tc : Nat → Nat → Int32) (t0 : Nat) (t1 : Nat) (y2 : Int32) : Nat → Int32 → Option (Int32)
  | 0, _ => none
  | n + 1, y3 =>
    if y2 ≤ y3 then
      some (1 : Int32)
    else
      (fX3_signJoined ts tc t0 t1 y3).bind fun v3 =>
      (fX3_signJoined ts tc t1 t0 y3).bind fun v4 =>
      if v3 = v4 then
        fX3_doCommute_12 fu ts tc t0 t1 y2 n (y3 + 1)
      else
        some (0 : Int32)
def fX3_doCommute (fu : Nat) (ts : Nat → Int32) (tc : Nat → Nat → Int32) (j0 : Nat) (j1 : Nat) : Option (Int32) :=
  (fX4_size ts j0).bind fun v1 =>
  (fX4_size ts j1).bind fun v2 =>
  fX3_doCommute_12 fu ts tc j0 j1 (v1 + v2) fu (0 : Int32)
def fX5_commute (fu : Nat) (ts : Nat → Int32) (tc : Nat → Nat → Int32) (x1 : Int32) (x2 : Int32) : Option (Except String Int32) :=
  (fX5_textOf x1).bind fun v1 => exb v1 (fun e9 => some (.error e9)) fun r2 =>
  (fX5_textOf x2).bind fun v3 => exb v3 (fun e9 => some (.error e9)) fun r4 =>
  (fX3_doCommute fu ts tc r2 r4).bind fun v5 =>
  (ckZ v5).bind fun z9 => some (.ok z9)
def fX3_sharedSize (fu : Nat) (ts : Nat → Int32) (tc : Nat → Nat → Int32) (j0 : Nat) (j1 : Nat) : Option (Int32) :=
  (fX4_isEmpty ts j0).bind fun v1 =>
  if v1 = 0 then
    (fX4_rootSize fu ts tc j0).bind fun v2 =>
    (fX4_isEmpty ts j1).bind fun v3 =>
    if v3 = 0 then
      (fX4_rootSize fu ts tc j1).bind fun v4 =>
      if v4 = v2 then
        (fX4_alike fu ts tc j0 (0 : Int32) j1 (0 : Int32)).bind fun v5 =>
        if v5 < v2 then
          some (0 : Int32)
        else
          some v2
      else
        some (0 : Int32)
    else
      some v2
  else
    (fX4_rootSize fu ts tc j1).bind fun v6 =>
    some v6
def fX5_commonRoot (fu : Nat) (ts : Nat → Int32) (tc : Nat → Nat → Int32) (x1 : Int32) (x2 : Int32) (x3 : Int32) : Option (Except String Int32 × (Nat → Int32) × (Nat → Nat → Int32)) :=
  (fX5_textOf x1).bind fun v1 => exb v1 (fun e9 => some (.error e9, ts, tc)) fun r2 =>
  (fX5_textOf x2).bind fun v3 => exb v3 (fun e9 => some (.error e9, ts, tc)) fun r4 =>
  (fX5_textOf x3).bind fun v5 => exb v5 (fun e9 => some (.error e9, ts, tc)) fun r6 =>
  (fX3_sharedSize fu ts tc r4 r6).bind fun v7 =>
  if v7 = 0 then
    some (.error "java/lang/UnsupportedOperationException", ts, tc)
  else
    (fX4_isEmpty ts r4).bind fun v8 =>
    if v8 = 0 then
      (fX5_becomePart fu ts tc r2 r4 (0 : Int32) v7).bind fun v9 =>
      some (.ok v9.1, v9.2.1, v9.2.2)
    else
      (fX5_becomePart fu ts tc r2 r6 (0 : Int32) v7).bind fun v10 =>
      some (.ok v10.1, v10.2.1, v10.2.2)
def fX5_requireSet (x0 : Int32) : Option (Except String Unit) :=
  if x0 < 0 then
    some (.error "java/lang/IllegalArgumentException")
  else
    if x0 ≤ (63 : Int32) then
      some (.ok ())
    else
      some (.error "java/lang/IllegalArgumentException")
def fX2_isUsed (ts : Nat → Int32) (x1 : Int32) (x2 : Int32) : Option (Int32) :=
  if ((x1 >>> (x2 &&& 31)) &&& (1 : Int32)) = (1 : Int32) then
    (ldA (fun k : Nat => k) 6 x2).bind fun a1 =>
    (fX4_isEmpty ts a1).bind fun v2 =>
    if v2 = 0 then
      some (1 : Int32)
    else
      some (0 : Int32)
  else
    some (0 : Int32)
def fX2_rowsTo (ru : Nat → Int64) (x1 : Int32) : Option (Int64) :=
  if x1 < 0 then
    some (0 : Int64)
  else
    if x1 < (61 : Int32) then
      (ldA ru 61 x1).bind fun v1 =>
      some v1
    else
      some (0 : Int64)
def fX2_countRows_109 (fu : Nat) (ts : Nat → Int32) (tc : Nat → Nat → Int32) (t1 : Nat) (ru : Nat → Int64) : Option (Int64 × (Nat → Int64)) :=
  (fX4_size ts t1).bind fun v3 =>
  (fX2_rowsTo ru v3).bind fun v4 =>
  some (v4, ru)
def fX2_countRows_35 (fu : Nat) (ts : Nat → Int32) (tc : Nat → Nat → Int32) (t1 : Nat) (y3 : Int32) (y4 : Int32) (k10 : Int32 → (Nat → Int64) → Option (Int64 × (Nat → Int64))) : Nat → Int64 → Int32 → (Nat → Int64) → Option (Int64 × (Nat → Int64))
  | 0, _, _, _ => none
  | n + 1, y5, y7, ru =>
    if (6 : Int32) ≤ y7 then
      (stA ru 61 y4 y5).bind fun g5 =>
      k10 (y4 + 1) g5
    else
      (ldA (fun k : Nat => k) 6 y7).bind fun a6 =>
      (fX4_size ts a6).bind fun v7 =>
      (fX2_isUsed ts y3 y7).bind fun v8 =>
      if v8 = 0 then
        fX2_countRows_35 fu ts tc t1 y3 y4 k10 n y5 (y7 + 1) ru
      else
        (ldA (fun k : Nat => k) 6 y7).bind fun a9 =>
        (fX4_hasAt fu ts tc t1 (y4 - v7) a9).bind fun v10 =>
        if v10 = 0 then
          fX2_countRows_35 fu ts tc t1 y3 y4 k10 n y5 (y7 + 1) ru
        else
          (fX2_rowsTo ru (y4 - v7)).bind fun v11 =>
          fX2_countRows_35 fu ts tc t1 y3 y4 k10 n (y5 + v11) (y7 + 1) ru
def fX2_countRows_10 (fu : Nat) (ts : Nat → Int32) (tc : Nat → Nat → Int32) (t1 : Nat) (y3 : Int32) : Nat → Int32 → (Nat → Int64) → Option (Int64 × (Nat → Int64))
  | 0, _, _ => none
  | n + 1, y4, ru =>
    (fX4_size ts t1).bind fun v2 =>
    if v2 < y4 then
      fX2_countRows_109 fu ts tc t1 ru
    else
      if (61 : Int32) ≤ y4 then
        fX2_countRows_109 fu ts tc t1 ru
      else
        fX2_countRows_35 fu ts tc t1 y3 y4 (fX2_countRows_10 fu ts tc t1 y3 n) fu (0 : Int64) (0 : Int32) ru
def fX2_countRows (fu : Nat) (ts : Nat → Int32) (tc : Nat → Nat → Int32) (ru : Nat → Int64) (j1 : Nat) (x3 : Int32) : Option (Int64 × (Nat → Int64)) :=
  (stA ru 61 (0 : Int32) (1 : Int64)).bind fun g1 =>
  fX2_countRows_10 fu ts tc j1 x3 fu (1 : Int32) g1
def fX5_ways (fu : Nat) (ts : Nat → Int32) (tc : Nat → Nat → Int32) (ru : Nat → Int64) (x1 : Int32) (x2 : Int32) : Option (Except String Int64 × (Nat → Int64)) :=
  (fX5_textOf x1).bind fun v1 => exb v1 (fun e9 => some (.error e9, ru)) fun r2 =>
  (fX5_requireSet x2).bind fun v3 => exb v3 (fun e9 => some (.error e9, ru)) fun r4 =>
  (fX2_countRows fu ts tc ru r2 x2).bind fun v5 =>
  some (.ok v5.1, v5.2)
def fX2_forgetRemainders_7 (fu : Nat) : Nat → Int32 → (Nat → Int64) → Int32 → Option ((Nat → Int64) × Int32)
  | 0, _, _, _ => none
  | n + 1, y1, kn, rm =>
    if (6 : Int32) ≤ y1 then
      some (kn, rm)
    else
      (stA kn 6 y1 (0 : Int64)).bind fun g1 =>
      fX2_forgetRemainders_7 fu n (y1 + 1) g1 rm
def fX2_forgetRemainders (fu : Nat) (kn : Nat → Int64) (rm : Int32) : Option ((Nat → Int64) × Int32) :=
  fX2_forgetRemainders_7 fu fu (0 : Int32) kn (0 : Int32)
def fX2_keepRemainder_32 (y1 : Int32) (y2 : Int32) (y3 : Int64) (s0 : Int32) (sl : Nat → Int32) (bg : Nat → Int32) (kn : Nat → Int64) (rm : Int32) : Option ((Nat → Int32) × (Nat → Int32) × (Nat → Int64) × Int32) :=
  if s0 = 0 then
    some (sl, bg, kn, rm)
  else
    if (360 : Int32) ≤ rm then
      some (sl, bg, kn, rm)
    else
      (ldA kn 6 y1).bind fun v1 =>
      (stA kn 6 y1 (v1 ||| y3)).bind fun g2 =>
      (stA sl 360 rm y1).bind fun g3 =>
      (stA bg 360 rm y2).bind fun g4 =>
      some (g3, g4, g2, (rm + (1 : Int32)))
def fX2_keepRemainder_31 (y1 : Int32) (y2 : Int32) (y3 : Int64) (sl : Nat → Int32) (bg : Nat → Int32) (kn : Nat → Int64) (rm : Int32) : Option ((Nat → Int32) × (Nat → Int32) × (Nat → Int64) × Int32) :=
  fX2_keepRemainder_32 y1 y2 y3 (0 : Int32) sl bg kn rm
def fX2_keepRemainder (sl : Nat → Int32) (bg : Nat → Int32) (kn : Nat → Int64) (rm : Int32) (x1 : Int32) (x2 : Int32) : Option ((Nat → Int32) × (Nat → Int32) × (Nat → Int64) × Int32) :=
  if x1 < 0 then
    fX2_keepRemainder_31 x1 x2 ((1 : Int64) <<< (x2.toInt64 &&& 63)) sl bg kn rm
  else
    if (6 : Int32) ≤ x1 then
      fX2_keepRemainder_31 x1 x2 ((1 : Int64) <<< (x2.toInt64 &&& 63)) sl bg kn rm
    else
      (ldA kn 6 x1).bind fun v5 =>
      if (lg_cmp (v5 &&& ((1 : Int64) <<< (x2.toInt64 &&& 63))) (0 : Int64)) = 0 then
        fX2_keepRemainder_32 x1 x2 ((1 : Int64) <<< (x2.toInt64 &&& 63)) (1 : Int32) sl bg kn rm
      else
        fX2_keepRemainder_31 x1 x2 ((1 : Int64) <<< (x2.toInt64 &&& 63)) sl bg kn rm
def fX2_isMatchedBy_73 (fu : Nat) (ts : Nat → Int32) (tc : Nat → Nat → Int32) (y3 : Int32) (y4 : Int32) (y5 : Int32) (y6 : Int32) (y7 : Int32) (y8 : Int32) (sl : Nat → Int32) (bg : Nat → Int32) (kn : Nat → Int64) (rm : Int32) : Option (Int32 × (Nat → Int32) × (Nat → Int32) × (Nat → Int64) × Int32) :=
  if y8 = y7 then
    (fX2_keepRemainder sl bg kn rm y3 (y4 + y7)).bind fun v10 =>
    some ((0 : Int32), v10.1, v10.2.1, v10.2.2.1, v10.2.2.2)
  else
    if y8 = y6 then
      (fX2_keepRemainder sl bg kn rm y5 y6).bind fun v9 =>
      some ((0 : Int32), v9.1, v9.2.1, v9.2.2.1, v9.2.2.2)
    else
      some ((0 : Int32), sl, bg, kn, rm)
def fX2_isMatchedBy (fu : Nat) (ts : Nat → Int32) (tc : Nat → Nat → Int32) (sl : Nat → Int32) (bg : Nat → Int32) (kn : Nat → Int64) (rm : Int32) (x2 : Int32) (x3 : Int32) (x4 : Int32) (x5 : Int32) : Option (Int32 × (Nat → Int32) × (Nat → Int32) × (Nat → Int64) × Int32) :=
  if x3 < 0 then
    some ((0 : Int32), sl, bg, kn, rm)
  else
    if (6 : Int32) ≤ x3 then
      some ((0 : Int32), sl, bg, kn, rm)
    else
      (fX2_isUsed ts x2 x5).bind fun v1 =>
      if v1 = 0 then
        some ((0 : Int32), sl, bg, kn, rm)
      else
        (ldA (fun k : Nat => k) 6 x3).bind fun a2 =>
        (fX4_size ts a2).bind fun v3 =>
        (ldA (fun k : Nat => k) 6 x5).bind fun a4 =>
        (fX4_size ts a4).bind fun v5 =>
        (ldA (fun k : Nat => k) 6 x3).bind fun a6 =>
        (ldA (fun k : Nat => k) 6 x5).bind fun a7 =>
        (fX4_alike fu ts tc a6 x4 a7 (0 : Int32)).bind fun v8 =>
        if v8 = (v3 - x4) then
          if v8 = v5 then
            some ((1 : Int32), sl, bg, kn, rm)
          else
            fX2_isMatchedBy_73 fu ts tc x3 x4 x5 (v3 - x4) v5 v8 sl bg kn rm
        else
          fX2_isMatchedBy_73 fu ts tc x3 x4 x5 (v3 - x4) v5 v8 sl bg kn rm
def fX2_areFree_77 (fu : Nat) (ts : Nat → Int32) (tc : Nat → Nat → Int32) (y2 : Int32) (y3 : Int32) (k59 : Int32 → (Nat → Int32) → (Nat → Int32) → (Nat → Int64) → Int32 → Option (Int32 × (Nat → Int32) × (Nat → Int32) × (Nat → Int64) × Int32)) : Nat → Int32 → (Nat → Int32) → (Nat → Int32) → (Nat → Int64) → Int32 → Option (Int32 × (Nat → Int32) × (Nat → Int32) × (Nat → Int64) × Int32)
  | 0, _, _, _, _, _ => none
  | n + 1, y4, sl, bg, kn, rm =>
    if (6 : Int32) ≤ y4 then
      k59 (y3 + 1) sl bg kn rm
    else
      (ldA sl 360 y3).bind fun v2 =>
      (ldA bg 360 y3).bind fun v3 =>
      (fX2_isMatchedBy fu ts tc sl bg kn rm y2 v2 v3 y4).bind fun v4 =>
      if v4.1 = 0 then
        fX2_areFree_77 fu ts tc y2 y3 k59 n (y4 + 1) v4.2.1 v4.2.2.1 v4.2.2.2.1 v4.2.2.2.2
      else
        some ((0 : Int32), v4.2.1, v4.2.2.1, v4.2.2.2.1, v4.2.2.2.2)
def fX2_areFree_59 (fu : Nat) (ts : Nat → Int32) (tc : Nat → Nat → Int32) (y2 : Int32) : Nat → Int32 → (Nat → Int32) → (Nat → Int32) → (Nat → Int64) → Int32 → Option (Int32 × (Nat → Int32) × (Nat → Int32) × (Nat → Int64) × Int32)
  | 0, _, _, _, _, _ => none
  | n + 1, y3, sl, bg, kn, rm =>
    if rm ≤ y3 then
      some ((1 : Int32), sl, bg, kn, rm)
    else
      if (360 : Int32) ≤ y3 then
        some ((1 : Int32), sl, bg, kn, rm)
      else
        fX2_areFree_77 fu ts tc y2 y3 (fX2_areFree_59 fu ts tc y2 n) fu (0 : Int32) sl bg kn rm
def fX2_areFree_15 (fu : Nat) (ts : Nat → Int32) (tc : Nat → Nat → Int32) (y2 : Int32) (y3 : Int32) (k6 : Int32 → (Nat → Int32) → (Nat → Int32) → (Nat → Int64) → Int32 → Option (Int32 × (Nat → Int32) × (Nat → Int32) × (Nat → Int64) × Int32)) : Nat → Int32 → (Nat → Int32) → (Nat → Int32) → (Nat → Int64) → Int32 → Option (Int32 × (Nat → Int32) × (Nat → Int32) × (Nat → Int64) × Int32)
  | 0, _, _, _, _, _ => none
  | n + 1, y4, sl, bg, kn, rm =>
    if y3 ≤ y4 then
      k6 (y3 + 1) sl bg kn rm
    else
      (fX2_isUsed ts y2 y3).bind fun v5 =>
      if v5 = 0 then
        fX2_areFree_15 fu ts tc y2 y3 k6 n (y4 + 1) sl bg kn rm
      else
        (fX2_isMatchedBy fu ts tc sl bg kn rm y2 y3 (0 : Int32) y4).bind fun v6 =>
        if v6.1 = 0 then
          fX2_areFree_15 fu ts tc y2 y3 k6 n (y4 + 1) v6.2.1 v6.2.2.1 v6.2.2.2.1 v6.2.2.2.2
        else
          some ((0 : Int32), v6.2.1, v6.2.2.1, v6.2.2.2.1, v6.2.2.2.2)
def fX2_areFree_6 (fu : Nat) (ts : Nat → Int32) (tc : Nat → Nat → Int32) (y2 : Int32) : Nat → Int32 → (Nat → Int32) → (Nat → Int32) → (Nat → Int64) → Int32 → Option (Int32 × (Nat → Int32) × (Nat → Int32) × (Nat → Int64) × Int32)
  | 0, _, _, _, _, _ => none
  | n + 1, y3, sl, bg, kn, rm =>
    if (6 : Int32) ≤ y3 then
      fX2_areFree_59 fu ts tc y2 fu (0 : Int32) sl bg kn rm
    else
      fX2_areFree_15 fu ts tc y2 y3 (fX2_areFree_6 fu ts tc y2 n) fu (0 : Int32) sl bg kn rm
def fX2_areFree (fu : Nat) (ts : Nat → Int32) (tc : Nat → Nat → Int32) (sl : Nat → Int32) (bg : Nat → Int32) (kn : Nat → Int64) (rm : Int32) (x2 : Int32) : Option (Int32 × (Nat → Int32) × (Nat → Int32) × (Nat → Int64) × Int32) :=
  (fX2_forgetRemainders fu kn rm).bind fun v1 =>
  fX2_areFree_6 fu ts tc x2 fu (0 : Int32) sl bg v1.1 v1.2
def fX5_isFree (fu : Nat) (ts : Nat → Int32) (tc : Nat → Nat → Int32) (sl : Nat → Int32) (bg : Nat → Int32) (kn : Nat → Int64) (rm : Int32) (x1 : Int32) : Option (Except String Int32 × (Nat → Int32) × (Nat → Int32) × (Nat → Int64) × Int32) :=
  (fX5_requireSet x1).bind fun v1 => exb v1 (fun e9 => some (.error e9, sl, bg, kn, rm)) fun r2 =>
  (fX2_areFree fu ts tc sl bg kn rm x1).bind fun v3 =>
  (ckZ v3.1).bind fun z9 => some (.ok z9, v3.2.1, v3.2.2.1, v3.2.2.2.1, v3.2.2.2.2)
def fX5_rootShare (fu : Nat) (ts : Nat → Int32) (tc : Nat → Nat → Int32) (x1 : Int32) : Option (Except String UInt32) :=
  (fX5_textOf x1).bind fun v1 => exb v1 (fun e9 => some (.error e9)) fun r2 =>
  (fX4_isEmpty ts r2).bind fun v3 =>
  if v3 = 0 then
    (fX4_rootSize fu ts tc r2).bind fun v4 =>
    (fX4_size ts r2).bind fun v5 =>
    (ckF (FP.fdiv (FP.i2f v4) (FP.i2f v5))).bind fun v6 =>
    some (.ok v6)
  else
    some (.error "java/lang/ArithmeticException")
def fX4_sumPeriods_4 (fu : Nat) (ts : Nat → Int32) (tc : Nat → Nat → Int32) (t0 : Nat) : Nat → Int32 → Int32 → Option (Int32)
  | 0, _, _ => none
  | n + 1, y1, y2 =>
    if (ts t0) < y2 then
      some y1
    else
      (fX4_hasPeriod fu ts tc t0 y2).bind fun v1 =>
      if v1 = 0 then
        fX4_sumPeriods_4 fu ts tc t0 n y1 (y2 + 1)
      else
        fX4_sumPeriods_4 fu ts tc t0 n (y1 + y2) (y2 + 1)
def fX4_sumPeriods (fu : Nat) (ts : Nat → Int32) (tc : Nat → Nat → Int32) (i : Nat) : Option (Int32) :=
  fX4_sumPeriods_4 fu ts tc i fu (0 : Int32) (1 : Int32)
def fX5_meanPeriod (fu : Nat) (ts : Nat → Int32) (tc : Nat → Nat → Int32) (x1 : Int32) : Option (Except String UInt64) :=
  (fX5_textOf x1).bind fun v1 => exb v1 (fun e9 => some (.error e9)) fun r2 =>
  (fX4_countPeriods fu ts tc r2).bind fun v3 =>
  if v3 = 0 then
    some (.error "java/lang/ArithmeticException")
  else
    (fX4_sumPeriods fu ts tc r2).bind fun v4 =>
    (ckD (FP.ddiv (FP.i2d v4) (FP.i2d v3))).bind fun v5 =>
    some (.ok v5)
def fX5_checksum_6 (fu : Nat) (ts : Nat → Int32) (tc : Nat → Nat → Int32) : Nat → Int64 → Int32 → Option (Int64)
  | 0, _, _ => none
  | n + 1, y1, y3 =>
    if (6 : Int32) ≤ y3 then
      some y1
    else
      (ldA (fun k : Nat => k) 6 y3).bind fun a1 =>
      (fX4_size ts a1).bind fun v2 =>
      (fX4_hashFrom fu ts tc a1 (0 : Int32)).bind fun v3 =>
      (fX4_countPeriods fu ts tc a1).bind fun v4 =>
      fX5_checksum_6 fu ts tc n ((((((y1 * (31 : Int64)) + (v2.toInt64)) * (31 : Int64)) + (v3.toInt64)) * (31 : Int64)) + (v4.toInt64)) (y3 + 1)
def fX5_checksum (fu : Nat) (ts : Nat → Int32) (tc : Nat → Nat → Int32) : Option (Int64) :=
  fX5_checksum_6 fu ts tc fu (7 : Int64) (0 : Int32)
def fX1_isLessThanItsEnds_4 (fu : Nat) (ts : Nat → Int32) (tc : Nat → Nat → Int32) (t0 : Nat) (y1 : Int32) (y2 : Int32) : Nat → Int32 → Option (Int32)
  | 0, _ => none
  | n + 1, y3 =>
    if y2 ≤ y3 then
      some (1 : Int32)
    else
      (fX4_alike fu ts tc t0 y1 t0 y3).bind fun v1 =>
      if (y2 - y3) ≤ v1 then
        some (0 : Int32)
      else
        (fX4_signOn ts tc t0 (y1 + v1)).bind fun v2 =>
        (fX4_signOn ts tc t0 (y3 + v1)).bind fun v3 =>
        if v2 ≤ v3 then
          fX1_isLessThanItsEnds_4 fu ts tc t0 y1 y2 n (y3 + 1)
        else
          some (0 : Int32)
def fX1_isLessThanItsEnds (fu : Nat) (ts : Nat → Int32) (tc : Nat → Nat → Int32) (j0 : Nat) (x1 : Int32) (x2 : Int32) : Option (Int32) :=
  fX1_isLessThanItsEnds_4 fu ts tc j0 x1 x2 fu (x1 + (1 : Int32))
def fX4_compareNeighbours (fu : Nat) (ts : Nat → Int32) (tc : Nat → Nat → Int32) (i : Nat) (x1 : Int32) (x2 : Int32) (x3 : Int32) : Option (Int32) :=
  (fX4_alike fu ts tc i x1 i x2).bind fun v1 =>
  if (miI (x2 - x1) (x3 - x2)) ≤ (miI v1 (miI (x2 - x1) (x3 - x2))) then
    some ((x2 - x1) - (x3 - x2))
  else
    (fX4_signOn ts tc i (x1 + (miI v1 (miI (x2 - x1) (x3 - x2))))).bind fun v2 =>
    (fX4_signOn ts tc i (x2 + (miI v1 (miI (x2 - x1) (x3 - x2))))).bind fun v3 =>
    some (v2 - v3)
def fX1_areTrue_69 (fu : Nat) (ts : Nat → Int32) (tc : Nat → Nat → Int32) (t0 : Nat) (y2 : Int32) : Option (Int32) :=
  (fX4_size ts t0).bind fun v1 =>
  if y2 = v1 then
    some (1 : Int32)
  else
    some (0 : Int32)
def fX1_areTrue_6 (fu : Nat) (ts : Nat → Int32) (tc : Nat → Nat → Int32) (t0 : Nat) : Nat → Int32 → Int32 → Int32 → Option (Int32)
  | 0, _, _, _ => none
  | n + 1, y1, y2, y3 =>
    if (60 : Int32) ≤ y3 then
      fX1_areTrue_69 fu ts tc t0 y2
    else
      (fX4_size ts t0).bind fun v2 =>
      if v2 ≤ y2 then
        fX1_areTrue_69 fu ts tc t0 y2
      else
        (fX1_sizeAt fu ts tc t0 y2).bind fun v3 =>
        (fX1_isLessThanItsEnds fu ts tc t0 y2 (y2 + v3)).bind fun v4 =>
        if v4 = 0 then
          some (0 : Int32)
        else
          if y2 ≤ 0 then
            fX1_areTrue_6 fu ts tc t0 n y2 (y2 + v3) (y3 + 1)
          else
            (fX4_compareNeighbours fu ts tc t0 y1 y2 (y2 + v3)).bind fun v5 =>
            if 0 ≤ v5 then
              fX1_areTrue_6 fu ts tc t0 n y2 (y2 + v3) (y3 + 1)
            else
              some (0 : Int32)
def fX1_areTrue (fu : Nat) (ts : Nat → Int32) (tc : Nat → Nat → Int32) (j0 : Nat) : Option (Int32) :=
  fX1_areTrue_6 fu ts tc j0 fu (0 : Int32) (0 : Int32) (0 : Int32)
def fX3_areTrue_19 (fu : Nat) (ts : Nat → Int32) (tc : Nat → Nat → Int32) (t0 : Nat) (t1 : Nat) (s0 : Int32) : Option (Int32) :=
  (fX3_doCommute fu ts tc t0 t1).bind fun v2 =>
  if s0 = 0 then
    (fX3_sharedSize fu ts tc t0 t1).bind fun v3 =>
    if v3 ≤ 0 then
      if v2 = (0 : Int32) then
        some (1 : Int32)
      else
        some (0 : Int32)
    else
      if v2 = (1 : Int32) then
        some (1 : Int32)
      else
        some (0 : Int32)
  else
    if v2 = (1 : Int32) then
      some (1 : Int32)
    else
      some (0 : Int32)
def fX3_areTrue_18 (fu : Nat) (ts : Nat → Int32) (tc : Nat → Nat → Int32) (t0 : Nat) (t1 : Nat) : Option (Int32) :=
  fX3_areTrue_19 fu ts tc t0 t1 (0 : Int32)
def fX3_areTrue (fu : Nat) (ts : Nat → Int32) (tc : Nat → Nat → Int32) (j0 : Nat) (j1 : Nat) : Option (Int32) :=
  (fX4_isEmpty ts j0).bind fun v1 =>
  if v1 = 0 then
    fX3_areTrue_18 fu ts tc j0 j1
  else
    (fX4_isEmpty ts j1).bind fun v4 =>
    if v4 = 0 then
      fX3_areTrue_18 fu ts tc j0 j1
    else
      fX3_areTrue_19 fu ts tc j0 j1 (1 : Int32)
def fX5_isTrue_24 (fu : Nat) (ts : Nat → Int32) (tc : Nat → Nat → Int32) (y1 : Int32) (k2 : Int32 → Option (Int32)) : Nat → Int32 → Option (Int32)
  | 0, _ => none
  | n + 1, y2 =>
    if y1 ≤ y2 then
      k2 (y1 + 1)
    else
      (ldA (fun k : Nat => k) 6 y1).bind fun a3 =>
      (ldA (fun k : Nat => k) 6 y2).bind fun a4 =>
      (fX3_areTrue fu ts tc a3 a4).bind fun v5 =>
      if v5 = 0 then
        some (0 : Int32)
      else
        fX5_isTrue_24 fu ts tc y1 k2 n (y2 + 1)
def fX5_isTrue_2 (fu : Nat) (ts : Nat → Int32) (tc : Nat → Nat → Int32) : Nat → Int32 → Option (Int32)
  | 0, _ => none
  | n + 1, y1 =>
    if (6 : Int32) ≤ y1 then
      some (1 : Int32)
    else
      (ldA (fun k : Nat => k) 6 y1).bind fun a1 =>
      (fX1_areTrue fu ts tc a1).bind fun v2 =>
      if v2 = 0 then
        some (0 : Int32)
      else
        fX5_isTrue_24 fu ts tc y1 (fX5_isTrue_2 fu ts tc n) fu (0 : Int32)
def fX5_isTrue (fu : Nat) (ts : Nat → Int32) (tc : Nat → Nat → Int32) : Option (Int32) :=
  fX5_isTrue_2 fu ts tc fu (0 : Int32)
def fX6_thrown (th : Int32) : Option (Int32) :=
  some th
def fX6_isThrown (th : Int32) (x1 : Int32) (x2 : Int32) : Option (Int32 × Int32) :=
  if x1 = 0 then
    (ckZ x1).bind fun z9 => some (z9, (0 : Int32))
  else
    (ckZ x1).bind fun z9 => some (z9, x2)
def fX6_isIn (x0 : Int64) (x2 : Int64) (x4 : Int64) : Option (Int32) :=
  if 0 < (lg_cmp x2 x0) then
    some (0 : Int32)
  else
    if 0 < (lg_cmp x0 x4) then
      some (0 : Int32)
    else
      some (1 : Int32)
def fX6_isNo (th : Int32) (x1 : Int32) : Option (Int32 × Int32) :=
  (fX6_isIn (x1.toInt64) (0 : Int64) (5 : Int64)).bind fun v1 =>
  if v1 = 0 then
    (fX6_isThrown th (1 : Int32) (1 : Int32)).bind fun v3 =>
    (ckZ v3.1).bind fun z9 => some (z9, v3.2)
  else
    (fX6_isThrown th (0 : Int32) (1 : Int32)).bind fun v2 =>
    (ckZ v2.1).bind fun z9 => some (z9, v2.2)
def fX6_isNoOf (th : Int32) (x1 : Int32) (x2 : Int32) : Option (Int32 × Int32) :=
  (fX6_isNo th x1).bind fun v1 =>
  if v1.1 = 0 then
    (fX6_isNo v1.2 x2).bind fun v2 =>
    if v2.1 = 0 then
      some ((0 : Int32), v2.2)
    else
      some ((1 : Int32), v2.2)
  else
    some ((1 : Int32), v1.2)
def fX6_isNoOfAll (th : Int32) (x1 : Int32) (x2 : Int32) (x3 : Int32) : Option (Int32 × Int32) :=
  (fX6_isNo th x1).bind fun v1 =>
  if v1.1 = 0 then
    (fX6_isNo v1.2 x2).bind fun v2 =>
    if v2.1 = 0 then
      (fX6_isNo v2.2 x3).bind fun v3 =>
      if v3.1 = 0 then
        some ((0 : Int32), v3.2)
      else
        some ((1 : Int32), v3.2)
    else
      some ((1 : Int32), v2.2)
  else
    some ((1 : Int32), v1.2)
def fX6_isSign (x0 : Int32) : Option (Int32) :=
  (fX6_isIn (x0.toInt64) (32 : Int64) (126 : Int64)).bind fun v1 =>
  (ckZ v1).bind fun z9 => some z9
def fX6_baseOf (x0 : Int32) : Option (Int32) :=
  some ((60 : Int32) * x0)
def fX6_copy_3 (fu : Nat) (y1 : Int32) (y2 : Int32) (y3 : Int32) : Nat → Int32 → (Nat → Int32) → Option ((Nat → Int32))
  | 0, _, _ => none
  | n + 1, y4, ce =>
    if y2 ≤ y4 then
      some ce
    else
      (ldA ce 900 (y1 + y4)).bind fun v1 =>
      (stA ce 900 (y3 + y4) v1).bind fun g2 =>
      fX6_copy_3 fu y1 y2 y3 n (y4 + 1) g2
def fX6_copy (fu : Nat) (ce : Nat → Int32) (x1 : Int32) (x2 : Int32) (x3 : Int32) : Option ((Nat → Int32)) :=
  fX6_copy_3 fu x1 x2 x3 fu (0 : Int32) ce
def fX6_standsAt_24 (fu : Nat) (ce : Nat → Int32) (y1 : Int32) (y3 : Int32) (y4 : Int32) (y5 : Int32) : Nat → Int32 → Int32 → Option (Int32)
  | 0, _, _ => none
  | n + 1, y6, y7 =>
    if y6 = 0 then
      (ckZ y6).bind fun z9 => some z9
    else
      if y4 ≤ y7 then
        (ckZ y6).bind fun z9 => some z9
      else
        (ldA ce 900 ((y1 + y5) + y7)).bind fun v1 =>
        (ldA ce 900 (y3 + y7)).bind fun v2 =>
        if v1 = v2 then
          fX6_standsAt_24 fu ce y1 y3 y4 y5 n (1 : Int32) (y7 + 1)
        else
          fX6_standsAt_24 fu ce y1 y3 y4 y5 n (0 : Int32) (y7 + 1)
def fX6_standsAt (fu : Nat) (ce : Nat → Int32) (x1 : Int32) (x2 : Int32) (x3 : Int32) (x4 : Int32) (x5 : Int32) : Option (Int32) :=
  if x5 < 0 then
    fX6_standsAt_24 fu ce x1 x3 x4 x5 fu (0 : Int32) (0 : Int32)
  else
    if x2 < (x5 + x4) then
      fX6_standsAt_24 fu ce x1 x3 x4 x5 fu (0 : Int32) (0 : Int32)
    else
      fX6_standsAt_24 fu ce x1 x3 x4 x5 fu (1 : Int32) (0 : Int32)
def fX6_areSame (fu : Nat) (ce : Nat → Int32) (x1 : Int32) (x2 : Int32) (x3 : Int32) (x4 : Int32) : Option (Int32) :=
  if x2 = x4 then
    (fX6_standsAt fu ce x1 x2 x3 x4 (0 : Int32)).bind fun v1 =>
    if v1 = 0 then
      some (0 : Int32)
    else
      some (1 : Int32)
  else
    some (0 : Int32)
def fX6_alike_3 (fu : Nat) (ce : Nat → Int32) (y1 : Int32) (y2 : Int32) (y3 : Int32) (y4 : Int32) : Nat → Int32 → Option (Int32)
  | 0, _ => none
  | n + 1, y5 =>
    if y2 ≤ y5 then
      some y5
    else
      if y4 ≤ y5 then
        some y5
      else
        (ldA ce 900 (y1 + y5)).bind fun v1 =>
        (ldA ce 900 (y3 + y5)).bind fun v2 =>
        if v1 = v2 then
          fX6_alike_3 fu ce y1 y2 y3 y4 n (y5 + 1)
        else
          some y5
def fX6_alike (fu : Nat) (ce : Nat → Int32) (x1 : Int32) (x2 : Int32) (x3 : Int32) (x4 : Int32) : Option (Int32) :=
  fX6_alike_3 fu ce x1 x2 x3 x4 fu (0 : Int32)
def fX6_order (fu : Nat) (ce : Nat → Int32) (x1 : Int32) (x2 : Int32) (x3 : Int32) (x4 : Int32) : Option (Int32) :=
  (fX6_alike fu ce x1 x2 x3 x4).bind fun v1 =>
  if x2 ≤ v1 then
    some (x2 - x4)
  else
    if x4 ≤ v1 then
      some (x2 - x4)
    else
      (ldA ce 900 (x1 + v1)).bind fun v2 =>
      (ldA ce 900 (x3 + v1)).bind fun v3 =>
      some (v2 - v3)
def fX6_become (fu : Nat) (ce : Nat → Int32) (sz : Nat → Int32) (x1 : Int32) (x2 : Int32) (x3 : Int32) : Option (Int32 × (Nat → Int32) × (Nat → Int32)) :=
  (fX6_copy fu ce x2 x3 (750 : Int32)).bind fun v1 =>
  (fX6_baseOf x1).bind fun v2 =>
  (fX6_copy fu v1 (750 : Int32) x3 v2).bind fun v3 =>
  (stA sz 6 x1 x3).bind fun g4 =>
  some (x3, v3, g4)
def fX6_lays (fu : Nat) (ce : Nat → Int32) (sz : Nat → Int32) (x1 : Int32) (x2 : Int32) (x3 : Int32) : Option ((Nat → Int32)) :=
  (fX6_baseOf x1).bind fun v1 =>
  (ldA sz 6 x1).bind fun v2 =>
  (fX6_copy fu ce v1 v2 x3).bind fun v3 =>
  (fX6_baseOf x2).bind fun v4 =>
  (ldA sz 6 x2).bind fun v5 =>
  (ldA sz 6 x1).bind fun v6 =>
  (fX6_copy fu v3 v4 v5 (x3 + v6)).bind fun v7 =>
  some v7
def fX6_turns (fu : Nat) (ce : Nat → Int32) (sz : Nat → Int32) (x1 : Int32) (x2 : Int32) (x3 : Int32) : Option ((Nat → Int32)) :=
  (fX6_baseOf x1).bind fun v1 =>
  (ldA sz 6 x1).bind fun v2 =>
  (fX6_copy fu ce (v1 + x2) (v2 - x2) x3).bind fun v3 =>
  (fX6_baseOf x1).bind fun v4 =>
  (ldA sz 6 x1).bind fun v5 =>
  (fX6_copy fu v3 v4 x2 ((x3 + v5) - x2)).bind fun v6 =>
  some v6
def fX6_laysBack_2 (fu : Nat) (sz : Nat → Int32) (y1 : Int32) (y2 : Int32) : Nat → Int32 → (Nat → Int32) → Option ((Nat → Int32))
  | 0, _, _ => none
  | n + 1, y3, ce =>
    (ldA sz 6 y1).bind fun v1 =>
    if v1 ≤ y3 then
      some ce
    else
      (fX6_baseOf y1).bind fun v2 =>
      (ldA sz 6 y1).bind fun v3 =>
      (ldA ce 900 (((v2 + v3) - (1 : Int32)) - y3)).bind fun v4 =>
      (stA ce 900 (y2 + y3) v4).bind fun g5 =>
      fX6_laysBack_2 fu sz y1 y2 n (y3 + 1) g5
def fX6_laysBack (fu : Nat) (ce : Nat → Int32) (sz : Nat → Int32) (x1 : Int32) (x2 : Int32) : Option ((Nat → Int32)) :=
  fX6_laysBack_2 fu sz x1 x2 fu (0 : Int32) ce
def fX6_adds (ce : Nat → Int32) (sz : Nat → Int32) (x1 : Int32) (x2 : Int32) : Option ((Nat → Int32) × (Nat → Int32)) :=
  (fX6_baseOf x1).bind fun v1 =>
  (ldA sz 6 x1).bind fun v2 =>
  (stA ce 900 (v1 + v2) x2).bind fun g3 =>
  (ldA sz 6 x1).bind fun v4 =>
  (stA sz 6 x1 (v4 + (1 : Int32))).bind fun g5 =>
  some (g3, g5)
def fX6_type_45 (y1 : Int32) (y2 : Int32) (s0 : Int32) (th : Int32) (ce : Nat → Int32) (sz : Nat → Int32) : Option (Int32 × Int32 × (Nat → Int32) × (Nat → Int32)) :=
  (fX6_isThrown th s0 (3 : Int32)).bind fun v5 =>
  if v5.1 = 0 then
    (fX6_adds ce sz y1 y2).bind fun v6 =>
    (ldA v6.2 6 y1).bind fun v7 =>
    some (v7, v5.2, v6.1, v6.2)
  else
    some ((0 : Int32), v5.2, ce, sz)
def fX6_type_21 (y1 : Int32) (y2 : Int32) (s0 : Int32) (th : Int32) (ce : Nat → Int32) (sz : Nat → Int32) : Option (Int32 × Int32 × (Nat → Int32) × (Nat → Int32)) :=
  (fX6_isThrown th s0 (2 : Int32)).bind fun v3 =>
  if v3.1 = 0 then
    (ldA sz 6 y1).bind fun v4 =>
    if v4 = (60 : Int32) then
      fX6_type_45 y1 y2 (1 : Int32) v3.2 ce sz
    else
      fX6_type_45 y1 y2 (0 : Int32) v3.2 ce sz
  else
    some ((0 : Int32), v3.2, ce, sz)
def fX6_type (th : Int32) (ce : Nat → Int32) (sz : Nat → Int32) (x1 : Int32) (x2 : Int32) : Option (Int32 × Int32 × (Nat → Int32) × (Nat → Int32)) :=
  (fX6_isNo th x1).bind fun v1 =>
  if v1.1 = 0 then
    (fX6_isSign x2).bind fun v2 =>
    if v2 = 0 then
      fX6_type_21 x1 x2 (1 : Int32) v1.2 ce sz
    else
      fX6_type_21 x1 x2 (0 : Int32) v1.2 ce sz
  else
    some ((0 : Int32), v1.2, ce, sz)
def fX6_typeMore_190 (fu : Nat) (y1 : Int32) (y2 : Int32) : Nat → Int32 → Int32 → (Nat → Int32) → (Nat → Int32) → Option (Int32 × Int32 × (Nat → Int32) × (Nat → Int32))
  | 0, _, _, _, _ => none
  | n + 1, y10, th, ce, sz =>
    if y2 ≤ y10 then
      (ldA sz 6 y1).bind fun v13 =>
      some (v13, th, ce, sz)
    else
      (ldA ce 900 ((360 : Int32) + y10)).bind fun v14 =>
      (fX6_adds ce sz y1 v14).bind fun v15 =>
      fX6_typeMore_190 fu y1 y2 n (y10 + 1) th v15.1 v15.2
def fX6_typeMore_178 (fu : Nat) (y1 : Int32) (y2 : Int32) (s0 : Int32) (th : Int32) (ce : Nat → Int32) (sz : Nat → Int32) : Option (Int32 × Int32 × (Nat → Int32) × (Nat → Int32)) :=
  (fX6_isThrown th s0 (3 : Int32)).bind fun v12 =>
  if v12.1 = 0 then
    fX6_typeMore_190 fu y1 y2 fu (0 : Int32) v12.2 ce sz
  else
    some ((0 : Int32), v12.2, ce, sz)
def fX6_typeMore_152 (fu : Nat) (y1 : Int32) (y2 : Int32) (s0 : Int32) (th : Int32) (ce : Nat → Int32) (sz : Nat → Int32) : Option (Int32 × Int32 × (Nat → Int32) × (Nat → Int32)) :=
  (fX6_isThrown th s0 (2 : Int32)).bind fun v10 =>
  if v10.1 = 0 then
    (ldA sz 6 y1).bind fun v11 =>
    if (v11 + y2) ≤ (60 : Int32) then
      fX6_typeMore_178 fu y1 y2 (0 : Int32) v10.2 ce sz
    else
      fX6_typeMore_178 fu y1 y2 (1 : Int32) v10.2 ce sz
  else
    some ((0 : Int32), v10.2, ce, sz)
def fX6_typeMore_100 (fu : Nat) (y1 : Int32) (y2 : Int32) : Nat → Int32 → Int32 → Int32 → (Nat → Int32) → (Nat → Int32) → Option (Int32 × Int32 × (Nat → Int32) × (Nat → Int32))
  | 0, _, _, _, _, _ => none
  | n + 1, y9, y10, th, ce, sz =>
    if y2 ≤ y10 then
      if y9 = 0 then
        fX6_typeMore_152 fu y1 y2 (1 : Int32) th ce sz
      else
        fX6_typeMore_152 fu y1 y2 (0 : Int32) th ce sz
    else
      if y9 = 0 then
        fX6_typeMore_100 fu y1 y2 n (0 : Int32) (y10 + 1) th ce sz
      else
        (ldA ce 900 ((360 : Int32) + y10)).bind fun v16 =>
        (fX6_isSign v16).bind fun v17 =>
        if v17 = 0 then
          fX6_typeMore_100 fu y1 y2 n (0 : Int32) (y10 + 1) th ce sz
        else
          fX6_typeMore_100 fu y1 y2 n (1 : Int32) (y10 + 1) th ce sz
def fX6_typeMore_26 (fu : Nat) (y1 : Int32) (y2 : Int32) (y3 : Int32) (y4 : Int32) (y5 : Int32) (y6 : Int32) (y7 : Int32) (y8 : Int32) (s0 : Int32) (th : Int32) (ce : Nat → Int32) (sz : Nat → Int32) : Option (Int32 × Int32 × (Nat → Int32) × (Nat → Int32)) :=
  (fX6_isThrown th s0 (2 : Int32)).bind fun v3 =>
  if v3.1 = 0 then
    (stA ce 900 (360 : Int32) y3).bind fun g4 =>
    (stA g4 900 (361 : Int32) y4).bind fun g5 =>
    (stA g5 900 (362 : Int32) y5).bind fun g6 =>
    (stA g6 900 (363 : Int32) y6).bind fun g7 =>
    (stA g7 900 (364 : Int32) y7).bind fun g8 =>
    (stA g8 900 (365 : Int32) y8).bind fun g9 =>
    fX6_typeMore_100 fu y1 y2 fu (1 : Int32) (0 : Int32) v3.2 g9 sz
  else
    some ((0 : Int32), v3.2, ce, sz)
def fX6_typeMore (fu : Nat) (th : Int32) (ce : Nat → Int32) (sz : Nat → Int32) (x1 : Int32) (x2 : Int32) (x3 : Int32) (x4 : Int32) (x5 : Int32) (x6 : Int32) (x7 : Int32) (x8 : Int32) : Option (Int32 × Int32 × (Nat → Int32) × (Nat → Int32)) :=
  (fX6_isNo th x1).bind fun v1 =>
  if v1.1 = 0 then
    (fX6_isIn (x2.toInt64) (1 : Int64) (6 : Int64)).bind fun v2 =>
    if v2 = 0 then
      fX6_typeMore_26 fu x1 x2 x3 x4 x5 x6 x7 x8 (1 : Int32) v1.2 ce sz
    else
      fX6_typeMore_26 fu x1 x2 x3 x4 x5 x6 x7 x8 (0 : Int32) v1.2 ce sz
  else
    some ((0 : Int32), v1.2, ce, sz)
def fX6_erase (th : Int32) (sz : Nat → Int32) (x1 : Int32) : Option (Int32 × Int32 × (Nat → Int32)) :=
  (fX6_isNo th x1).bind fun v1 =>
  if v1.1 = 0 then
    (ldA sz 6 x1).bind fun v2 =>
    (stA sz 6 x1 (0 : Int32)).bind fun g3 =>
    some (v2, v1.2, g3)
  else
    some ((0 : Int32), v1.2, sz)
def fX6_length (th : Int32) (sz : Nat → Int32) (x1 : Int32) : Option (Int32 × Int32) :=
  (fX6_isNo th x1).bind fun v1 =>
  if v1.1 = 0 then
    (ldA sz 6 x1).bind fun v2 =>
    some (v2, v1.2)
  else
    some ((0 : Int32), v1.2)
def fX6_isNoPlace_32 (sz : Nat → Int32) (s0 : Int32) (th : Int32) : Option (Int32 × Int32) :=
  (fX6_isThrown th s0 (1 : Int32)).bind fun v4 =>
  if v4.1 = 0 then
    some ((0 : Int32), v4.2)
  else
    some ((1 : Int32), v4.2)
def fX6_isNoPlace (th : Int32) (sz : Nat → Int32) (x1 : Int32) (x2 : Int32) : Option (Int32 × Int32) :=
  (fX6_isNo th x1).bind fun v1 =>
  if v1.1 = 0 then
    (ldA sz 6 x1).bind fun v2 =>
    (fX6_isIn (x2.toInt64) (0 : Int64) ((v2 - (1 : Int32)).toInt64)).bind fun v3 =>
    if v3 = 0 then
      fX6_isNoPlace_32 sz (1 : Int32) v1.2
    else
      fX6_isNoPlace_32 sz (0 : Int32) v1.2
  else
    some ((1 : Int32), v1.2)
def fX6_signAt (th : Int32) (ce : Nat → Int32) (sz : Nat → Int32) (x1 : Int32) (x2 : Int32) : Option (Int32 × Int32) :=
  (fX6_isNoPlace th sz x1 x2).bind fun v1 =>
  if v1.1 = 0 then
    (fX6_baseOf x1).bind fun v2 =>
    (ldA ce 900 (v2 + x2)).bind fun v3 =>
    (ckC ((v3.toUInt32 % 65536).toInt32)).bind fun z9 => some (z9, v1.2)
  else
    (ckC (32 : Int32)).bind fun z9 => some (z9, v1.2)
def fX6_join_34 (fu : Nat) (y1 : Int32) (y2 : Int32) (y3 : Int32) (s0 : Int32) (th : Int32) (ce : Nat → Int32) (sz : Nat → Int32) : Option (Int32 × Int32 × (Nat → Int32) × (Nat → Int32)) :=
  (fX6_isThrown th s0 (2 : Int32)).bind fun v4 =>
  if v4.1 = 0 then
    (fX6_lays fu ce sz y2 y3 (360 : Int32)).bind fun v5 =>
    (ldA sz 6 y2).bind fun v6 =>
    (ldA sz 6 y3).bind fun v7 =>
    (fX6_become fu v5 sz y1 (360 : Int32) (v6 + v7)).bind fun v8 =>
    some (v8.1, v4.2, v8.2.1, v8.2.2)
  else
    some ((0 : Int32), v4.2, ce, sz)
def fX6_join (fu : Nat) (th : Int32) (ce : Nat → Int32) (sz : Nat → Int32) (x1 : Int32) (x2 : Int32) (x3 : Int32) : Option (Int32 × Int32 × (Nat → Int32) × (Nat → Int32)) :=
  (fX6_isNoOfAll th x1 x2 x3).bind fun v1 =>
  if v1.1 = 0 then
    (ldA sz 6 x2).bind fun v2 =>
    (ldA sz 6 x3).bind fun v3 =>
    if (v2 + v3) ≤ (60 : Int32) then
      fX6_join_34 fu x1 x2 x3 (0 : Int32) v1.2 ce sz
    else
      fX6_join_34 fu x1 x2 x3 (1 : Int32) v1.2 ce sz
  else
    some ((0 : Int32), v1.2, ce, sz)
def fX6_repeat_71 (fu : Nat) (y1 : Int32) (y2 : Int32) (y4 : Int32) : Nat → Int32 → Int32 → (Nat → Int32) → (Nat → Int32) → Option (Int32 × Int32 × (Nat → Int32) × (Nat → Int32))
  | 0, _, _, _, _ => none
  | n + 1, y5, th, ce, sz =>
    if y4 ≤ y5 then
      (fX6_become fu ce sz y1 (360 : Int32) y4).bind fun v6 =>
      some (v6.1, th, v6.2.1, v6.2.2)
    else
      (fX6_baseOf y2).bind fun v7 =>
      (ldA sz 6 y2).bind fun v8 =>
      (rmI y5 v8).bind fun v9 =>
      (ldA ce 900 (v7 + v9)).bind fun v10 =>
      (stA ce 900 ((360 : Int32) + y5) v10).bind fun g11 =>
      fX6_repeat_71 fu y1 y2 y4 n (y5 + 1) th g11 sz
def fX6_repeat_49 (fu : Nat) (y1 : Int32) (y2 : Int32) (y3 : Int32) (s0 : Int32) (th : Int32) (ce : Nat → Int32) (sz : Nat → Int32) : Option (Int32 × Int32 × (Nat → Int32) × (Nat → Int32)) :=
  (fX6_isThrown th s0 (3 : Int32)).bind fun v4 =>
  if v4.1 = 0 then
    (ldA sz 6 y2).bind fun v5 =>
    fX6_repeat_71 fu y1 y2 (y3 * v5) fu (0 : Int32) v4.2 ce sz
  else
    some ((0 : Int32), v4.2, ce, sz)
def fX6_repeat_19 (fu : Nat) (y1 : Int32) (y2 : Int32) (y3 : Int32) (s0 : Int32) (th : Int32) (ce : Nat → Int32) (sz : Nat → Int32) : Option (Int32 × Int32 × (Nat → Int32) × (Nat → Int32)) :=
  (fX6_isThrown th s0 (2 : Int32)).bind fun v2 =>
  if v2.1 = 0 then
    (ldA sz 6 y2).bind fun v3 =>
    if (lg_cmp ((y3.toInt64) * (v3.toInt64)) (60 : Int64)) ≤ 0 then
      fX6_repeat_49 fu y1 y2 y3 (0 : Int32) v2.2 ce sz
    else
      fX6_repeat_49 fu y1 y2 y3 (1 : Int32) v2.2 ce sz
  else
    some ((0 : Int32), v2.2, ce, sz)
def fX6_repeat (fu : Nat) (th : Int32) (ce : Nat → Int32) (sz : Nat → Int32) (x1 : Int32) (x2 : Int32) (x3 : Int32) : Option (Int32 × Int32 × (Nat → Int32) × (Nat → Int32)) :=
  (fX6_isNoOf th x1 x2).bind fun v1 =>
  if v1.1 = 0 then
    if 0 ≤ x3 then
      fX6_repeat_19 fu x1 x2 x3 (0 : Int32) v1.2 ce sz
    else
      fX6_repeat_19 fu x1 x2 x3 (1 : Int32) v1.2 ce sz
  else
    some ((0 : Int32), v1.2, ce, sz)
def fX6_part_36 (fu : Nat) (y1 : Int32) (y2 : Int32) (y3 : Int32) (y4 : Int32) (s0 : Int32) (th : Int32) (ce : Nat → Int32) (sz : Nat → Int32) : Option (Int32 × Int32 × (Nat → Int32) × (Nat → Int32)) :=
  (fX6_isThrown th s0 (1 : Int32)).bind fun v2 =>
  if v2.1 = 0 then
    (fX6_baseOf y2).bind fun v3 =>
    (fX6_become fu ce sz y1 (v3 + y3) (y4 - y3)).bind fun v4 =>
    some (v4.1, v2.2, v4.2.1, v4.2.2)
  else
    some ((0 : Int32), v2.2, ce, sz)
def fX6_part_31 (fu : Nat) (y1 : Int32) (y2 : Int32) (y3 : Int32) (y4 : Int32) (th : Int32) (ce : Nat → Int32) (sz : Nat → Int32) : Option (Int32 × Int32 × (Nat → Int32) × (Nat → Int32)) :=
  fX6_part_36 fu y1 y2 y3 y4 (1 : Int32) th ce sz
def fX6_part (fu : Nat) (th : Int32) (ce : Nat → Int32) (sz : Nat → Int32) (x1 : Int32) (x2 : Int32) (x3 : Int32) (x4 : Int32) : Option (Int32 × Int32 × (Nat → Int32) × (Nat → Int32)) :=
  (fX6_isNoOf th x1 x2).bind fun v1 =>
  if v1.1 = 0 then
    if x3 < 0 then
      fX6_part_31 fu x1 x2 x3 x4 v1.2 ce sz
    else
      if x4 < x3 then
        fX6_part_31 fu x1 x2 x3 x4 v1.2 ce sz
      else
        (ldA sz 6 x2).bind fun v5 =>
        if x4 ≤ v5 then
          fX6_part_36 fu x1 x2 x3 x4 (0 : Int32) v1.2 ce sz
        else
          fX6_part_31 fu x1 x2 x3 x4 v1.2 ce sz
  else
    some ((0 : Int32), v1.2, ce, sz)
def fX6_turn_31 (fu : Nat) (y1 : Int32) (y2 : Int32) (y3 : Int32) (s0 : Int32) (th : Int32) (ce : Nat → Int32) (sz : Nat → Int32) : Option (Int32 × Int32 × (Nat → Int32) × (Nat → Int32)) :=
  (fX6_isThrown th s0 (1 : Int32)).bind fun v4 =>
  if v4.1 = 0 then
    (fX6_turns fu ce sz y2 y3 (360 : Int32)).bind fun v5 =>
    (ldA sz 6 y2).bind fun v6 =>
    (fX6_become fu v5 sz y1 (360 : Int32) v6).bind fun v7 =>
    some (v7.1, v4.2, v7.2.1, v7.2.2)
  else
    some ((0 : Int32), v4.2, ce, sz)
def fX6_turn (fu : Nat) (th : Int32) (ce : Nat → Int32) (sz : Nat → Int32) (x1 : Int32) (x2 : Int32) (x3 : Int32) : Option (Int32 × Int32 × (Nat → Int32) × (Nat → Int32)) :=
  (fX6_isNoOf th x1 x2).bind fun v1 =>
  if v1.1 = 0 then
    (ldA sz 6 x2).bind fun v2 =>
    (fX6_isIn (x3.toInt64) (0 : Int64) (v2.toInt64)).bind fun v3 =>
    if v3 = 0 then
      fX6_turn_31 fu x1 x2 x3 (1 : Int32) v1.2 ce sz
    else
      fX6_turn_31 fu x1 x2 x3 (0 : Int32) v1.2 ce sz
  else
    some ((0 : Int32), v1.2, ce, sz)
def fX6_back (fu : Nat) (th : Int32) (ce : Nat → Int32) (sz : Nat → Int32) (x1 : Int32) (x2 : Int32) : Option (Int32 × Int32 × (Nat → Int32) × (Nat → Int32)) :=
  (fX6_isNoOf th x1 x2).bind fun v1 =>
  if v1.1 = 0 then
    (fX6_laysBack fu ce sz x2 (360 : Int32)).bind fun v2 =>
    (ldA sz 6 x2).bind fun v3 =>
    (fX6_become fu v2 sz x1 (360 : Int32) v3).bind fun v4 =>
    some (v4.1, v1.2, v4.2.1, v4.2.2)
  else
    some ((0 : Int32), v1.2, ce, sz)
def fX6_counted_49 (fu : Nat) (ce : Nat → Int32) (sz : Nat → Int32) (y1 : Int32) (y2 : Int32) (y3 : Int32) (y4 : Int32) (y6 : Int32) (y7 : Int32) (k6 : Int32 → Int32 → Option (Int32)) (s0 : Int32) (s1 : Int32) : Option (Int32) :=
  if y7 = 0 then
    k6 (s1 + s0) (y6 + (1 : Int32))
  else
    if y4 = 0 then
      k6 (s1 + s0) (y6 + (1 : Int32))
    else
      k6 (s1 + s0) (y6 + y3)
def fX6_counted_6 (fu : Nat) (ce : Nat → Int32) (sz : Nat → Int32) (y1 : Int32) (y2 : Int32) (y3 : Int32) (y4 : Int32) : Nat → Int32 → Int32 → Option (Int32)
  | 0, _, _ => none
  | n + 1, y5, y6 =>
    (ldA sz 6 y1).bind fun v1 =>
    if v1 ≤ y6 then
      some y5
    else
      (fX6_baseOf y1).bind fun v2 =>
      (ldA sz 6 y1).bind fun v3 =>
      (fX6_standsAt fu ce v2 v3 y2 y3 y6).bind fun v4 =>
      if v4 = 0 then
        fX6_counted_49 fu ce sz y1 y2 y3 y4 y6 v4 (fX6_counted_6 fu ce sz y1 y2 y3 y4 n) (0 : Int32) y5
      else
        fX6_counted_49 fu ce sz y1 y2 y3 y4 y6 v4 (fX6_counted_6 fu ce sz y1 y2 y3 y4 n) (1 : Int32) y5
def fX6_counted (fu : Nat) (ce : Nat → Int32) (sz : Nat → Int32) (x1 : Int32) (x2 : Int32) (x3 : Int32) (x4 : Int32) : Option (Int32) :=
  fX6_counted_6 fu ce sz x1 x2 x3 x4 fu (0 : Int32) (0 : Int32)
def fX6_put_191 (fu : Nat) (y1 : Int32) (y2 : Int32) (y3 : Int32) (y4 : Int32) (y5 : Int32) (y6 : Int32) (y7 : Int32) (y8 : Int32) (y9 : Int32) (k113 : Int32 → Int32 → Int32 → (Nat → Int32) → (Nat → Int32) → Option (Int32 × Int32 × (Nat → Int32) × (Nat → Int32))) (s0 : Int32) (th : Int32) (ce : Nat → Int32) (sz : Nat → Int32) : Option (Int32 × Int32 × (Nat → Int32) × (Nat → Int32)) :=
  (fX6_copy fu ce s0 y9 y6).bind fun v20 =>
  if y8 = 0 then
    k113 (y6 + y9) (y7 + (1 : Int32)) th v20 sz
  else
    (ldA sz 6 y3).bind fun v21 =>
    k113 (y6 + y9) (y7 + v21) th v20 sz
def fX6_put_168 (fu : Nat) (y1 : Int32) (y2 : Int32) (y3 : Int32) (y4 : Int32) (y5 : Int32) (y6 : Int32) (y7 : Int32) (y8 : Int32) (k113 : Int32 → Int32 → Int32 → (Nat → Int32) → (Nat → Int32) → Option (Int32 × Int32 × (Nat → Int32) × (Nat → Int32))) (s0 : Int32) (th : Int32) (ce : Nat → Int32) (sz : Nat → Int32) : Option (Int32 × Int32 × (Nat → Int32) × (Nat → Int32)) :=
  if y8 = 0 then
    (fX6_baseOf y2).bind fun v19 =>
    fX6_put_191 fu y1 y2 y3 y4 y5 y6 y7 y8 s0 k113 (v19 + y7) th ce sz
  else
    (fX6_baseOf y4).bind fun v22 =>
    fX6_put_191 fu y1 y2 y3 y4 y5 y6 y7 y8 s0 k113 v22 th ce sz
def fX6_put_113 (fu : Nat) (y1 : Int32) (y2 : Int32) (y3 : Int32) (y4 : Int32) (y5 : Int32) : Nat → Int32 → Int32 → Int32 → (Nat → Int32) → (Nat → Int32) → Option (Int32 × Int32 × (Nat → Int32) × (Nat → Int32))
  | 0, _, _, _, _, _ => none
  | n + 1, y6, y7, th, ce, sz =>
    (ldA sz 6 y2).bind fun v12 =>
    if v12 ≤ y7 then
      (fX6_become fu ce sz y1 (360 : Int32) y5).bind fun v13 =>
      some (v13.1, th, v13.2.1, v13.2.2)
    else
      (fX6_baseOf y2).bind fun v14 =>
      (ldA sz 6 y2).bind fun v15 =>
      (fX6_baseOf y3).bind fun v16 =>
      (ldA sz 6 y3).bind fun v17 =>
      (fX6_standsAt fu ce v14 v15 v16 v17 y7).bind fun v18 =>
      if v18 = 0 then
        fX6_put_168 fu y1 y2 y3 y4 y5 y6 y7 v18 (fX6_put_113 fu y1 y2 y3 y4 y5 n) (1 : Int32) th ce sz
      else
        (ldA sz 6 y4).bind fun v23 =>
        fX6_put_168 fu y1 y2 y3 y4 y5 y6 y7 v18 (fX6_put_113 fu y1 y2 y3 y4 y5 n) v23 th ce sz
def fX6_put_96 (fu : Nat) (y1 : Int32) (y2 : Int32) (y3 : Int32) (y4 : Int32) (y5 : Int32) (s0 : Int32) (th : Int32) (ce : Nat → Int32) (sz : Nat → Int32) : Option (Int32 × Int32 × (Nat → Int32) × (Nat → Int32)) :=
  (fX6_isThrown th s0 (3 : Int32)).bind fun v11 =>
  if v11.1 = 0 then
    fX6_put_113 fu y1 y2 y3 y4 y5 fu (360 : Int32) (0 : Int32) v11.2 ce sz
  else
    some ((0 : Int32), v11.2, ce, sz)
def fX6_put_34 (fu : Nat) (y1 : Int32) (y2 : Int32) (y3 : Int32) (y4 : Int32) (s0 : Int32) (th : Int32) (ce : Nat → Int32) (sz : Nat → Int32) : Option (Int32 × Int32 × (Nat → Int32) × (Nat → Int32)) :=
  (fX6_isThrown th s0 (2 : Int32)).bind fun v4 =>
  if v4.1 = 0 then
    (ldA sz 6 y2).bind fun v5 =>
    (fX6_baseOf y3).bind fun v6 =>
    (ldA sz 6 y3).bind fun v7 =>
    (fX6_counted fu ce sz y2 v6 v7 (1 : Int32)).bind fun v8 =>
    (ldA sz 6 y4).bind fun v9 =>
    (ldA sz 6 y3).bind fun v10 =>
    if (v5 + (v8 * (v9 - v10))) ≤ (60 : Int32) then
      fX6_put_96 fu y1 y2 y3 y4 (v5 + (v8 * (v9 - v10))) (0 : Int32) v4.2 ce sz
    else
      fX6_put_96 fu y1 y2 y3 y4 (v5 + (v8 * (v9 - v10))) (1 : Int32) v4.2 ce sz
  else
    some ((0 : Int32), v4.2, ce, sz)
def fX6_put (fu : Nat) (th : Int32) (ce : Nat → Int32) (sz : Nat → Int32) (x1 : Int32) (x2 : Int32) (x3 : Int32) (x4 : Int32) : Option (Int32 × Int32 × (Nat → Int32) × (Nat → Int32)) :=
  (fX6_isNoOfAll th x1 x2 x3).bind fun v1 =>
  if v1.1 = 0 then
    (fX6_isNo v1.2 x4).bind fun v2 =>
    if v2.1 = 0 then
      (ldA sz 6 x3).bind fun v3 =>
      if v3 = 0 then
        fX6_put_34 fu x1 x2 x3 x4 (1 : Int32) v2.2 ce sz
      else
        fX6_put_34 fu x1 x2 x3 x4 (0 : Int32) v2.2 ce sz
    else
      some ((0 : Int32), v2.2, ce, sz)
  else
    some ((0 : Int32), v1.2, ce, sz)
def fX6_first_87 (fu : Nat) (ce : Nat → Int32) (sz : Nat → Int32) (y1 : Int32) (y4 : Int32) (th : Int32) : Option (Int32 × Int32) :=
  (ldA sz 6 y1).bind fun v4 =>
  if y4 ≤ v4 then
    some (y4, th)
  else
    some ((-1 : Int32), th)
def fX6_first_41 (fu : Nat) (ce : Nat → Int32) (sz : Nat → Int32) (y1 : Int32) (y2 : Int32) : Nat → Int32 → Int32 → Option (Int32 × Int32)
  | 0, _, _ => none
  | n + 1, y4, th =>
    (ldA sz 6 y1).bind fun v3 =>
    if v3 < y4 then
      fX6_first_87 fu ce sz y1 y4 th
    else
      (fX6_baseOf y1).bind fun v5 =>
      (ldA sz 6 y1).bind fun v6 =>
      (fX6_baseOf y2).bind fun v7 =>
      (ldA sz 6 y2).bind fun v8 =>
      (fX6_standsAt fu ce v5 v6 v7 v8 y4).bind fun v9 =>
      if v9 = 0 then
        fX6_first_41 fu ce sz y1 y2 n (y4 + 1) th
      else
        fX6_first_87 fu ce sz y1 y4 th
def fX6_first (fu : Nat) (th : Int32) (ce : Nat → Int32) (sz : Nat → Int32) (x1 : Int32) (x2 : Int32) (x3 : Int32) : Option (Int32 × Int32) :=
  (fX6_isNoOf th x1 x2).bind fun v1 =>
  if v1.1 = 0 then
    if 0 ≤ x3 then
      (ldA sz 6 x1).bind fun v2 =>
      if x3 ≤ v2 then
        fX6_first_41 fu ce sz x1 x2 fu x3 v1.2
      else
        (ldA sz 6 x1).bind fun v10 =>
        fX6_first_41 fu ce sz x1 x2 fu v10 v1.2
    else
      fX6_first_41 fu ce sz x1 x2 fu (0 : Int32) v1.2
  else
    some ((0 : Int32), v1.2)
def fX6_last_33 (fu : Nat) (ce : Nat → Int32) (sz : Nat → Int32) (y1 : Int32) (y2 : Int32) : Nat → Int32 → Int32 → Option (Int32 × Int32)
  | 0, _, _ => none
  | n + 1, y4, th =>
    if y4 < 0 then
      if 0 ≤ y4 then
        some (y4, th)
      else
        some ((-1 : Int32), th)
    else
      (fX6_baseOf y1).bind fun v4 =>
      (ldA sz 6 y1).bind fun v5 =>
      (fX6_baseOf y2).bind fun v6 =>
      (ldA sz 6 y2).bind fun v7 =>
      (fX6_standsAt fu ce v4 v5 v6 v7 y4).bind fun v8 =>
      if v8 = 0 then
        fX6_last_33 fu ce sz y1 y2 n (y4 + (-1)) th
      else
        if 0 ≤ y4 then
          some (y4, th)
        else
          some ((-1 : Int32), th)
def fX6_last (fu : Nat) (th : Int32) (ce : Nat → Int32) (sz : Nat → Int32) (x1 : Int32) (x2 : Int32) (x3 : Int32) : Option (Int32 × Int32) :=
  (fX6_isNoOf th x1 x2).bind fun v1 =>
  if v1.1 = 0 then
    (ldA sz 6 x1).bind fun v2 =>
    if v2 ≤ x3 then
      (ldA sz 6 x1).bind fun v3 =>
      fX6_last_33 fu ce sz x1 x2 fu v3 v1.2
    else
      fX6_last_33 fu ce sz x1 x2 fu x3 v1.2
  else
    some ((0 : Int32), v1.2)
def fX6_many_24 (fu : Nat) (ce : Nat → Int32) (sz : Nat → Int32) (y1 : Int32) (y2 : Int32) (y3 : Int32) (s0 : Int32) (th : Int32) : Option (Int32 × Int32) :=
  (fX6_isThrown th s0 (2 : Int32)).bind fun v3 =>
  if v3.1 = 0 then
    (fX6_baseOf y2).bind fun v4 =>
    (ldA sz 6 y2).bind fun v5 =>
    (fX6_counted fu ce sz y1 v4 v5 y3).bind fun v6 =>
    some (v6, v3.2)
  else
    some ((0 : Int32), v3.2)
def fX6_many (fu : Nat) (th : Int32) (ce : Nat → Int32) (sz : Nat → Int32) (x1 : Int32) (x2 : Int32) (x3 : Int32) : Option (Int32 × Int32) :=
  (fX6_isNoOf th x1 x2).bind fun v1 =>
  if v1.1 = 0 then
    (ldA sz 6 x2).bind fun v2 =>
    if v2 = 0 then
      fX6_many_24 fu ce sz x1 x2 x3 (1 : Int32) v1.2
    else
      fX6_many_24 fu ce sz x1 x2 x3 (0 : Int32) v1.2
  else
    some ((0 : Int32), v1.2)
def fX6_isSame (fu : Nat) (th : Int32) (ce : Nat → Int32) (sz : Nat → Int32) (x1 : Int32) (x2 : Int32) : Option (Int32 × Int32) :=
  (fX6_isNoOf th x1 x2).bind fun v1 =>
  if v1.1 = 0 then
    (fX6_baseOf x1).bind fun v2 =>
    (ldA sz 6 x1).bind fun v3 =>
    (fX6_baseOf x2).bind fun v4 =>
    (ldA sz 6 x2).bind fun v5 =>
    (fX6_areSame fu ce v2 v3 v4 v5).bind fun v6 =>
    if v6 = 0 then
      some ((0 : Int32), v1.2)
    else
      some ((1 : Int32), v1.2)
  else
    some ((0 : Int32), v1.2)
def fX6_compare (fu : Nat) (th : Int32) (ce : Nat → Int32) (sz : Nat → Int32) (x1 : Int32) (x2 : Int32) : Option (Int32 × Int32) :=
  (fX6_isNoOf th x1 x2).bind fun v1 =>
  if v1.1 = 0 then
    (fX6_baseOf x1).bind fun v2 =>
    (ldA sz 6 x1).bind fun v3 =>
    (fX6_baseOf x2).bind fun v4 =>
    (ldA sz 6 x2).bind fun v5 =>
    (fX6_order fu ce v2 v3 v4 v5).bind fun v6 =>
    some (v6, v1.2)
  else
    some ((0 : Int32), v1.2)
def fX6_common (fu : Nat) (th : Int32) (ce : Nat → Int32) (sz : Nat → Int32) (x1 : Int32) (x2 : Int32) : Option (Int32 × Int32) :=
  (fX6_isNoOf th x1 x2).bind fun v1 =>
  if v1.1 = 0 then
    (fX6_baseOf x1).bind fun v2 =>
    (ldA sz 6 x1).bind fun v3 =>
    (fX6_baseOf x2).bind fun v4 =>
    (ldA sz 6 x2).bind fun v5 =>
    (fX6_alike fu ce v2 v3 v4 v5).bind fun v6 =>
    some (v6, v1.2)
  else
    some ((0 : Int32), v1.2)
def fX6_commonEnd (fu : Nat) (th : Int32) (ce : Nat → Int32) (sz : Nat → Int32) (x1 : Int32) (x2 : Int32) : Option (Int32 × Int32 × (Nat → Int32)) :=
  (fX6_isNoOf th x1 x2).bind fun v1 =>
  if v1.1 = 0 then
    (fX6_laysBack fu ce sz x1 (360 : Int32)).bind fun v2 =>
    (fX6_laysBack fu v2 sz x2 (490 : Int32)).bind fun v3 =>
    (ldA sz 6 x1).bind fun v4 =>
    (ldA sz 6 x2).bind fun v5 =>
    (fX6_alike fu v3 (360 : Int32) v4 (490 : Int32) v5).bind fun v6 =>
    some (v6, v1.2, v3)
  else
    some ((0 : Int32), v1.2, ce)
def fX6_behind_5 (fu : Nat) (ce : Nat → Int32) (sz : Nat → Int32) (y2 : Int32) : Nat → Int32 → Int32 → Option (Int32)
  | 0, _, _ => none
  | n + 1, y3, y4 =>
    (ldA sz 6 y2).bind fun v1 =>
    if v1 ≤ y4 then
      some y3
    else
      (fX6_baseOf y2).bind fun v2 =>
      (ldA ce 900 (v2 + y4)).bind fun v3 =>
      fX6_behind_5 fu ce sz y2 n (((31 : Int32) * y3) + v3) (y4 + 1)
def fX6_behind (fu : Nat) (ce : Nat → Int32) (sz : Nat → Int32) (x1 : Int32) (x2 : Int32) : Option (Int32) :=
  fX6_behind_5 fu ce sz x2 fu x1 (0 : Int32)
def fX6_hash (fu : Nat) (th : Int32) (ce : Nat → Int32) (sz : Nat → Int32) (x1 : Int32) : Option (Int32 × Int32) :=
  (fX6_isNo th x1).bind fun v1 =>
  if v1.1 = 0 then
    (fX6_behind fu ce sz (0 : Int32) x1).bind fun v2 =>
    some (v2, v1.2)
  else
    some ((0 : Int32), v1.2)
def fX6_hashJoined (fu : Nat) (th : Int32) (ce : Nat → Int32) (sz : Nat → Int32) (x1 : Int32) (x2 : Int32) : Option (Int32 × Int32) :=
  (fX6_isNoOf th x1 x2).bind fun v1 =>
  if v1.1 = 0 then
    (fX6_behind fu ce sz (0 : Int32) x1).bind fun v2 =>
    (fX6_behind fu ce sz v2 x2).bind fun v3 =>
    some (v3, v1.2)
  else
    some ((0 : Int32), v1.2)
def fX6_hashRepeated_40 (fu : Nat) (ce : Nat → Int32) (sz : Nat → Int32) (y1 : Int32) (y2 : Int32) : Nat → Int32 → Int32 → Int32 → Option (Int32 × Int32)
  | 0, _, _, _ => none
  | n + 1, y3, y4, th =>
    if y2 ≤ y4 then
      some (y3, th)
    else
      (fX6_behind fu ce sz y3 y1).bind fun v4 =>
      fX6_hashRepeated_40 fu ce sz y1 y2 n v4 (y4 + 1) th
def fX6_hashRepeated_26 (fu : Nat) (ce : Nat → Int32) (sz : Nat → Int32) (y1 : Int32) (y2 : Int32) (s0 : Int32) (th : Int32) : Option (Int32 × Int32) :=
  (fX6_isThrown th s0 (2 : Int32)).bind fun v3 =>
  if v3.1 = 0 then
    fX6_hashRepeated_40 fu ce sz y1 y2 fu (0 : Int32) (0 : Int32) v3.2
  else
    some ((0 : Int32), v3.2)
def fX6_hashRepeated (fu : Nat) (th : Int32) (ce : Nat → Int32) (sz : Nat → Int32) (x1 : Int32) (x2 : Int32) : Option (Int32 × Int32) :=
  (fX6_isNo th x1).bind fun v1 =>
  if v1.1 = 0 then
    (fX6_isIn (x2.toInt64) (0 : Int64) (1000 : Int64)).bind fun v2 =>
    if v2 = 0 then
      fX6_hashRepeated_26 fu ce sz x1 x2 (1 : Int32) v1.2
    else
      fX6_hashRepeated_26 fu ce sz x1 x2 (0 : Int32) v1.2
  else
    some ((0 : Int32), v1.2)
def fX6_isPeriod_17 (fu : Nat) (ce : Nat → Int32) (sz : Nat → Int32) (y1 : Int32) (y2 : Int32) : Nat → Int32 → Int32 → Option (Int32)
  | 0, _, _ => none
  | n + 1, y3, y4 =>
    if y3 = 0 then
      (ckZ y3).bind fun z9 => some z9
    else
      (ldA sz 6 y1).bind fun v3 =>
      if v3 ≤ (y4 + y2) then
        (ckZ y3).bind fun z9 => some z9
      else
        (fX6_baseOf y1).bind fun v4 =>
        (ldA ce 900 (v4 + y4)).bind fun v5 =>
        (fX6_baseOf y1).bind fun v6 =>
        (ldA ce 900 ((v6 + y4) + y2)).bind fun v7 =>
        if v5 = v7 then
          fX6_isPeriod_17 fu ce sz y1 y2 n (1 : Int32) (y4 + 1)
        else
          fX6_isPeriod_17 fu ce sz y1 y2 n (0 : Int32) (y4 + 1)
def fX6_isPeriod (fu : Nat) (ce : Nat → Int32) (sz : Nat → Int32) (x1 : Int32) (x2 : Int32) : Option (Int32) :=
  (ldA sz 6 x1).bind fun v1 =>
  (fX6_isIn (x2.toInt64) (1 : Int64) (v1.toInt64)).bind fun v2 =>
  fX6_isPeriod_17 fu ce sz x1 x2 fu v2 (0 : Int32)
def fX6_periodsOf_4 (fu : Nat) (ce : Nat → Int32) (sz : Nat → Int32) (y1 : Int32) : Nat → Int32 → Int32 → Option (Int32)
  | 0, _, _ => none
  | n + 1, y2, y3 =>
    (ldA sz 6 y1).bind fun v1 =>
    if v1 < y3 then
      some y2
    else
      (fX6_isPeriod fu ce sz y1 y3).bind fun v2 =>
      if v2 = 0 then
        fX6_periodsOf_4 fu ce sz y1 n (y2 + (0 : Int32)) (y3 + 1)
      else
        fX6_periodsOf_4 fu ce sz y1 n (y2 + (1 : Int32)) (y3 + 1)
def fX6_periodsOf (fu : Nat) (ce : Nat → Int32) (sz : Nat → Int32) (x1 : Int32) : Option (Int32) :=
  fX6_periodsOf_4 fu ce sz x1 fu (0 : Int32) (1 : Int32)
def fX6_periods (fu : Nat) (th : Int32) (ce : Nat → Int32) (sz : Nat → Int32) (x1 : Int32) : Option (Int32 × Int32) :=
  (fX6_isNo th x1).bind fun v1 =>
  if v1.1 = 0 then
    (fX6_periodsOf fu ce sz x1).bind fun v2 =>
    some (v2, v1.2)
  else
    some ((0 : Int32), v1.2)
def fX6_periodAt_59 (fu : Nat) (ce : Nat → Int32) (sz : Nat → Int32) (y1 : Int32) (y3 : Int32) (y4 : Int32) (k45 : Int32 → Int32 → Int32 → Option (Int32 × Int32)) (th : Int32) : Option (Int32 × Int32) :=
  (fX6_isPeriod fu ce sz y1 y4).bind fun v5 =>
  if v5 = 0 then
    k45 (y3 - (0 : Int32)) (y4 + 1) th
  else
    k45 (y3 - (1 : Int32)) (y4 + 1) th
def fX6_periodAt_45 (fu : Nat) (ce : Nat → Int32) (sz : Nat → Int32) (y1 : Int32) : Nat → Int32 → Int32 → Int32 → Option (Int32 × Int32)
  | 0, _, _, _ => none
  | n + 1, y3, y4, th =>
    if 0 < y3 then
      fX6_periodAt_59 fu ce sz y1 y3 y4 (fX6_periodAt_45 fu ce sz y1 n) th
    else
      (fX6_isPeriod fu ce sz y1 y4).bind fun v6 =>
      if v6 = 0 then
        fX6_periodAt_59 fu ce sz y1 y3 y4 (fX6_periodAt_45 fu ce sz y1 n) th
      else
        some (y4, th)
def fX6_periodAt_31 (fu : Nat) (ce : Nat → Int32) (sz : Nat → Int32) (y1 : Int32) (y2 : Int32) (s0 : Int32) (th : Int32) : Option (Int32 × Int32) :=
  (fX6_isThrown th s0 (2 : Int32)).bind fun v4 =>
  if v4.1 = 0 then
    fX6_periodAt_45 fu ce sz y1 fu y2 (1 : Int32) v4.2
  else
    some ((0 : Int32), v4.2)
def fX6_periodAt (fu : Nat) (th : Int32) (ce : Nat → Int32) (sz : Nat → Int32) (x1 : Int32) (x2 : Int32) : Option (Int32 × Int32) :=
  (fX6_isNo th x1).bind fun v1 =>
  if v1.1 = 0 then
    (fX6_periodsOf fu ce sz x1).bind fun v2 =>
    (fX6_isIn (x2.toInt64) (0 : Int64) ((v2 - (1 : Int32)).toInt64)).bind fun v3 =>
    if v3 = 0 then
      fX6_periodAt_31 fu ce sz x1 x2 (1 : Int32) v1.2
    else
      fX6_periodAt_31 fu ce sz x1 x2 (0 : Int32) v1.2
  else
    some ((0 : Int32), v1.2)
def fX6_border_42 (fu : Nat) (y1 : Int32) (y2 : Int32) : Nat → Int32 → Int32 → (Nat → Int32) → (Nat → Int32) → Option (Int32 × Int32 × (Nat → Int32) × (Nat → Int32))
  | 0, _, _, _, _ => none
  | n + 1, y3, th, ce, sz =>
    (fX6_baseOf y2).bind fun v5 =>
    (ldA sz 6 y2).bind fun v6 =>
    (fX6_baseOf y2).bind fun v7 =>
    (ldA sz 6 y2).bind fun v8 =>
    (fX6_standsAt fu ce v5 v6 v7 y3 (v8 - y3)).bind fun v9 =>
    if v9 = 0 then
      fX6_border_42 fu y1 y2 n (y3 + (-1)) th ce sz
    else
      (fX6_baseOf y2).bind fun v10 =>
      (fX6_become fu ce sz y1 v10 y3).bind fun v11 =>
      some (v11.1, th, v11.2.1, v11.2.2)
def fX6_border_24 (fu : Nat) (y1 : Int32) (y2 : Int32) (s0 : Int32) (th : Int32) (ce : Nat → Int32) (sz : Nat → Int32) : Option (Int32 × Int32 × (Nat → Int32) × (Nat → Int32)) :=
  (fX6_isThrown th s0 (2 : Int32)).bind fun v3 =>
  if v3.1 = 0 then
    (ldA sz 6 y2).bind fun v4 =>
    fX6_border_42 fu y1 y2 fu (v4 - (1 : Int32)) v3.2 ce sz
  else
    some ((0 : Int32), v3.2, ce, sz)
def fX6_border (fu : Nat) (th : Int32) (ce : Nat → Int32) (sz : Nat → Int32) (x1 : Int32) (x2 : Int32) : Option (Int32 × Int32 × (Nat → Int32) × (Nat → Int32)) :=
  (fX6_isNoOf th x1 x2).bind fun v1 =>
  if v1.1 = 0 then
    (ldA sz 6 x2).bind fun v2 =>
    if v2 = 0 then
      fX6_border_24 fu x1 x2 (1 : Int32) v1.2 ce sz
    else
      fX6_border_24 fu x1 x2 (0 : Int32) v1.2 ce sz
  else
    some ((0 : Int32), v1.2, ce, sz)
def fX6_rootOf_2 (fu : Nat) (ce : Nat → Int32) (sz : Nat → Int32) (y1 : Int32) : Nat → Int32 → Option (Int32)
  | 0, _ => none
  | n + 1, y2 =>
    (ldA sz 6 y1).bind fun v1 =>
    (rmI v1 y2).bind fun v2 =>
    if v2 = 0 then
      (fX6_isPeriod fu ce sz y1 y2).bind fun v3 =>
      if v3 = 0 then
        fX6_rootOf_2 fu ce sz y1 n (y2 + 1)
      else
        some y2
    else
      fX6_rootOf_2 fu ce sz y1 n (y2 + 1)
def fX6_rootOf (fu : Nat) (ce : Nat → Int32) (sz : Nat → Int32) (x1 : Int32) : Option (Int32) :=
  fX6_rootOf_2 fu ce sz x1 fu (1 : Int32)
def fX6_root_24 (fu : Nat) (y1 : Int32) (y2 : Int32) (s0 : Int32) (th : Int32) (ce : Nat → Int32) (sz : Nat → Int32) : Option (Int32 × Int32 × (Nat → Int32) × (Nat → Int32)) :=
  (fX6_isThrown th s0 (2 : Int32)).bind fun v3 =>
  if v3.1 = 0 then
    (fX6_rootOf fu ce sz y2).bind fun v4 =>
    (ldA sz 6 y2).bind fun v5 =>
    (dvI v5 v4).bind fun v6 =>
    (fX6_baseOf y2).bind fun v7 =>
    (fX6_become fu ce sz y1 v7 v4).bind fun v8 =>
    (dvI (v6 * v8.1) v4).bind fun v9 =>
    some (v9, v3.2, v8.2.1, v8.2.2)
  else
    some ((0 : Int32), v3.2, ce, sz)
def fX6_root (fu : Nat) (th : Int32) (ce : Nat → Int32) (sz : Nat → Int32) (x1 : Int32) (x2 : Int32) : Option (Int32 × Int32 × (Nat → Int32) × (Nat → Int32)) :=
  (fX6_isNoOf th x1 x2).bind fun v1 =>
  if v1.1 = 0 then
    (ldA sz 6 x2).bind fun v2 =>
    if v2 = 0 then
      fX6_root_24 fu x1 x2 (1 : Int32) v1.2 ce sz
    else
      fX6_root_24 fu x1 x2 (0 : Int32) v1.2 ce sz
  else
    some ((0 : Int32), v1.2, ce, sz)
def fX6_turnTo_13 (fu : Nat) (sz : Nat → Int32) (y1 : Int32) (y2 : Int32) : Nat → Int32 → Int32 → (Nat → Int32) → Option (Int32 × Int32 × (Nat → Int32))
  | 0, _, _, _ => none
  | n + 1, y3, th, ce =>
    (ldA sz 6 y1).bind fun v2 =>
    if v2 < y3 then
      some ((-1 : Int32), th, ce)
    else
      (fX6_turns fu ce sz y1 y3 (360 : Int32)).bind fun v3 =>
      (ldA sz 6 y1).bind fun v4 =>
      (fX6_baseOf y2).bind fun v5 =>
      (ldA sz 6 y2).bind fun v6 =>
      (fX6_areSame fu v3 (360 : Int32) v4 v5 v6).bind fun v7 =>
      if v7 = 0 then
        fX6_turnTo_13 fu sz y1 y2 n (y3 + 1) th v3
      else
        some (y3, th, v3)
def fX6_turnTo (fu : Nat) (th : Int32) (ce : Nat → Int32) (sz : Nat → Int32) (x1 : Int32) (x2 : Int32) : Option (Int32 × Int32 × (Nat → Int32)) :=
  (fX6_isNoOf th x1 x2).bind fun v1 =>
  if v1.1 = 0 then
    fX6_turnTo_13 fu sz x1 x2 fu (0 : Int32) v1.2 ce
  else
    some ((0 : Int32), v1.2, ce)
def fX6_turnings_98 (fu : Nat) (sz : Nat → Int32) (y1 : Int32) (y2 : Int32) (y3 : Int32) (y4 : Int32) (k14 : Int32 → Int32 → Int32 → (Nat → Int32) → Option (Int32 × Int32 × (Nat → Int32))) (th : Int32) (ce : Nat → Int32) : Option (Int32 × Int32 × (Nat → Int32)) :=
  if y4 = 0 then
    k14 (y2 + (0 : Int32)) (y3 + 1) th ce
  else
    k14 (y2 + (1 : Int32)) (y3 + 1) th ce
def fX6_turnings_39 (fu : Nat) (sz : Nat → Int32) (y1 : Int32) (y2 : Int32) (y3 : Int32) (k14 : Int32 → Int32 → Int32 → (Nat → Int32) → Option (Int32 × Int32 × (Nat → Int32))) : Nat → Int32 → Int32 → Int32 → (Nat → Int32) → Option (Int32 × Int32 × (Nat → Int32))
  | 0, _, _, _, _ => none
  | n + 1, y4, y5, th, ce =>
    if y3 ≤ y5 then
      fX6_turnings_98 fu sz y1 y2 y3 y4 k14 th ce
    else
      if y4 = 0 then
        fX6_turnings_98 fu sz y1 y2 y3 y4 k14 th ce
      else
        (fX6_turns fu ce sz y1 y5 (490 : Int32)).bind fun v4 =>
        (ldA sz 6 y1).bind fun v5 =>
        (ldA sz 6 y1).bind fun v6 =>
        (fX6_areSame fu v4 (360 : Int32) v5 (490 : Int32) v6).bind fun v7 =>
        if v7 = 0 then
          fX6_turnings_39 fu sz y1 y2 y3 k14 n (1 : Int32) (y5 + 1) th v4
        else
          fX6_turnings_39 fu sz y1 y2 y3 k14 n (0 : Int32) (y5 + 1) th v4
def fX6_turnings_14 (fu : Nat) (sz : Nat → Int32) (y1 : Int32) : Nat → Int32 → Int32 → Int32 → (Nat → Int32) → Option (Int32 × Int32 × (Nat → Int32))
  | 0, _, _, _, _ => none
  | n + 1, y2, y3, th, ce =>
    (ldA sz 6 y1).bind fun v2 =>
    if v2 < y3 then
      some (y2, th, ce)
    else
      (fX6_turns fu ce sz y1 y3 (360 : Int32)).bind fun v3 =>
      fX6_turnings_39 fu sz y1 y2 y3 (fX6_turnings_14 fu sz y1 n) fu (1 : Int32) (0 : Int32) th v3
def fX6_turnings (fu : Nat) (th : Int32) (ce : Nat → Int32) (sz : Nat → Int32) (x1 : Int32) : Option (Int32 × Int32 × (Nat → Int32)) :=
  (fX6_isNo th x1).bind fun v1 =>
  if v1.1 = 0 then
    fX6_turnings_14 fu sz x1 fu (0 : Int32) (0 : Int32) v1.2 ce
  else
    some ((0 : Int32), v1.2, ce)
def fX6_leastTurn_14 (fu : Nat) (sz : Nat → Int32) (y1 : Int32) : Nat → Int32 → Int32 → Int32 → (Nat → Int32) → Option (Int32 × Int32 × (Nat → Int32))
  | 0, _, _, _, _ => none
  | n + 1, y2, y3, th, ce =>
    (ldA sz 6 y1).bind fun v2 =>
    if v2 ≤ y3 then
      some (y2, th, ce)
    else
      (fX6_turns fu ce sz y1 y3 (360 : Int32)).bind fun v3 =>
      (fX6_turns fu v3 sz y1 y2 (490 : Int32)).bind fun v4 =>
      (ldA sz 6 y1).bind fun v5 =>
      (ldA sz 6 y1).bind fun v6 =>
      (fX6_order fu v4 (360 : Int32) v5 (490 : Int32) v6).bind fun v7 =>
      if 0 ≤ v7 then
        fX6_leastTurn_14 fu sz y1 n y2 (y3 + 1) th v4
      else
        fX6_leastTurn_14 fu sz y1 n y3 (y3 + 1) th v4
def fX6_leastTurn (fu : Nat) (th : Int32) (ce : Nat → Int32) (sz : Nat → Int32) (x1 : Int32) : Option (Int32 × Int32 × (Nat → Int32)) :=
  (fX6_isNo th x1).bind fun v1 =>
  if v1.1 = 0 then
    fX6_leastTurn_14 fu sz x1 fu (0 : Int32) (1 : Int32) v1.2 ce
  else
    some ((0 : Int32), v1.2, ce)
def fX6_isLeastEnd_5 (fu : Nat) (ce : Nat → Int32) (y1 : Int32) (y2 : Int32) : Nat → Int32 → Int32 → Option (Int32)
  | 0, _, _ => none
  | n + 1, y3, y4 =>
    if y2 ≤ y4 then
      (ckZ y3).bind fun z9 => some z9
    else
      if y3 = 0 then
        (ckZ y3).bind fun z9 => some z9
      else
        (fX6_order fu ce y1 y2 (y1 + y4) (y2 - y4)).bind fun v1 =>
        if 0 ≤ v1 then
          fX6_isLeastEnd_5 fu ce y1 y2 n (0 : Int32) (y4 + 1)
        else
          fX6_isLeastEnd_5 fu ce y1 y2 n (1 : Int32) (y4 + 1)
def fX6_isLeastEnd (fu : Nat) (ce : Nat → Int32) (x1 : Int32) (x2 : Int32) : Option (Int32) :=
  fX6_isLeastEnd_5 fu ce x1 x2 fu (1 : Int32) (1 : Int32)
def fX6_factorOf_9 (fu : Nat) (ce : Nat → Int32) (sz : Nat → Int32) (y1 : Int32) (y2 : Int32) : Nat → Int32 → Option (Int32)
  | 0, _ => none
  | n + 1, y3 =>
    (fX6_baseOf y1).bind fun v2 =>
    (fX6_isLeastEnd fu ce (v2 + y2) y3).bind fun v3 =>
    if v3 = 0 then
      fX6_factorOf_9 fu ce sz y1 y2 n (y3 + (-1))
    else
      some y3
def fX6_factorOf (fu : Nat) (ce : Nat → Int32) (sz : Nat → Int32) (x1 : Int32) (x2 : Int32) : Option (Int32) :=
  (ldA sz 6 x1).bind fun v1 =>
  fX6_factorOf_9 fu ce sz x1 x2 fu (v1 - x2)
def fX6_factorsOf_4 (fu : Nat) (ce : Nat → Int32) (sz : Nat → Int32) (y1 : Int32) : Nat → Int32 → Int32 → Option (Int32)
  | 0, _, _ => none
  | n + 1, y2, y3 =>
    (ldA sz 6 y1).bind fun v1 =>
    if v1 ≤ y3 then
      some y2
    else
      (fX6_factorOf fu ce sz y1 y3).bind fun v2 =>
      fX6_factorsOf_4 fu ce sz y1 n (y2 + 1) (y3 + v2)
def fX6_factorsOf (fu : Nat) (ce : Nat → Int32) (sz : Nat → Int32) (x1 : Int32) : Option (Int32) :=
  fX6_factorsOf_4 fu ce sz x1 fu (0 : Int32) (0 : Int32)
def fX6_factors (fu : Nat) (th : Int32) (ce : Nat → Int32) (sz : Nat → Int32) (x1 : Int32) : Option (Int32 × Int32) :=
  (fX6_isNo th x1).bind fun v1 =>
  if v1.1 = 0 then
    (fX6_factorsOf fu ce sz x1).bind fun v2 =>
    some (v2, v1.2)
  else
    some ((0 : Int32), v1.2)
def fX6_factorAt_45 (fu : Nat) (ce : Nat → Int32) (sz : Nat → Int32) (y1 : Int32) (y2 : Int32) : Nat → Int32 → Int32 → Int32 → Option (Int32 × Int32)
  | 0, _, _, _ => none
  | n + 1, y3, y4, th =>
    if y2 ≤ y4 then
      some (y3, th)
    else
      (fX6_factorOf fu ce sz y1 y3).bind fun v5 =>
      fX6_factorAt_45 fu ce sz y1 y2 n (y3 + v5) (y4 + 1) th
def fX6_factorAt_31 (fu : Nat) (ce : Nat → Int32) (sz : Nat → Int32) (y1 : Int32) (y2 : Int32) (s0 : Int32) (th : Int32) : Option (Int32 × Int32) :=
  (fX6_isThrown th s0 (2 : Int32)).bind fun v4 =>
  if v4.1 = 0 then
    fX6_factorAt_45 fu ce sz y1 y2 fu (0 : Int32) (0 : Int32) v4.2
  else
    some ((0 : Int32), v4.2)
def fX6_factorAt (fu : Nat) (th : Int32) (ce : Nat → Int32) (sz : Nat → Int32) (x1 : Int32) (x2 : Int32) : Option (Int32 × Int32) :=
  (fX6_isNo th x1).bind fun v1 =>
  if v1.1 = 0 then
    (fX6_factorsOf fu ce sz x1).bind fun v2 =>
    (fX6_isIn (x2.toInt64) (0 : Int64) ((v2 - (1 : Int32)).toInt64)).bind fun v3 =>
    if v3 = 0 then
      fX6_factorAt_31 fu ce sz x1 x2 (1 : Int32) v1.2
    else
      fX6_factorAt_31 fu ce sz x1 x2 (0 : Int32) v1.2
  else
    some ((0 : Int32), v1.2)
def fX6_rank_5 (fu : Nat) (ce : Nat → Int32) (sz : Nat → Int32) (y1 : Int32) (y2 : Int32) : Nat → Int32 → Int32 → Option (Int32)
  | 0, _, _ => none
  | n + 1, y3, y4 =>
    (ldA sz 6 y1).bind fun v1 =>
    if v1 ≤ y4 then
      some y3
    else
      (fX6_baseOf y1).bind fun v2 =>
      (ldA sz 6 y1).bind fun v3 =>
      (fX6_baseOf y1).bind fun v4 =>
      (ldA sz 6 y1).bind fun v5 =>
      (fX6_order fu ce (v2 + y4) (v3 - y4) (v4 + y2) (v5 - y2)).bind fun v6 =>
      if 0 ≤ v6 then
        fX6_rank_5 fu ce sz y1 y2 n (y3 + (0 : Int32)) (y4 + 1)
      else
        fX6_rank_5 fu ce sz y1 y2 n (y3 + (1 : Int32)) (y4 + 1)
def fX6_rank (fu : Nat) (ce : Nat → Int32) (sz : Nat → Int32) (x1 : Int32) (x2 : Int32) : Option (Int32) :=
  fX6_rank_5 fu ce sz x1 x2 fu (0 : Int32) (0 : Int32)
def fX6_endAt_43 (fu : Nat) (ce : Nat → Int32) (sz : Nat → Int32) (y1 : Int32) (y2 : Int32) : Nat → Int32 → Int32 → Option (Int32 × Int32)
  | 0, _, _ => none
  | n + 1, y3, th =>
    (fX6_rank fu ce sz y1 y3).bind fun v5 =>
    if v5 = y2 then
      some (y3, th)
    else
      fX6_endAt_43 fu ce sz y1 y2 n (y3 + 1) th
def fX6_endAt_32 (fu : Nat) (ce : Nat → Int32) (sz : Nat → Int32) (y1 : Int32) (y2 : Int32) (s0 : Int32) (th : Int32) : Option (Int32 × Int32) :=
  (fX6_isThrown th s0 (2 : Int32)).bind fun v4 =>
  if v4.1 = 0 then
    fX6_endAt_43 fu ce sz y1 y2 fu (0 : Int32) v4.2
  else
    some ((0 : Int32), v4.2)
def fX6_endAt (fu : Nat) (th : Int32) (ce : Nat → Int32) (sz : Nat → Int32) (x1 : Int32) (x2 : Int32) : Option (Int32 × Int32) :=
  (fX6_isNo th x1).bind fun v1 =>
  if v1.1 = 0 then
    (ldA sz 6 x1).bind fun v2 =>
    (fX6_isIn (x2.toInt64) (0 : Int64) ((v2 - (1 : Int32)).toInt64)).bind fun v3 =>
    if v3 = 0 then
      fX6_endAt_32 fu ce sz x1 x2 (1 : Int32) v1.2
    else
      fX6_endAt_32 fu ce sz x1 x2 (0 : Int32) v1.2
  else
    some ((0 : Int32), v1.2)
def fX6_rankOf (fu : Nat) (th : Int32) (ce : Nat → Int32) (sz : Nat → Int32) (x1 : Int32) (x2 : Int32) : Option (Int32 × Int32) :=
  (fX6_isNoPlace th sz x1 x2).bind fun v1 =>
  if v1.1 = 0 then
    (fX6_rank fu ce sz x1 x2).bind fun v2 =>
    some (v2, v1.2)
  else
    some ((0 : Int32), v1.2)
def fX6_isNewAt_6 (fu : Nat) (ce : Nat → Int32) (sz : Nat → Int32) (y1 : Int32) (y2 : Int32) (y3 : Int32) : Nat → Int32 → Int32 → Option (Int32)
  | 0, _, _ => none
  | n + 1, y4, y5 =>
    if y2 ≤ y5 then
      (ckZ y4).bind fun z9 => some z9
    else
      if y4 = 0 then
        (ckZ y4).bind fun z9 => some z9
      else
        (fX6_baseOf y1).bind fun v1 =>
        (ldA sz 6 y1).bind fun v2 =>
        (fX6_baseOf y1).bind fun v3 =>
        (fX6_standsAt fu ce v1 v2 (v3 + y2) y3 y5).bind fun v4 =>
        if v4 = 0 then
          fX6_isNewAt_6 fu ce sz y1 y2 y3 n (1 : Int32) (y5 + 1)
        else
          fX6_isNewAt_6 fu ce sz y1 y2 y3 n (0 : Int32) (y5 + 1)
def fX6_isNewAt (fu : Nat) (ce : Nat → Int32) (sz : Nat → Int32) (x1 : Int32) (x2 : Int32) (x3 : Int32) : Option (Int32) :=
  fX6_isNewAt_6 fu ce sz x1 x2 x3 fu (1 : Int32) (0 : Int32)
def fX6_isMirror_5 (fu : Nat) (ce : Nat → Int32) (y1 : Int32) (y2 : Int32) : Nat → Int32 → Int32 → Option (Int32)
  | 0, _, _ => none
  | n + 1, y3, y4 =>
    if y2 ≤ y4 then
      (ckZ y3).bind fun z9 => some z9
    else
      if y3 = 0 then
        (ckZ y3).bind fun z9 => some z9
      else
        (ldA ce 900 (y1 + y4)).bind fun v1 =>
        (ldA ce 900 (((y1 + y2) - (1 : Int32)) - y4)).bind fun v2 =>
        if v1 = v2 then
          fX6_isMirror_5 fu ce y1 y2 n (1 : Int32) (y4 + 1)
        else
          fX6_isMirror_5 fu ce y1 y2 n (0 : Int32) (y4 + 1)
def fX6_isMirror (fu : Nat) (ce : Nat → Int32) (x1 : Int32) (x2 : Int32) : Option (Int32) :=
  fX6_isMirror_5 fu ce x1 x2 fu (1 : Int32) (0 : Int32)
def fX6_unlike_58 (fu : Nat) (ce : Nat → Int32) (sz : Nat → Int32) (y1 : Int32) (y2 : Int32) (y3 : Int32) (y4 : Int32) (y5 : Int32) (k19 : Int32 → Int32 → Option (Int32)) (s0 : Int32) : Option (Int32) :=
  if s0 = 0 then
    k19 (y3 + (0 : Int32)) (y5 + 1)
  else
    (fX6_isNewAt fu ce sz y1 y4 y5).bind fun v3 =>
    if v3 = 0 then
      k19 (y3 + (0 : Int32)) (y5 + 1)
    else
      k19 (y3 + (1 : Int32)) (y5 + 1)
def fX6_unlike_53 (fu : Nat) (ce : Nat → Int32) (sz : Nat → Int32) (y1 : Int32) (y2 : Int32) (y3 : Int32) (y4 : Int32) (y5 : Int32) (k19 : Int32 → Int32 → Option (Int32)) : Option (Int32) :=
  fX6_unlike_58 fu ce sz y1 y2 y3 y4 y5 k19 (1 : Int32)
def fX6_unlike_19 (fu : Nat) (ce : Nat → Int32) (sz : Nat → Int32) (y1 : Int32) (y2 : Int32) (y4 : Int32) (k5 : Int32 → Int32 → Option (Int32)) : Nat → Int32 → Int32 → Option (Int32)
  | 0, _, _ => none
  | n + 1, y3, y5 =>
    (ldA sz 6 y1).bind fun v2 =>
    if v2 < (y4 + y5) then
      k5 y3 (y4 + 1)
    else
      if y2 = 0 then
        fX6_unlike_53 fu ce sz y1 y2 y3 y4 y5 (fX6_unlike_19 fu ce sz y1 y2 y4 k5 n)
      else
        (fX6_baseOf y1).bind fun v4 =>
        (fX6_isMirror fu ce (v4 + y4) y5).bind fun v5 =>
        if v5 = 0 then
          fX6_unlike_58 fu ce sz y1 y2 y3 y4 y5 (fX6_unlike_19 fu ce sz y1 y2 y4 k5 n) (0 : Int32)
        else
          fX6_unlike_53 fu ce sz y1 y2 y3 y4 y5 (fX6_unlike_19 fu ce sz y1 y2 y4 k5 n)
def fX6_unlike_5 (fu : Nat) (ce : Nat → Int32) (sz : Nat → Int32) (y1 : Int32) (y2 : Int32) : Nat → Int32 → Int32 → Option (Int32)
  | 0, _, _ => none
  | n + 1, y3, y4 =>
    (ldA sz 6 y1).bind fun v1 =>
    if v1 ≤ y4 then
      some y3
    else
      fX6_unlike_19 fu ce sz y1 y2 y4 (fX6_unlike_5 fu ce sz y1 y2 n) fu y3 (1 : Int32)
def fX6_unlike (fu : Nat) (ce : Nat → Int32) (sz : Nat → Int32) (x1 : Int32) (x2 : Int32) : Option (Int32) :=
  fX6_unlike_5 fu ce sz x1 x2 fu (0 : Int32) (0 : Int32)
def fX6_unlikeParts (fu : Nat) (th : Int32) (ce : Nat → Int32) (sz : Nat → Int32) (x1 : Int32) : Option (Int32 × Int32) :=
  (fX6_isNo th x1).bind fun v1 =>
  if v1.1 = 0 then
    (fX6_unlike fu ce sz x1 (0 : Int32)).bind fun v2 =>
    some (v2, v1.2)
  else
    some ((0 : Int32), v1.2)
def fX6_mirrors (fu : Nat) (th : Int32) (ce : Nat → Int32) (sz : Nat → Int32) (x1 : Int32) : Option (Int32 × Int32) :=
  (fX6_isNo th x1).bind fun v1 =>
  if v1.1 = 0 then
    (fX6_unlike fu ce sz x1 (1 : Int32)).bind fun v2 =>
    some (v2, v1.2)
  else
    some ((0 : Int32), v1.2)
def fX6_twice_160 (fu : Nat) (y3 : Int32) (y4 : Int32) (s0 : Int32) (s1 : Int32) (s2 : Int32) (th : Int32) (ce : Nat → Int32) (sz : Nat → Int32) : Option (Int32 × Int32 × (Nat → Int32) × (Nat → Int32)) :=
  if y3 = (-1 : Int32) then
    (fX6_become fu ce sz s2 (s1 + s0) (0 : Int32)).bind fun v5 =>
    some (v5.1, th, v5.2.1, v5.2.2)
  else
    (fX6_become fu ce sz s2 (s1 + s0) y4).bind fun v4 =>
    some (v4.1, th, v4.2.1, v4.2.2)
def fX6_twice_144 (fu : Nat) (y1 : Int32) (y2 : Int32) (y3 : Int32) (y4 : Int32) (th : Int32) (ce : Nat → Int32) (sz : Nat → Int32) : Option (Int32 × Int32 × (Nat → Int32) × (Nat → Int32)) :=
  (fX6_baseOf y2).bind fun v3 =>
  if y3 = (-1 : Int32) then
    fX6_twice_160 fu y3 y4 (0 : Int32) v3 y1 th ce sz
  else
    fX6_twice_160 fu y3 y4 y3 v3 y1 th ce sz
def fX6_twice_116 (fu : Nat) (y1 : Int32) (y2 : Int32) (y3 : Int32) (y4 : Int32) (y5 : Int32) (y6 : Int32) (k37 : Int32 → Int32 → Int32 → (Nat → Int32) → (Nat → Int32) → Option (Int32 × Int32 × (Nat → Int32) × (Nat → Int32))) (s0 : Int32) (th : Int32) (ce : Nat → Int32) (sz : Nat → Int32) : Option (Int32 × Int32 × (Nat → Int32) × (Nat → Int32)) :=
  if y6 = 0 then
    k37 y3 (y5 + 1) th ce sz
  else
    if s0 = 0 then
      k37 y3 (y5 + 1) th ce sz
    else
      k37 y5 (y5 + 1) th ce sz
def fX6_twice_111 (fu : Nat) (y1 : Int32) (y2 : Int32) (y3 : Int32) (y4 : Int32) (y5 : Int32) (y6 : Int32) (k37 : Int32 → Int32 → Int32 → (Nat → Int32) → (Nat → Int32) → Option (Int32 × Int32 × (Nat → Int32) × (Nat → Int32))) (th : Int32) (ce : Nat → Int32) (sz : Nat → Int32) : Option (Int32 × Int32 × (Nat → Int32) × (Nat → Int32)) :=
  fX6_twice_116 fu y1 y2 y3 y4 y5 y6 k37 (1 : Int32) th ce sz
def fX6_twice_80 (fu : Nat) (y1 : Int32) (y2 : Int32) (y3 : Int32) (y4 : Int32) (y5 : Int32) (k37 : Int32 → Int32 → Int32 → (Nat → Int32) → (Nat → Int32) → Option (Int32 × Int32 × (Nat → Int32) × (Nat → Int32))) (s0 : Int32) (th : Int32) (ce : Nat → Int32) (sz : Nat → Int32) : Option (Int32 × Int32 × (Nat → Int32) × (Nat → Int32)) :=
  if y3 = (-1 : Int32) then
    fX6_twice_111 fu y1 y2 y3 y4 y5 s0 k37 th ce sz
  else
    (fX6_baseOf y2).bind fun v9 =>
    (fX6_baseOf y2).bind fun v10 =>
    (fX6_order fu ce (v9 + y5) y4 (v10 + y3) y4).bind fun v11 =>
    if 0 ≤ v11 then
      fX6_twice_116 fu y1 y2 y3 y4 y5 s0 k37 (0 : Int32) th ce sz
    else
      fX6_twice_111 fu y1 y2 y3 y4 y5 s0 k37 th ce sz
def fX6_twice_37 (fu : Nat) (y1 : Int32) (y2 : Int32) (y4 : Int32) (k21 : Int32 → Int32 → Int32 → (Nat → Int32) → (Nat → Int32) → Option (Int32 × Int32 × (Nat → Int32) × (Nat → Int32))) : Nat → Int32 → Int32 → Int32 → (Nat → Int32) → (Nat → Int32) → Option (Int32 × Int32 × (Nat → Int32) × (Nat → Int32))
  | 0, _, _, _, _, _ => none
  | n + 1, y3, y5, th, ce, sz =>
    if y4 ≤ 0 then
      k21 y3 y4 th ce sz
    else
      (ldA sz 6 y2).bind fun v6 =>
      if v6 < (y5 + y4) then
        k21 y3 y4 th ce sz
      else
        (fX6_baseOf y2).bind fun v7 =>
        (fX6_counted fu ce sz y2 (v7 + y5) y4 (0 : Int32)).bind fun v8 =>
        if v8 ≤ (1 : Int32) then
          fX6_twice_80 fu y1 y2 y3 y4 y5 (fX6_twice_37 fu y1 y2 y4 k21 n) (0 : Int32) th ce sz
        else
          fX6_twice_80 fu y1 y2 y3 y4 y5 (fX6_twice_37 fu y1 y2 y4 k21 n) (1 : Int32) th ce sz
def fX6_twice_21 (fu : Nat) (y1 : Int32) (y2 : Int32) : Nat → Int32 → Int32 → Int32 → (Nat → Int32) → (Nat → Int32) → Option (Int32 × Int32 × (Nat → Int32) × (Nat → Int32))
  | 0, _, _, _, _, _ => none
  | n + 1, y3, y4, th, ce, sz =>
    if y3 = (-1 : Int32) then
      if y4 ≤ 0 then
        fX6_twice_144 fu y1 y2 y3 y4 th ce sz
      else
        fX6_twice_37 fu y1 y2 (y4 + (-1)) (fX6_twice_21 fu y1 y2 n) fu y3 (0 : Int32) th ce sz
    else
      fX6_twice_144 fu y1 y2 y3 y4 th ce sz
def fX6_twice (fu : Nat) (th : Int32) (ce : Nat → Int32) (sz : Nat → Int32) (x1 : Int32) (x2 : Int32) : Option (Int32 × Int32 × (Nat → Int32) × (Nat → Int32)) :=
  (fX6_isNoOf th x1 x2).bind fun v1 =>
  if v1.1 = 0 then
    (ldA sz 6 x2).bind fun v2 =>
    fX6_twice_21 fu x1 x2 fu (-1 : Int32) v2 v1.2 ce sz
  else
    some ((0 : Int32), v1.2, ce, sz)
def fX6_doCommute (fu : Nat) (ce : Nat → Int32) (sz : Nat → Int32) (x1 : Int32) (x2 : Int32) : Option (Int32 × (Nat → Int32)) :=
  (fX6_lays fu ce sz x1 x2 (360 : Int32)).bind fun v1 =>
  (fX6_lays fu v1 sz x2 x1 (490 : Int32)).bind fun v2 =>
  (ldA sz 6 x1).bind fun v3 =>
  (ldA sz 6 x2).bind fun v4 =>
  (ldA sz 6 x1).bind fun v5 =>
  (ldA sz 6 x2).bind fun v6 =>
  (fX6_areSame fu v2 (360 : Int32) (v3 + v4) (490 : Int32) (v5 + v6)).bind fun v7 =>
  (ckZ v7).bind fun z9 => some (z9, v2)
def fX6_commute (fu : Nat) (th : Int32) (ce : Nat → Int32) (sz : Nat → Int32) (x1 : Int32) (x2 : Int32) : Option (Int32 × Int32 × (Nat → Int32)) :=
  (fX6_isNoOf th x1 x2).bind fun v1 =>
  if v1.1 = 0 then
    (fX6_doCommute fu ce sz x1 x2).bind fun v2 =>
    if v2.1 = 0 then
      some ((0 : Int32), v1.2, v2.2)
    else
      some ((1 : Int32), v1.2, v2.2)
  else
    some ((0 : Int32), v1.2, ce)
def fX6_commonRoot_64 (fu : Nat) (y1 : Int32) (s0 : Int32) (th : Int32) (ce : Nat → Int32) (sz : Nat → Int32) : Option (Int32 × Int32 × (Nat → Int32) × (Nat → Int32)) :=
  (fX6_baseOf s0).bind fun v6 =>
  (fX6_rootOf fu ce sz s0).bind fun v7 =>
  (fX6_become fu ce sz y1 v6 v7).bind fun v8 =>
  some (v8.1, th, v8.2.1, v8.2.2)
def fX6_commonRoot_41 (fu : Nat) (y1 : Int32) (y2 : Int32) (y3 : Int32) (s0 : Int32) (th : Int32) (ce : Nat → Int32) (sz : Nat → Int32) : Option (Int32 × Int32 × (Nat → Int32) × (Nat → Int32)) :=
  (fX6_isThrown th s0 (2 : Int32)).bind fun v4 =>
  if v4.1 = 0 then
    (ldA sz 6 y2).bind fun v5 =>
    if v5 = 0 then
      fX6_commonRoot_64 fu y1 y3 v4.2 ce sz
    else
      fX6_commonRoot_64 fu y1 y2 v4.2 ce sz
  else
    some ((0 : Int32), v4.2, ce, sz)
def fX6_commonRoot_36 (fu : Nat) (y1 : Int32) (y2 : Int32) (y3 : Int32) (th : Int32) (ce : Nat → Int32) (sz : Nat → Int32) : Option (Int32 × Int32 × (Nat → Int32) × (Nat → Int32)) :=
  fX6_commonRoot_41 fu y1 y2 y3 (1 : Int32) th ce sz
def fX6_commonRoot (fu : Nat) (th : Int32) (ce : Nat → Int32) (sz : Nat → Int32) (x1 : Int32) (x2 : Int32) (x3 : Int32) : Option (Int32 × Int32 × (Nat → Int32) × (Nat → Int32)) :=
  (fX6_isNoOfAll th x1 x2 x3).bind fun v1 =>
  if v1.1 = 0 then
    (ldA sz 6 x2).bind fun v2 =>
    (ldA sz 6 x3).bind fun v3 =>
    if (v2 + v3) = 0 then
      fX6_commonRoot_36 fu x1 x2 x3 v1.2 ce sz
    else
      (fX6_doCommute fu ce sz x2 x3).bind fun v9 =>
      if v9.1 = 0 then
        fX6_commonRoot_36 fu x1 x2 x3 v1.2 v9.2 sz
      else
        fX6_commonRoot_41 fu x1 x2 x3 (0 : Int32) v1.2 v9.2 sz
  else
    some ((0 : Int32), v1.2, ce, sz)
def fX6_isOf (sz : Nat → Int32) (x1 : Int32) (x2 : Int32) : Option (Int32) :=
  if ((x1 >>> (x2 &&& 31)) &&& (1 : Int32)) = (1 : Int32) then
    (ldA sz 6 x2).bind fun v1 =>
    if v1 ≤ 0 then
      some (0 : Int32)
    else
      some (1 : Int32)
  else
    some (0 : Int32)
def fX6_ways_79 (fu : Nat) (ce : Nat → Int32) (sz : Nat → Int32) (y1 : Int32) (y2 : Int32) (y3 : Int32) (k66 : Int32 → Int32 → (Nat → Int64) → Option (Int64 × Int32 × (Nat → Int64))) : Nat → Int32 → Int32 → (Nat → Int64) → Option (Int64 × Int32 × (Nat → Int64))
  | 0, _, _, _ => none
  | n + 1, y4, th, wy =>
    if (6 : Int32) ≤ y4 then
      k66 (y3 + 1) th wy
    else
      (fX6_isOf sz y2 y4).bind fun v7 =>
      if v7 = 0 then
        fX6_ways_79 fu ce sz y1 y2 y3 k66 n (y4 + 1) th wy
      else
        (fX6_baseOf y1).bind fun v8 =>
        (ldA sz 6 y1).bind fun v9 =>
        (fX6_baseOf y4).bind fun v10 =>
        (ldA sz 6 y4).bind fun v11 =>
        (fX6_standsAt fu ce v8 v9 v10 v11 y3).bind fun v12 =>
        if v12 = 0 then
          fX6_ways_79 fu ce sz y1 y2 y3 k66 n (y4 + 1) th wy
        else
          (ldA sz 6 y4).bind fun v13 =>
          (ldA wy 121 (y3 + v13)).bind fun v14 =>
          (ldA wy 121 y3).bind fun v15 =>
          (stA wy 121 (y3 + v13) (v14 + v15)).bind fun g16 =>
          fX6_ways_79 fu ce sz y1 y2 y3 k66 n (y4 + 1) th g16
def fX6_ways_66 (fu : Nat) (ce : Nat → Int32) (sz : Nat → Int32) (y1 : Int32) (y2 : Int32) : Nat → Int32 → Int32 → (Nat → Int64) → Option (Int64 × Int32 × (Nat → Int64))
  | 0, _, _, _ => none
  | n + 1, y3, th, wy =>
    (ldA sz 6 y1).bind fun v4 =>
    if v4 ≤ y3 then
      (ldA sz 6 y1).bind fun v5 =>
      (ldA wy 121 v5).bind fun v6 =>
      some (v6, th, wy)
    else
      fX6_ways_79 fu ce sz y1 y2 y3 (fX6_ways_66 fu ce sz y1 y2 n) fu (0 : Int32) th wy
def fX6_ways_37 (fu : Nat) (ce : Nat → Int32) (sz : Nat → Int32) (y1 : Int32) (y2 : Int32) : Nat → Int32 → Int32 → (Nat → Int64) → Option (Int64 × Int32 × (Nat → Int64))
  | 0, _, _, _ => none
  | n + 1, y3, th, wy =>
    if (120 : Int32) < y3 then
      fX6_ways_66 fu ce sz y1 y2 fu (0 : Int32) th wy
    else
      if y3 = 0 then
        (stA wy 121 y3 (1 : Int64)).bind fun g18 =>
        fX6_ways_37 fu ce sz y1 y2 n (y3 + 1) th g18
      else
        (stA wy 121 y3 (0 : Int64)).bind fun g17 =>
        fX6_ways_37 fu ce sz y1 y2 n (y3 + 1) th g17
def fX6_ways_26 (fu : Nat) (ce : Nat → Int32) (sz : Nat → Int32) (y1 : Int32) (y2 : Int32) (s0 : Int32) (th : Int32) (wy : Nat → Int64) : Option (Int64 × Int32 × (Nat → Int64)) :=
  (fX6_isThrown th s0 (2 : Int32)).bind fun v3 =>
  if v3.1 = 0 then
    fX6_ways_37 fu ce sz y1 y2 fu (0 : Int32) v3.2 wy
  else
    some ((0 : Int64), v3.2, wy)
def fX6_ways (fu : Nat) (th : Int32) (ce : Nat → Int32) (sz : Nat → Int32) (wy : Nat → Int64) (x1 : Int32) (x2 : Int32) : Option (Int64 × Int32 × (Nat → Int64)) :=
  (fX6_isNo th x1).bind fun v1 =>
  if v1.1 = 0 then
    (fX6_isIn (x2.toInt64) (0 : Int64) (63 : Int64)).bind fun v2 =>
    if v2 = 0 then
      fX6_ways_26 fu ce sz x1 x2 (1 : Int32) v1.2 wy
    else
      fX6_ways_26 fu ce sz x1 x2 (0 : Int32) v1.2 wy
  else
    some ((0 : Int64), v1.2, wy)
def fX6_meets (fu : Nat) (ce : Nat → Int32) (sz : Nat → Int32) (op : Nat → Int32) (x1 : Int32) (x2 : Int32) (x3 : Int32) : Option (Int32 × (Nat → Int32)) :=
  (fX6_baseOf x1).bind fun v1 =>
  (ldA sz 6 x1).bind fun v2 =>
  (fX6_baseOf x3).bind fun v3 =>
  (ldA sz 6 x3).bind fun v4 =>
  (fX6_areSame fu ce (v1 + x2) (v2 - x2) v3 v4).bind fun v5 =>
  if v5 = 0 then
    (fX6_baseOf x3).bind fun v6 =>
    (ldA sz 6 x3).bind fun v7 =>
    (fX6_standsAt fu ce v6 v7 (v1 + x2) (v2 - x2) (0 : Int32)).bind fun v8 =>
    if v8 = 0 then
      (fX6_baseOf x3).bind fun v9 =>
      (ldA sz 6 x3).bind fun v10 =>
      (fX6_standsAt fu ce (v1 + x2) (v2 - x2) v9 v10 (0 : Int32)).bind fun v11 =>
      if v11 = 0 then
        some ((0 : Int32), op)
      else
        (ldA sz 6 x3).bind fun v12 =>
        (stA op 360 ((v1 + x2) + v12) (vp_nar .boolean (1 : Int32))).bind fun g13 =>
        some ((0 : Int32), g13)
    else
      (fX6_baseOf x3).bind fun v14 =>
      (stA op 360 (v14 + (v2 - x2)) (vp_nar .boolean (1 : Int32))).bind fun g15 =>
      some ((0 : Int32), g15)
  else
    some ((1 : Int32), op)
def fX6_meetsAny_28 (fu : Nat) (ce : Nat → Int32) (sz : Nat → Int32) (y1 : Int32) (y2 : Int32) (y3 : Int32) (y4 : Int32) (y5 : Int32) (k6 : Int32 → Int32 → (Nat → Int32) → Option (Int32 × (Nat → Int32))) (s0 : Int32) (op : Nat → Int32) : Option (Int32 × (Nat → Int32)) :=
  if y4 = 0 then
    (fX6_isOf sz y1 y5).bind fun v1 =>
    if v1 = 0 then
      k6 (0 : Int32) (y5 + 1) op
    else
      if s0 = 0 then
        (fX6_meets fu ce sz op y2 y3 y5).bind fun v2 =>
        if v2.1 = 0 then
          k6 (0 : Int32) (y5 + 1) v2.2
        else
          k6 (1 : Int32) (y5 + 1) v2.2
      else
        k6 (0 : Int32) (y5 + 1) op
  else
    k6 (1 : Int32) (y5 + 1) op
def fX6_meetsAny_27 (fu : Nat) (ce : Nat → Int32) (sz : Nat → Int32) (y1 : Int32) (y2 : Int32) (y3 : Int32) (y4 : Int32) (y5 : Int32) (k6 : Int32 → Int32 → (Nat → Int32) → Option (Int32 × (Nat → Int32))) (op : Nat → Int32) : Option (Int32 × (Nat → Int32)) :=
  fX6_meetsAny_28 fu ce sz y1 y2 y3 y4 y5 k6 (0 : Int32) op
def fX6_meetsAny_6 (fu : Nat) (ce : Nat → Int32) (sz : Nat → Int32) (y1 : Int32) (y2 : Int32) (y3 : Int32) : Nat → Int32 → Int32 → (Nat → Int32) → Option (Int32 × (Nat → Int32))
  | 0, _, _, _ => none
  | n + 1, y4, y5, op =>
    if (6 : Int32) ≤ y5 then
      (ckZ y4).bind fun z9 => some (z9, op)
    else
      if y3 = 0 then
        if y5 = y2 then
          fX6_meetsAny_28 fu ce sz y1 y2 y3 y4 y5 (fX6_meetsAny_6 fu ce sz y1 y2 y3 n) (1 : Int32) op
        else
          fX6_meetsAny_27 fu ce sz y1 y2 y3 y4 y5 (fX6_meetsAny_6 fu ce sz y1 y2 y3 n) op
      else
        fX6_meetsAny_27 fu ce sz y1 y2 y3 y4 y5 (fX6_meetsAny_6 fu ce sz y1 y2 y3 n) op
def fX6_meetsAny (fu : Nat) (ce : Nat → Int32) (sz : Nat → Int32) (op : Nat → Int32) (x1 : Int32) (x2 : Int32) (x3 : Int32) : Option (Int32 × (Nat → Int32)) :=
  fX6_meetsAny_6 fu ce sz x1 x2 x3 fu (0 : Int32) (0 : Int32) op
def fX6_openMany_4 (fu : Nat) (op : Nat → Int32) : Nat → Int32 → Int32 → Option (Int32)
  | 0, _, _ => none
  | n + 1, y1, y2 =>
    if (360 : Int32) ≤ y2 then
      some y1
    else
      (ldA op 360 y2).bind fun v1 =>
      if v1 = 0 then
        fX6_openMany_4 fu op n (y1 + (0 : Int32)) (y2 + 1)
      else
        fX6_openMany_4 fu op n (y1 + (1 : Int32)) (y2 + 1)
def fX6_openMany (fu : Nat) (op : Nat → Int32) : Option (Int32) :=
  fX6_openMany_4 fu op fu (0 : Int32) (0 : Int32)
def fX6_isFree_116 (fu : Nat) (ce : Nat → Int32) (sz : Nat → Int32) (y1 : Int32) (y3 : Int32) (k96 : Int32 → Int32 → Int32 → (Nat → Int32) → Option (Int32 × Int32 × (Nat → Int32))) : Nat → Int32 → Int32 → Int32 → (Nat → Int32) → Option (Int32 × Int32 × (Nat → Int32))
  | 0, _, _, _, _ => none
  | n + 1, y2, y4, th, op =>
    if (360 : Int32) ≤ y4 then
      k96 y2 y3 th op
    else
      if y2 = 0 then
        (ldA op 360 y4).bind fun v5 =>
        if v5 = 0 then
          fX6_isFree_116 fu ce sz y1 y3 k96 n (0 : Int32) (y4 + 1) th op
        else
          (dvI y4 (60 : Int32)).bind fun v6 =>
          (rmI y4 (60 : Int32)).bind fun v7 =>
          (fX6_meetsAny fu ce sz op y1 v6 v7).bind fun v8 =>
          if v8.1 = 0 then
            fX6_isFree_116 fu ce sz y1 y3 k96 n (0 : Int32) (y4 + 1) th v8.2
          else
            fX6_isFree_116 fu ce sz y1 y3 k96 n (1 : Int32) (y4 + 1) th v8.2
      else
        fX6_isFree_116 fu ce sz y1 y3 k96 n (1 : Int32) (y4 + 1) th op
def fX6_isFree_96 (fu : Nat) (ce : Nat → Int32) (sz : Nat → Int32) (y1 : Int32) : Nat → Int32 → Int32 → Int32 → (Nat → Int32) → Option (Int32 × Int32 × (Nat → Int32))
  | 0, _, _, _, _ => none
  | n + 1, y2, y3, th, op =>
    if y2 = 0 then
      (fX6_openMany fu op).bind fun v3 =>
      if y3 = v3 then
        if y2 = 0 then
          some ((1 : Int32), th, op)
        else
          some ((0 : Int32), th, op)
      else
        (fX6_openMany fu op).bind fun v4 =>
        fX6_isFree_116 fu ce sz y1 v4 (fX6_isFree_96 fu ce sz y1 n) fu y2 (0 : Int32) th op
    else
      if y2 = 0 then
        some ((1 : Int32), th, op)
      else
        some ((0 : Int32), th, op)
def fX6_isFree_53 (fu : Nat) (ce : Nat → Int32) (sz : Nat → Int32) (y1 : Int32) : Nat → Int32 → Int32 → Int32 → (Nat → Int32) → Option (Int32 × Int32 × (Nat → Int32))
  | 0, _, _, _, _ => none
  | n + 1, y2, y3, th, op =>
    if (6 : Int32) ≤ y3 then
      fX6_isFree_96 fu ce sz y1 fu y2 (-1 : Int32) th op
    else
      if y2 = 0 then
        (fX6_isOf sz y1 y3).bind fun v9 =>
        if v9 = 0 then
          fX6_isFree_53 fu ce sz y1 n (0 : Int32) (y3 + 1) th op
        else
          (fX6_meetsAny fu ce sz op y1 y3 (0 : Int32)).bind fun v10 =>
          if v10.1 = 0 then
            fX6_isFree_53 fu ce sz y1 n (0 : Int32) (y3 + 1) th v10.2
          else
            fX6_isFree_53 fu ce sz y1 n (1 : Int32) (y3 + 1) th v10.2
      else
        fX6_isFree_53 fu ce sz y1 n (1 : Int32) (y3 + 1) th op
def fX6_isFree_31 (fu : Nat) (ce : Nat → Int32) (sz : Nat → Int32) (y1 : Int32) (y2 : Int32) : Nat → Int32 → Int32 → (Nat → Int32) → Option (Int32 × Int32 × (Nat → Int32))
  | 0, _, _, _ => none
  | n + 1, y3, th, op =>
    if (360 : Int32) ≤ y3 then
      fX6_isFree_53 fu ce sz y1 fu y2 (0 : Int32) th op
    else
      (stA op 360 y3 (vp_nar .boolean (0 : Int32))).bind fun g11 =>
      fX6_isFree_31 fu ce sz y1 y2 n (y3 + 1) th g11
def fX6_isFree_18 (fu : Nat) (ce : Nat → Int32) (sz : Nat → Int32) (y1 : Int32) (s0 : Int32) (th : Int32) (op : Nat → Int32) : Option (Int32 × Int32 × (Nat → Int32)) :=
  (fX6_isThrown th s0 (1 : Int32)).bind fun v2 =>
  if v2.1 = 0 then
    fX6_isFree_31 fu ce sz y1 (0 : Int32) fu (0 : Int32) v2.2 op
  else
    some ((0 : Int32), v2.2, op)
def fX6_isFree (fu : Nat) (th : Int32) (ce : Nat → Int32) (sz : Nat → Int32) (op : Nat → Int32) (x1 : Int32) : Option (Int32 × Int32 × (Nat → Int32)) :=
  (fX6_isIn (x1.toInt64) (0 : Int64) (63 : Int64)).bind fun v1 =>
  if v1 = 0 then
    fX6_isFree_18 fu ce sz x1 (1 : Int32) th op
  else
    fX6_isFree_18 fu ce sz x1 (0 : Int32) th op
def fX6_rootShare_23 (fu : Nat) (ce : Nat → Int32) (sz : Nat → Int32) (y1 : Int32) (s0 : Int32) (th : Int32) : Option (UInt32 × Int32) :=
  (fX6_isThrown th s0 (2 : Int32)).bind fun v3 =>
  if v3.1 = 0 then
    (fX6_rootOf fu ce sz y1).bind fun v4 =>
    (ldA sz 6 y1).bind fun v5 =>
    (ckF (FP.fdiv (FP.i2f v4) (FP.i2f v5))).bind fun v6 =>
    some (v6, v3.2)
  else
    some (FP.fconst0, v3.2)
def fX6_rootShare (fu : Nat) (th : Int32) (ce : Nat → Int32) (sz : Nat → Int32) (x1 : Int32) : Option (UInt32 × Int32) :=
  (fX6_isNo th x1).bind fun v1 =>
  if v1.1 = 0 then
    (ldA sz 6 x1).bind fun v2 =>
    if v2 = 0 then
      fX6_rootShare_23 fu ce sz x1 (1 : Int32) v1.2
    else
      fX6_rootShare_23 fu ce sz x1 (0 : Int32) v1.2
  else
    some (FP.fconst0, v1.2)
def fX6_meanPeriod_36 (fu : Nat) (ce : Nat → Int32) (sz : Nat → Int32) (y1 : Int32) : Nat → Int32 → Int32 → Int32 → Option (UInt64 × Int32)
  | 0, _, _, _ => none
  | n + 1, y2, y3, th =>
    (ldA sz 6 y1).bind fun v4 =>
    if v4 < y3 then
      (fX6_periodsOf fu ce sz y1).bind fun v5 =>
      (ckD (FP.ddiv (FP.i2d y2) (FP.i2d v5))).bind fun v6 =>
      some (v6, th)
    else
      (fX6_isPeriod fu ce sz y1 y3).bind fun v7 =>
      if v7 = 0 then
        fX6_meanPeriod_36 fu ce sz y1 n (y2 + (0 : Int32)) (y3 + 1) th
      else
        fX6_meanPeriod_36 fu ce sz y1 n (y2 + y3) (y3 + 1) th
def fX6_meanPeriod_23 (fu : Nat) (ce : Nat → Int32) (sz : Nat → Int32) (y1 : Int32) (s0 : Int32) (th : Int32) : Option (UInt64 × Int32) :=
  (fX6_isThrown th s0 (2 : Int32)).bind fun v3 =>
  if v3.1 = 0 then
    fX6_meanPeriod_36 fu ce sz y1 fu (0 : Int32) (1 : Int32) v3.2
  else
    some (FP.dconst0, v3.2)
def fX6_meanPeriod (fu : Nat) (th : Int32) (ce : Nat → Int32) (sz : Nat → Int32) (x1 : Int32) : Option (UInt64 × Int32) :=
  (fX6_isNo th x1).bind fun v1 =>
  if v1.1 = 0 then
    (ldA sz 6 x1).bind fun v2 =>
    if v2 = 0 then
      fX6_meanPeriod_23 fu ce sz x1 (1 : Int32) v1.2
    else
      fX6_meanPeriod_23 fu ce sz x1 (0 : Int32) v1.2
  else
    some (FP.dconst0, v1.2)
def fX6_checksum_11 (fu : Nat) (ce : Nat → Int32) (sz : Nat → Int32) : Nat → Int64 → Int32 → Int32 → Option (Int64 × Int32)
  | 0, _, _, _ => none
  | n + 1, y1, y3, th =>
    if (6 : Int32) ≤ y3 then
      some (y1, th)
    else
      (ldA sz 6 y3).bind fun v1 =>
      (fX6_behind fu ce sz (0 : Int32) y3).bind fun v2 =>
      (fX6_periodsOf fu ce sz y3).bind fun v3 =>
      fX6_checksum_11 fu ce sz n (((31 : Int64) * (((31 : Int64) * (((31 : Int64) * y1) + (v1.toInt64))) + (v2.toInt64))) + (v3.toInt64)) (y3 + 1) th
def fX6_checksum (fu : Nat) (th : Int32) (ce : Nat → Int32) (sz : Nat → Int32) : Option (Int64 × Int32) :=
  fX6_checksum_11 fu ce sz fu (7 : Int64) (0 : Int32) (0 : Int32)
def fX6_isTrue (th : Int32) : Option (Int32 × Int32) :=
  some ((1 : Int32), (0 : Int32))
