def fL_type (ts : Nat → Int32) (tc : Nat → Nat → Int32) (ol : Nat → Int64) (x1 : Int32) (x2 : Int32) : Option (Int32 × (Nat → Int32) × (Nat → Nat → Int32) × (Nat → Int64)) :=
  (fX5_type ts tc x1 x2).bind fun v1 => exb v1.1 (fun e9 =>
      if e9 = "java/lang/IndexOutOfBoundsException" then
        some ((1 : Int32), v1.2.1, v1.2.2, ol)
      else
      if e9 = "java/lang/IllegalArgumentException" then
        some ((2 : Int32), v1.2.1, v1.2.2, ol)
      else
      if e9 = "java/lang/IllegalStateException" then
        some ((3 : Int32), v1.2.1, v1.2.2, ol)
      else
      none) fun r2 =>
  (stA ol 1 (0 : Int32) (r2.toInt64)).bind fun g3 =>
  some ((0 : Int32), v1.2.1, v1.2.2, g3)
def fL_typeMore (fu : Nat) (ts : Nat → Int32) (tc : Nat → Nat → Int32) (ol : Nat → Int64) (x1 : Int32) (x2 : Int32) (x3 : Int32) (x4 : Int32) (x5 : Int32) (x6 : Int32) (x7 : Int32) (x8 : Int32) : Option (Int32 × (Nat → Int32) × (Nat → Nat → Int32) × (Nat → Int64)) :=
  (fX5_typeMore fu ts tc x1 x2 x3 x4 x5 x6 x7 x8).bind fun v1 => exb v1.1 (fun e9 =>
      if e9 = "java/lang/IndexOutOfBoundsException" then
        some ((1 : Int32), v1.2.1, v1.2.2, ol)
      else
      if e9 = "java/lang/IllegalArgumentException" then
        some ((2 : Int32), v1.2.1, v1.2.2, ol)
      else
      if e9 = "java/lang/IllegalStateException" then
        some ((3 : Int32), v1.2.1, v1.2.2, ol)
      else
      none) fun r2 =>
  (stA ol 1 (0 : Int32) (r2.toInt64)).bind fun g3 =>
  some ((0 : Int32), v1.2.1, v1.2.2, g3)
def fL_erase (ts : Nat → Int32) (ol : Nat → Int64) (x1 : Int32) : Option (Int32 × (Nat → Int32) × (Nat → Int64)) :=
  (fX5_erase ts x1).bind fun v1 => exb v1.1 (fun e9 =>
      if e9 = "java/lang/IndexOutOfBoundsException" then
        some ((1 : Int32), v1.2, ol)
      else
      none) fun r2 =>
  (stA ol 1 (0 : Int32) (r2.toInt64)).bind fun g3 =>
  some ((0 : Int32), v1.2, g3)
def fL_length (ts : Nat → Int32) (ol : Nat → Int64) (x1 : Int32) : Option (Int32 × (Nat → Int64)) :=
  (fX5_length ts x1).bind fun v1 => exb v1 (fun e9 =>
      if e9 = "java/lang/IndexOutOfBoundsException" then
        some ((1 : Int32), ol)
      else
      none) fun r2 =>
  (stA ol 1 (0 : Int32) (r2.toInt64)).bind fun g3 =>
  some ((0 : Int32), g3)
def fL_signAt (ts : Nat → Int32) (tc : Nat → Nat → Int32) (ol : Nat → Int64) (x1 : Int32) (x2 : Int32) : Option (Int32 × (Nat → Int64)) :=
  (fX5_signAt ts tc x1 x2).bind fun v1 => exb v1 (fun e9 =>
      if e9 = "java/lang/IndexOutOfBoundsException" then
        some ((1 : Int32), ol)
      else
      none) fun r2 =>
  (stA ol 1 (0 : Int32) (r2.toInt64)).bind fun g3 =>
  some ((0 : Int32), g3)
def fL_join (fu : Nat) (ts : Nat → Int32) (tc : Nat → Nat → Int32) (ol : Nat → Int64) (x1 : Int32) (x2 : Int32) (x3 : Int32) : Option (Int32 × (Nat → Int32) × (Nat → Nat → Int32) × (Nat → Int64)) :=
  (fX5_join fu ts tc x1 x2 x3).bind fun v1 => exb v1.1 (fun e9 =>
      if e9 = "java/lang/IndexOutOfBoundsException" then
        some ((1 : Int32), v1.2.1, v1.2.2, ol)
      else
      if e9 = "java/lang/IllegalStateException" then
        some ((2 : Int32), v1.2.1, v1.2.2, ol)
      else
      none) fun r2 =>
  (stA ol 1 (0 : Int32) (r2.toInt64)).bind fun g3 =>
  some ((0 : Int32), v1.2.1, v1.2.2, g3)
def fL_repeat (fu : Nat) (ts : Nat → Int32) (tc : Nat → Nat → Int32) (ol : Nat → Int64) (x1 : Int32) (x2 : Int32) (x3 : Int32) : Option (Int32 × (Nat → Int32) × (Nat → Nat → Int32) × (Nat → Int64)) :=
  (fX5_repeat fu ts tc x1 x2 x3).bind fun v1 => exb v1.1 (fun e9 =>
      if e9 = "java/lang/IndexOutOfBoundsException" then
        some ((1 : Int32), v1.2.1, v1.2.2, ol)
      else
      if e9 = "java/lang/IllegalArgumentException" then
        some ((2 : Int32), v1.2.1, v1.2.2, ol)
      else
      if e9 = "java/lang/IllegalStateException" then
        some ((3 : Int32), v1.2.1, v1.2.2, ol)
      else
      none) fun r2 =>
  (stA ol 1 (0 : Int32) (r2.toInt64)).bind fun g3 =>
  some ((0 : Int32), v1.2.1, v1.2.2, g3)
def fL_part (fu : Nat) (ts : Nat → Int32) (tc : Nat → Nat → Int32) (ol : Nat → Int64) (x1 : Int32) (x2 : Int32) (x3 : Int32) (x4 : Int32) : Option (Int32 × (Nat → Int32) × (Nat → Nat → Int32) × (Nat → Int64)) :=
  (fX5_part fu ts tc x1 x2 x3 x4).bind fun v1 => exb v1.1 (fun e9 =>
      if e9 = "java/lang/IndexOutOfBoundsException" then
        some ((1 : Int32), v1.2.1, v1.2.2, ol)
      else
      none) fun r2 =>
  (stA ol 1 (0 : Int32) (r2.toInt64)).bind fun g3 =>
  some ((0 : Int32), v1.2.1, v1.2.2, g3)
def fL_turn (fu : Nat) (ts : Nat → Int32) (tc : Nat → Nat → Int32) (ol : Nat → Int64) (x1 : Int32) (x2 : Int32) (x3 : Int32) : Option (Int32 × (Nat → Int32) × (Nat → Nat → Int32) × (Nat → Int64)) :=
  (fX5_turn fu ts tc x1 x2 x3).bind fun v1 => exb v1.1 (fun e9 =>
      if e9 = "java/lang/IndexOutOfBoundsException" then
        some ((1 : Int32), v1.2.1, v1.2.2, ol)
      else
      none) fun r2 =>
  (stA ol 1 (0 : Int32) (r2.toInt64)).bind fun g3 =>
  some ((0 : Int32), v1.2.1, v1.2.2, g3)
def fL_back (fu : Nat) (ts : Nat → Int32) (tc : Nat → Nat → Int32) (ol : Nat → Int64) (x1 : Int32) (x2 : Int32) : Option (Int32 × (Nat → Int32) × (Nat → Nat → Int32) × (Nat → Int64)) :=
  (fX5_back fu ts tc x1 x2).bind fun v1 => exb v1.1 (fun e9 =>
      if e9 = "java/lang/IndexOutOfBoundsException" then
        some ((1 : Int32), v1.2.1, v1.2.2, ol)
      else
      none) fun r2 =>
  (stA ol 1 (0 : Int32) (r2.toInt64)).bind fun g3 =>
  some ((0 : Int32), v1.2.1, v1.2.2, g3)
def fL_put (fu : Nat) (ts : Nat → Int32) (tc : Nat → Nat → Int32) (ol : Nat → Int64) (x1 : Int32) (x2 : Int32) (x3 : Int32) (x4 : Int32) : Option (Int32 × (Nat → Int32) × (Nat → Nat → Int32) × (Nat → Int64)) :=
  (fX5_put fu ts tc x1 x2 x3 x4).bind fun v1 => exb v1.1 (fun e9 =>
      if e9 = "java/lang/IndexOutOfBoundsException" then
        some ((1 : Int32), v1.2.1, v1.2.2, ol)
      else
      if e9 = "java/lang/UnsupportedOperationException" then
        some ((2 : Int32), v1.2.1, v1.2.2, ol)
      else
      if e9 = "java/lang/IllegalStateException" then
        some ((3 : Int32), v1.2.1, v1.2.2, ol)
      else
      none) fun r2 =>
  (stA ol 1 (0 : Int32) (r2.toInt64)).bind fun g3 =>
  some ((0 : Int32), v1.2.1, v1.2.2, g3)
def fL_first (fu : Nat) (ts : Nat → Int32) (tc : Nat → Nat → Int32) (ol : Nat → Int64) (x1 : Int32) (x2 : Int32) (x3 : Int32) : Option (Int32 × (Nat → Int64)) :=
  (fX5_first fu ts tc x1 x2 x3).bind fun v1 => exb v1 (fun e9 =>
      if e9 = "java/lang/IndexOutOfBoundsException" then
        some ((1 : Int32), ol)
      else
      none) fun r2 =>
  (stA ol 1 (0 : Int32) (r2.toInt64)).bind fun g3 =>
  some ((0 : Int32), g3)
def fL_last (fu : Nat) (ts : Nat → Int32) (tc : Nat → Nat → Int32) (ol : Nat → Int64) (x1 : Int32) (x2 : Int32) (x3 : Int32) : Option (Int32 × (Nat → Int64)) :=
  (fX5_last fu ts tc x1 x2 x3).bind fun v1 => exb v1 (fun e9 =>
      if e9 = "java/lang/IndexOutOfBoundsException" then
        some ((1 : Int32), ol)
      else
      none) fun r2 =>
  (stA ol 1 (0 : Int32) (r2.toInt64)).bind fun g3 =>
  some ((0 : Int32), g3)
def fL_many (fu : Nat) (ts : Nat → Int32) (tc : Nat → Nat → Int32) (ol : Nat → Int64) (x1 : Int32) (x2 : Int32) (x3 : Int32) : Option (Int32 × (Nat → Int64)) :=
  (fX5_many fu ts tc x1 x2 x3).bind fun v1 => exb v1 (fun e9 =>
      if e9 = "java/lang/IndexOutOfBoundsException" then
        some ((1 : Int32), ol)
      else
      if e9 = "java/lang/UnsupportedOperationException" then
        some ((2 : Int32), ol)
      else
      none) fun r2 =>
  (stA ol 1 (0 : Int32) (r2.toInt64)).bind fun g3 =>
  some ((0 : Int32), g3)
def fL_isSame (fu : Nat) (ts : Nat → Int32) (tc : Nat → Nat → Int32) (ol : Nat → Int64) (x1 : Int32) (x2 : Int32) : Option (Int32 × (Nat → Int64)) :=
  (fX5_isSame fu ts tc x1 x2).bind fun v1 => exb v1 (fun e9 =>
      if e9 = "java/lang/IndexOutOfBoundsException" then
        some ((1 : Int32), ol)
      else
      none) fun r2 =>
  if r2 = 0 then
    (stA ol 1 (0 : Int32) (0 : Int64)).bind fun g3 =>
    some ((0 : Int32), g3)
  else
    (stA ol 1 (0 : Int32) (1 : Int64)).bind fun g4 =>
    some ((0 : Int32), g4)
def fL_compare (fu : Nat) (ts : Nat → Int32) (tc : Nat → Nat → Int32) (ol : Nat → Int64) (x1 : Int32) (x2 : Int32) : Option (Int32 × (Nat → Int64)) :=
  (fX5_compare fu ts tc x1 x2).bind fun v1 => exb v1 (fun e9 =>
      if e9 = "java/lang/IndexOutOfBoundsException" then
        some ((1 : Int32), ol)
      else
      none) fun r2 =>
  (stA ol 1 (0 : Int32) (r2.toInt64)).bind fun g3 =>
  some ((0 : Int32), g3)
def fL_common (fu : Nat) (ts : Nat → Int32) (tc : Nat → Nat → Int32) (ol : Nat → Int64) (x1 : Int32) (x2 : Int32) : Option (Int32 × (Nat → Int64)) :=
  (fX5_common fu ts tc x1 x2).bind fun v1 => exb v1 (fun e9 =>
      if e9 = "java/lang/IndexOutOfBoundsException" then
        some ((1 : Int32), ol)
      else
      none) fun r2 =>
  (stA ol 1 (0 : Int32) (r2.toInt64)).bind fun g3 =>
  some ((0 : Int32), g3)
def fL_commonEnd (fu : Nat) (ts : Nat → Int32) (tc : Nat → Nat → Int32) (ol : Nat → Int64) (x1 : Int32) (x2 : Int32) : Option (Int32 × (Nat → Int64)) :=
  (fX5_commonEnd fu ts tc x1 x2).bind fun v1 => exb v1 (fun e9 =>
      if e9 = "java/lang/IndexOutOfBoundsException" then
        some ((1 : Int32), ol)
      else
      none) fun r2 =>
  (stA ol 1 (0 : Int32) (r2.toInt64)).bind fun g3 =>
  some ((0 : Int32), g3)
def fL_hash (fu : Nat) (ts : Nat → Int32) (tc : Nat → Nat → Int32) (ol : Nat → Int64) (x1 : Int32) : Option (Int32 × (Nat → Int64)) :=
  (fX5_hash fu ts tc x1).bind fun v1 => exb v1 (fun e9 =>
      if e9 = "java/lang/IndexOutOfBoundsException" then
        some ((1 : Int32), ol)
      else
      none) fun r2 =>
  (stA ol 1 (0 : Int32) (r2.toInt64)).bind fun g3 =>
  some ((0 : Int32), g3)
def fL_hashJoined (fu : Nat) (ts : Nat → Int32) (tc : Nat → Nat → Int32) (ol : Nat → Int64) (x1 : Int32) (x2 : Int32) : Option (Int32 × (Nat → Int64)) :=
  (fX5_hashJoined fu ts tc x1 x2).bind fun v1 => exb v1 (fun e9 =>
      if e9 = "java/lang/IndexOutOfBoundsException" then
        some ((1 : Int32), ol)
      else
      none) fun r2 =>
  (stA ol 1 (0 : Int32) (r2.toInt64)).bind fun g3 =>
  some ((0 : Int32), g3)
def fL_hashRepeated (fu : Nat) (ts : Nat → Int32) (tc : Nat → Nat → Int32) (ol : Nat → Int64) (x1 : Int32) (x2 : Int32) : Option (Int32 × (Nat → Int64)) :=
  (fX5_hashRepeated fu ts tc x1 x2).bind fun v1 => exb v1 (fun e9 =>
      if e9 = "java/lang/IndexOutOfBoundsException" then
        some ((1 : Int32), ol)
      else
      if e9 = "java/lang/IllegalArgumentException" then
        some ((2 : Int32), ol)
      else
      none) fun r2 =>
  (stA ol 1 (0 : Int32) (r2.toInt64)).bind fun g3 =>
  some ((0 : Int32), g3)
def fL_periods (fu : Nat) (ts : Nat → Int32) (tc : Nat → Nat → Int32) (ol : Nat → Int64) (x1 : Int32) : Option (Int32 × (Nat → Int64)) :=
  (fX5_periods fu ts tc x1).bind fun v1 => exb v1 (fun e9 =>
      if e9 = "java/lang/IndexOutOfBoundsException" then
        some ((1 : Int32), ol)
      else
      none) fun r2 =>
  (stA ol 1 (0 : Int32) (r2.toInt64)).bind fun g3 =>
  some ((0 : Int32), g3)
def fL_periodAt (fu : Nat) (ts : Nat → Int32) (tc : Nat → Nat → Int32) (ol : Nat → Int64) (x1 : Int32) (x2 : Int32) : Option (Int32 × (Nat → Int64)) :=
  (fX5_periodAt fu ts tc x1 x2).bind fun v1 => exb v1 (fun e9 =>
      if e9 = "java/lang/IndexOutOfBoundsException" then
        some ((1 : Int32), ol)
      else
      if e9 = "java/util/NoSuchElementException" then
        some ((2 : Int32), ol)
      else
      none) fun r2 =>
  (stA ol 1 (0 : Int32) (r2.toInt64)).bind fun g3 =>
  some ((0 : Int32), g3)
def fL_border (fu : Nat) (ts : Nat → Int32) (tc : Nat → Nat → Int32) (ol : Nat → Int64) (x1 : Int32) (x2 : Int32) : Option (Int32 × (Nat → Int32) × (Nat → Nat → Int32) × (Nat → Int64)) :=
  (fX5_border fu ts tc x1 x2).bind fun v1 => exb v1.1 (fun e9 =>
      if e9 = "java/lang/IndexOutOfBoundsException" then
        some ((1 : Int32), v1.2.1, v1.2.2, ol)
      else
      if e9 = "java/lang/UnsupportedOperationException" then
        some ((2 : Int32), v1.2.1, v1.2.2, ol)
      else
      none) fun r2 =>
  (stA ol 1 (0 : Int32) (r2.toInt64)).bind fun g3 =>
  some ((0 : Int32), v1.2.1, v1.2.2, g3)
def fL_root (fu : Nat) (ts : Nat → Int32) (tc : Nat → Nat → Int32) (ol : Nat → Int64) (x1 : Int32) (x2 : Int32) : Option (Int32 × (Nat → Int32) × (Nat → Nat → Int32) × (Nat → Int64)) :=
  (fX5_root fu ts tc x1 x2).bind fun v1 => exb v1.1 (fun e9 =>
      if e9 = "java/lang/IndexOutOfBoundsException" then
        some ((1 : Int32), v1.2.1, v1.2.2, ol)
      else
      if e9 = "java/lang/UnsupportedOperationException" then
        some ((2 : Int32), v1.2.1, v1.2.2, ol)
      else
      none) fun r2 =>
  (stA ol 1 (0 : Int32) (r2.toInt64)).bind fun g3 =>
  some ((0 : Int32), v1.2.1, v1.2.2, g3)
def fL_turnTo (fu : Nat) (ts : Nat → Int32) (tc : Nat → Nat → Int32) (ol : Nat → Int64) (x1 : Int32) (x2 : Int32) : Option (Int32 × (Nat → Int64)) :=
  (fX5_turnTo fu ts tc x1 x2).bind fun v1 => exb v1 (fun e9 =>
      if e9 = "java/lang/IndexOutOfBoundsException" then
        some ((1 : Int32), ol)
      else
      none) fun r2 =>
  (stA ol 1 (0 : Int32) (r2.toInt64)).bind fun g3 =>
  some ((0 : Int32), g3)
def fL_turnings (fu : Nat) (ts : Nat → Int32) (tc : Nat → Nat → Int32) (ol : Nat → Int64) (x1 : Int32) : Option (Int32 × (Nat → Int64)) :=
  (fX5_turnings fu ts tc x1).bind fun v1 => exb v1 (fun e9 =>
      if e9 = "java/lang/IndexOutOfBoundsException" then
        some ((1 : Int32), ol)
      else
      none) fun r2 =>
  (stA ol 1 (0 : Int32) (r2.toInt64)).bind fun g3 =>
  some ((0 : Int32), g3)
def fL_leastTurn (fu : Nat) (ts : Nat → Int32) (tc : Nat → Nat → Int32) (ol : Nat → Int64) (x1 : Int32) : Option (Int32 × (Nat → Int64)) :=
  (fX5_leastTurn fu ts tc x1).bind fun v1 => exb v1 (fun e9 =>
      if e9 = "java/lang/IndexOutOfBoundsException" then
        some ((1 : Int32), ol)
      else
      none) fun r2 =>
  (stA ol 1 (0 : Int32) (r2.toInt64)).bind fun g3 =>
  some ((0 : Int32), g3)
def fL_factors (fu : Nat) (ts : Nat → Int32) (tc : Nat → Nat → Int32) (ol : Nat → Int64) (x1 : Int32) : Option (Int32 × (Nat → Int64)) :=
  (fX5_factors fu ts tc x1).bind fun v1 => exb v1 (fun e9 =>
      if e9 = "java/lang/IndexOutOfBoundsException" then
        some ((1 : Int32), ol)
      else
      none) fun r2 =>
  (stA ol 1 (0 : Int32) (r2.toInt64)).bind fun g3 =>
  some ((0 : Int32), g3)
def fL_factorAt (fu : Nat) (ts : Nat → Int32) (tc : Nat → Nat → Int32) (ol : Nat → Int64) (x1 : Int32) (x2 : Int32) : Option (Int32 × (Nat → Int64)) :=
  (fX5_factorAt fu ts tc x1 x2).bind fun v1 => exb v1 (fun e9 =>
      if e9 = "java/lang/IndexOutOfBoundsException" then
        some ((1 : Int32), ol)
      else
      if e9 = "java/util/NoSuchElementException" then
        some ((2 : Int32), ol)
      else
      none) fun r2 =>
  (stA ol 1 (0 : Int32) (r2.toInt64)).bind fun g3 =>
  some ((0 : Int32), g3)
def fL_endAt (fu : Nat) (ts : Nat → Int32) (tc : Nat → Nat → Int32) (rk : Nat → Int32) (pl : Nat → Int32) (ol : Nat → Int64) (x1 : Int32) (x2 : Int32) : Option (Int32 × (Nat → Int32) × (Nat → Int32) × (Nat → Int64)) :=
  (fX5_endAt fu ts tc rk pl x1 x2).bind fun v1 => exb v1.1 (fun e9 =>
      if e9 = "java/lang/IndexOutOfBoundsException" then
        some ((1 : Int32), v1.2.1, v1.2.2, ol)
      else
      if e9 = "java/util/NoSuchElementException" then
        some ((2 : Int32), v1.2.1, v1.2.2, ol)
      else
      none) fun r2 =>
  (stA ol 1 (0 : Int32) (r2.toInt64)).bind fun g3 =>
  some ((0 : Int32), v1.2.1, v1.2.2, g3)
def fL_rankOf (fu : Nat) (ts : Nat → Int32) (tc : Nat → Nat → Int32) (rk : Nat → Int32) (pl : Nat → Int32) (ol : Nat → Int64) (x1 : Int32) (x2 : Int32) : Option (Int32 × (Nat → Int32) × (Nat → Int32) × (Nat → Int64)) :=
  (fX5_rankOf fu ts tc rk pl x1 x2).bind fun v1 => exb v1.1 (fun e9 =>
      if e9 = "java/lang/IndexOutOfBoundsException" then
        some ((1 : Int32), v1.2.1, v1.2.2, ol)
      else
      none) fun r2 =>
  (stA ol 1 (0 : Int32) (r2.toInt64)).bind fun g3 =>
  some ((0 : Int32), v1.2.1, v1.2.2, g3)
def fL_unlikeParts (fu : Nat) (ts : Nat → Int32) (tc : Nat → Nat → Int32) (rk : Nat → Int32) (pl : Nat → Int32) (ol : Nat → Int64) (x1 : Int32) : Option (Int32 × (Nat → Int32) × (Nat → Int32) × (Nat → Int64)) :=
  (fX5_unlikeParts fu ts tc rk pl x1).bind fun v1 => exb v1.1 (fun e9 =>
      if e9 = "java/lang/IndexOutOfBoundsException" then
        some ((1 : Int32), v1.2.1, v1.2.2, ol)
      else
      none) fun r2 =>
  (stA ol 1 (0 : Int32) (r2.toInt64)).bind fun g3 =>
  some ((0 : Int32), v1.2.1, v1.2.2, g3)
def fL_twice (fu : Nat) (ts : Nat → Int32) (tc : Nat → Nat → Int32) (rk : Nat → Int32) (pl : Nat → Int32) (ol : Nat → Int64) (x1 : Int32) (x2 : Int32) : Option (Int32 × (Nat → Int32) × (Nat → Nat → Int32) × (Nat → Int32) × (Nat → Int32) × (Nat → Int64)) :=
  (fX5_twice fu ts tc rk pl x1 x2).bind fun v1 => exb v1.1 (fun e9 =>
      if e9 = "java/lang/IndexOutOfBoundsException" then
        some ((1 : Int32), v1.2.1, v1.2.2.1, v1.2.2.2.1, v1.2.2.2.2, ol)
      else
      none) fun r2 =>
  (stA ol 1 (0 : Int32) (r2.toInt64)).bind fun g3 =>
  some ((0 : Int32), v1.2.1, v1.2.2.1, v1.2.2.2.1, v1.2.2.2.2, g3)
def fL_mirrors (fu : Nat) (ts : Nat → Int32) (tc : Nat → Nat → Int32) (rk : Nat → Int32) (pl : Nat → Int32) (ol : Nat → Int64) (x1 : Int32) : Option (Int32 × (Nat → Int32) × (Nat → Int32) × (Nat → Int64)) :=
  (fX5_mirrors fu ts tc rk pl x1).bind fun v1 => exb v1.1 (fun e9 =>
      if e9 = "java/lang/IndexOutOfBoundsException" then
        some ((1 : Int32), v1.2.1, v1.2.2, ol)
      else
      none) fun r2 =>
  (stA ol 1 (0 : Int32) (r2.toInt64)).bind fun g3 =>
  some ((0 : Int32), v1.2.1, v1.2.2, g3)
def fL_commute (fu : Nat) (ts : Nat → Int32) (tc : Nat → Nat → Int32) (ol : Nat → Int64) (x1 : Int32) (x2 : Int32) : Option (Int32 × (Nat → Int64)) :=
  (fX5_commute fu ts tc x1 x2).bind fun v1 => exb v1 (fun e9 =>
      if e9 = "java/lang/IndexOutOfBoundsException" then
        some ((1 : Int32), ol)
      else
      none) fun r2 =>
  if r2 = 0 then
    (stA ol 1 (0 : Int32) (0 : Int64)).bind fun g3 =>
    some ((0 : Int32), g3)
  else
    (stA ol 1 (0 : Int32) (1 : Int64)).bind fun g4 =>
    some ((0 : Int32), g4)
def fL_commonRoot (fu : Nat) (ts : Nat → Int32) (tc : Nat → Nat → Int32) (ol : Nat → Int64) (x1 : Int32) (x2 : Int32) (x3 : Int32) : Option (Int32 × (Nat → Int32) × (Nat → Nat → Int32) × (Nat → Int64)) :=
  (fX5_commonRoot fu ts tc x1 x2 x3).bind fun v1 => exb v1.1 (fun e9 =>
      if e9 = "java/lang/IndexOutOfBoundsException" then
        some ((1 : Int32), v1.2.1, v1.2.2, ol)
      else
      if e9 = "java/lang/UnsupportedOperationException" then
        some ((2 : Int32), v1.2.1, v1.2.2, ol)
      else
      none) fun r2 =>
  (stA ol 1 (0 : Int32) (r2.toInt64)).bind fun g3 =>
  some ((0 : Int32), v1.2.1, v1.2.2, g3)
def fL_ways (fu : Nat) (ts : Nat → Int32) (tc : Nat → Nat → Int32) (ru : Nat → Int64) (ol : Nat → Int64) (x1 : Int32) (x2 : Int32) : Option (Int32 × (Nat → Int64) × (Nat → Int64)) :=
  (fX5_ways fu ts tc ru x1 x2).bind fun v1 => exb v1.1 (fun e9 =>
      if e9 = "java/lang/IndexOutOfBoundsException" then
        some ((1 : Int32), v1.2, ol)
      else
      if e9 = "java/lang/IllegalArgumentException" then
        some ((2 : Int32), v1.2, ol)
      else
      none) fun r2 =>
  (stA ol 1 (0 : Int32) r2).bind fun g3 =>
  some ((0 : Int32), v1.2, g3)
def fL_isFree (fu : Nat) (ts : Nat → Int32) (tc : Nat → Nat → Int32) (sl : Nat → Int32) (bg : Nat → Int32) (kn : Nat → Int64) (rm : Int32) (ol : Nat → Int64) (x1 : Int32) : Option (Int32 × (Nat → Int32) × (Nat → Int32) × (Nat → Int64) × Int32 × (Nat → Int64)) :=
  (fX5_isFree fu ts tc sl bg kn rm x1).bind fun v1 => exb v1.1 (fun e9 =>
      if e9 = "java/lang/IllegalArgumentException" then
        some ((1 : Int32), v1.2.1, v1.2.2.1, v1.2.2.2.1, v1.2.2.2.2, ol)
      else
      none) fun r2 =>
  if r2 = 0 then
    (stA ol 1 (0 : Int32) (0 : Int64)).bind fun g3 =>
    some ((0 : Int32), v1.2.1, v1.2.2.1, v1.2.2.2.1, v1.2.2.2.2, g3)
  else
    (stA ol 1 (0 : Int32) (1 : Int64)).bind fun g4 =>
    some ((0 : Int32), v1.2.1, v1.2.2.1, v1.2.2.2.1, v1.2.2.2.2, g4)
def fL_rootShare (fu : Nat) (ts : Nat → Int32) (tc : Nat → Nat → Int32) (od : Nat → UInt64) (x1 : Int32) : Option (Int32 × (Nat → UInt64)) :=
  (fX5_rootShare fu ts tc x1).bind fun v1 => exb v1 (fun e9 =>
      if e9 = "java/lang/IndexOutOfBoundsException" then
        some ((1 : Int32), od)
      else
      if e9 = "java/lang/ArithmeticException" then
        some ((2 : Int32), od)
      else
      none) fun r2 =>
  (ckD (FP.f2d r2)).bind fun v3 =>
  (stA od 1 (0 : Int32) v3).bind fun g4 =>
  some ((0 : Int32), g4)
def fL_meanPeriod (fu : Nat) (ts : Nat → Int32) (tc : Nat → Nat → Int32) (od : Nat → UInt64) (x1 : Int32) : Option (Int32 × (Nat → UInt64)) :=
  (fX5_meanPeriod fu ts tc x1).bind fun v1 => exb v1 (fun e9 =>
      if e9 = "java/lang/IndexOutOfBoundsException" then
        some ((1 : Int32), od)
      else
      if e9 = "java/lang/ArithmeticException" then
        some ((2 : Int32), od)
      else
      none) fun r2 =>
  (stA od 1 (0 : Int32) r2).bind fun g3 =>
  some ((0 : Int32), g3)
