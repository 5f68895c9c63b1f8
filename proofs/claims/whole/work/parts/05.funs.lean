def f_X0_append (h : Hp) (x0 : Nat) (x1 : Int32) : Option (Int32 × Hp) :=
  gd (kd x0 = 0) <|
  if (h.1 x0 0) < (6 : Int32) then
    gd (kd (h.2 x0 2) = 13) <|
    gd (inr (h.1 x0 0) (ln (h.2 x0 2)) = true) <|
    lt ((si h (h.2 x0 2) (h.1 x0 0).toNatClampNeg x1)) <| fun h3 =>
    lt ((si h3 x0 0 ((h3.1 x0 0) + (1 : Int32)))) <| fun h5 =>
    some ((1 : Int32), h5)
  else
    some ((0 : Int32), h)
def f_X0_inTwoRows_6 : Nat → Hp → Nat → Int32 → Int32 → Int32 → Option (Int32 × Hp)
  | 0 => fun _ _ _ _ _ => none
  | fu + 1 => fun h x0 x1 x2 x3 =>
    if (h.1 x0 0) ≤ x3 then
      some (x2, h)
    else
      gd (kd (h.2 x0 2) = 13) <|
      gd (inr x3 (ln (h.2 x0 2)) = true) <|
      gd (kd (h.2 x0 2) = 13) <|
      gd (inr x3 (ln (h.2 x0 2)) = true) <|
      f_X0_inTwoRows_6 fu h x0 (x1 ||| (h.1 (h.2 x0 2) x3.toNatClampNeg)) (x2 ||| (x1 &&& (h.1 (h.2 x0 2) x3.toNatClampNeg))) (x3 + (1 : Int32))
def f_X0_inTwoRows (h : Hp) (x0 : Nat) : Option (Int32 × Hp) :=
  gd (kd x0 = 0) <|
  f_X0_inTwoRows_6 FU h x0 (0 : Int32) (0 : Int32) (0 : Int32)
def f_X11_hasBit (h : Hp) (x0 : Int32) (x1 : Int32) : Option (Int32 × Hp) :=
  if ((x0 >>> (x1 &&& 31)) &&& (1 : Int32)) = 0 then
    some ((0 : Int32), h)
  else
    some ((1 : Int32), h)
def f_X0_readFrom_58 (rec : Hp → Nat → Int32 → Int32 → Option (Unit × Hp)) : Nat → Hp → Nat → Int32 → Int32 → Int32 → Option (Unit × Hp)
  | 0 => fun _ _ _ _ _ => none
  | fu + 1 => fun h x0 x1 x2 x3 =>
    if (6 : Int32) ≤ x3 then
      some ((), h)
    else
      gd (kd (h.2 x0 3) = 13) <|
      gd (inr x1 (ln (h.2 x0 3)) = true) <|
      bd (f_X11_hasBit h ((h.1 (h.2 x0 3) x1.toNatClampNeg) &&& (x2 ^^^ (-1 : Int32))) x3) <| fun r3 h4 =>
      if r3 = 0 then
        f_X0_readFrom_58 rec fu h4 x0 x1 x2 (x3 + (1 : Int32))
      else
        gd (kd (h4.2 x0 5) = 13) <|
        gd (inr x1 (ln (h4.2 x0 5)) = true) <|
        lt ((si h4 (h4.2 x0 5) x1.toNatClampNeg ((1 : Int32) <<< (x3 &&& 31)))) <| fun h8 =>
        bd (rec h8 x0 (x1 + (1 : Int32)) (x2 ||| ((1 : Int32) <<< (x3 &&& 31)))) <| fun r10 h11 =>
        f_X0_readFrom_58 rec fu h11 x0 x1 x2 (x3 + (1 : Int32))
def f_X0_readFrom_26 (rec : Hp → Nat → Int32 → Int32 → Option (Unit × Hp)) : Nat → Hp → Nat → Int32 → Option (Unit × Hp)
  | 0 => fun _ _ _ => none
  | fu + 1 => fun h x0 x3 =>
    if (h.1 x0 0) ≤ x3 then
      some ((), h)
    else
      gd (kd (h.2 x0 4) = 13) <|
      gd (inr x3 (ln (h.2 x0 4)) = true) <|
      gd (kd (h.2 x0 5) = 13) <|
      gd (inr x3 (ln (h.2 x0 5)) = true) <|
      gd (inr x3 (ln (h.2 x0 4)) = true) <|
      lt ((si h (h.2 x0 4) x3.toNatClampNeg ((h.1 (h.2 x0 4) x3.toNatClampNeg) ||| (h.1 (h.2 x0 5) x3.toNatClampNeg)))) <| fun h6 =>
      f_X0_readFrom_26 rec fu h6 x0 (x3 + (1 : Int32))
def f_X0_readFrom_14 (rec : Hp → Nat → Int32 → Int32 → Option (Unit × Hp)) (h : Hp) (x0 : Nat) : Option (Unit × Hp) :=
  lt ((si h x0 1 ((h.1 x0 1) + (1 : Int32)))) <| fun h1 =>
  f_X0_readFrom_26 rec FU h1 x0 (0 : Int32)
def f_X0_readFrom_body (rec : Hp → Nat → Int32 → Int32 → Option (Unit × Hp)) (h : Hp) (x0 : Nat) (x1 : Int32) (x2 : Int32) : Option (Unit × Hp) :=
  gd (kd x0 = 0) <|
  if (h.1 x0 0) ≤ x1 then
    f_X0_readFrom_14 rec h x0
  else
    if x1 < (6 : Int32) then
      f_X0_readFrom_58 rec FU h x0 x1 x2 (0 : Int32)
    else
      f_X0_readFrom_14 rec h x0
def f_X0_readFrom : Nat → Hp → Nat → Int32 → Int32 → Option (Unit × Hp)
  | 0 => fun _ _ _ _ => none
  | dd + 1 => f_X0_readFrom_body (f_X0_readFrom dd)
def f_X9_comingTo (h : Hp) (x0 : Nat) (x1 : Int32) : Option (Int32 × Hp) :=
  gd (kd x0 = 9) <|
  if x1 < 0 then
    some ((0 : Int32), h)
  else
    if x1 ≤ (h.1 x0 2) then
      gd (kd (h.2 x0 0) = 13) <|
      gd (inr ((300 : Int32) + x1) (ln (h.2 x0 0)) = true) <|
      some ((h.1 (h.2 x0 0) ((300 : Int32) + x1).toNatClampNeg), h)
    else
      some ((0 : Int32), h)
def f_J6_bitCount_0f7a4 (h : Hp) (x0 : Int32) : Option (Int32 × Hp) :=
  some (((((((((x0 - ((x0.toUInt32 >>> ((1 : Int32).toUInt32 &&& Int32.toUInt32 31)).toInt32 &&& (1431655765 : Int32))) &&& (858993459 : Int32)) + (((x0 - ((x0.toUInt32 >>> ((1 : Int32).toUInt32 &&& Int32.toUInt32 31)).toInt32 &&& (1431655765 : Int32))).toUInt32 >>> ((2 : Int32).toUInt32 &&& Int32.toUInt32 31)).toInt32 &&& (858993459 : Int32))) + ((((x0 - ((x0.toUInt32 >>> ((1 : Int32).toUInt32 &&& Int32.toUInt32 31)).toInt32 &&& (1431655765 : Int32))) &&& (858993459 : Int32)) + (((x0 - ((x0.toUInt32 >>> ((1 : Int32).toUInt32 &&& Int32.toUInt32 31)).toInt32 &&& (1431655765 : Int32))).toUInt32 >>> ((2 : Int32).toUInt32 &&& Int32.toUInt32 31)).toInt32 &&& (858993459 : Int32))).toUInt32 >>> ((4 : Int32).toUInt32 &&& Int32.toUInt32 31)).toInt32) &&& (252645135 : Int32)) + ((((((x0 - ((x0.toUInt32 >>> ((1 : Int32).toUInt32 &&& Int32.toUInt32 31)).toInt32 &&& (1431655765 : Int32))) &&& (858993459 : Int32)) + (((x0 - ((x0.toUInt32 >>> ((1 : Int32).toUInt32 &&& Int32.toUInt32 31)).toInt32 &&& (1431655765 : Int32))).toUInt32 >>> ((2 : Int32).toUInt32 &&& Int32.toUInt32 31)).toInt32 &&& (858993459 : Int32))) + ((((x0 - ((x0.toUInt32 >>> ((1 : Int32).toUInt32 &&& Int32.toUInt32 31)).toInt32 &&& (1431655765 : Int32))) &&& (858993459 : Int32)) + (((x0 - ((x0.toUInt32 >>> ((1 : Int32).toUInt32 &&& Int32.toUInt32 31)).toInt32 &&& (1431655765 : Int32))).toUInt32 >>> ((2 : Int32).toUInt32 &&& Int32.toUInt32 31)).toInt32 &&& (858993459 : Int32))).toUInt32 >>> ((4 : Int32).toUInt32 &&& Int32.toUInt32 31)).toInt32) &&& (252645135 : Int32)).toUInt32 >>> ((8 : Int32).toUInt32 &&& Int32.toUInt32 31)).toInt32) + (((((((x0 - ((x0.toUInt32 >>> ((1 : Int32).toUInt32 &&& Int32.toUInt32 31)).toInt32 &&& (1431655765 : Int32))) &&& (858993459 : Int32)) + (((x0 - ((x0.toUInt32 >>> ((1 : Int32).toUInt32 &&& Int32.toUInt32 31)).toInt32 &&& (1431655765 : Int32))).toUInt32 >>> ((2 : Int32).toUInt32 &&& Int32.toUInt32 31)).toInt32 &&& (858993459 : Int32))) + ((((x0 - ((x0.toUInt32 >>> ((1 : Int32).toUInt32 &&& Int32.toUInt32 31)).toInt32 &&& (1431655765 : Int32))) &&& (858993459 : Int32)) + (((x0 - ((x0.toUInt32 >>> ((1 : Int32).toUInt32 &&& Int32.toUInt32 31)).toInt32 &&& (1431655765 : Int32))).toUInt32 >>> ((2 : Int32).toUInt32 &&& Int32.toUInt32 31)).toInt32 &&& (858993459 : Int32))).toUInt32 >>> ((4 : Int32).toUInt32 &&& Int32.toUInt32 31)).toInt32) &&& (252645135 : Int32)) + ((((((x0 - ((x0.toUInt32 >>> ((1 : Int32).toUInt32 &&& Int32.toUInt32 31)).toInt32 &&& (1431655765 : Int32))) &&& (858993459 : Int32)) + (((x0 - ((x0.toUInt32 >>> ((1 : Int32).toUInt32 &&& Int32.toUInt32 31)).toInt32 &&& (1431655765 : Int32))).toUInt32 >>> ((2 : Int32).toUInt32 &&& Int32.toUInt32 31)).toInt32 &&& (858993459 : Int32))) + ((((x0 - ((x0.toUInt32 >>> ((1 : Int32).toUInt32 &&& Int32.toUInt32 31)).toInt32 &&& (1431655765 : Int32))) &&& (858993459 : Int32)) + (((x0 - ((x0.toUInt32 >>> ((1 : Int32).toUInt32 &&& Int32.toUInt32 31)).toInt32 &&& (1431655765 : Int32))).toUInt32 >>> ((2 : Int32).toUInt32 &&& Int32.toUInt32 31)).toInt32 &&& (858993459 : Int32))).toUInt32 >>> ((4 : Int32).toUInt32 &&& Int32.toUInt32 31)).toInt32) &&& (252645135 : Int32)).toUInt32 >>> ((8 : Int32).toUInt32 &&& Int32.toUInt32 31)).toInt32).toUInt32 >>> ((16 : Int32).toUInt32 &&& Int32.toUInt32 31)).toInt32) &&& (63 : Int32)), h)
def f_X11_lastUse (h : Hp) (x0 : Int32) : Option (Int32 × Hp) :=
  if x0 = (3 : Int32) then
    some ((3 : Int32), h)
  else
    if x0 = (2 : Int32) then
      some ((2 : Int32), h)
    else
      some ((1 : Int32), h)
def f_X11_canStand (h : Hp) (x0 : Int32) (x1 : Int32) : Option (Int32 × Hp) :=
  if x1 = (3 : Int32) then
    if (x0 - x0 / (2 : Int32) * (2 : Int32)) = 0 then
      some ((1 : Int32), h)
    else
      some ((0 : Int32), h)
  else
    some ((1 : Int32), h)
def f_X11_countsAs (h : Hp) (x0 : Int32) (x1 : Int32) : Option (Int32 × Hp) :=
  if x1 = (1 : Int32) then
    some (x0, h)
  else
    if x1 = (2 : Int32) then
      some ((-x0), h)
    else
      some ((x0 / (2 : Int32)), h)
def f_X9_join_65 (k44 : Hp → Nat → Int32 → Int32 → Int32 → Int32 → Option (Unit × Hp)) : Nat → Hp → Nat → Int32 → Int32 → Int32 → Int32 → Int32 → Int32 → Option (Unit × Hp)
  | 0 => fun _ _ _ _ _ _ _ _ => none
  | fu + 1 => fun h x0 x1 x2 x3 x4 x5 x6 =>
    if (h.1 x0 2) < x6 then
      k44 h x0 x1 x2 x3 (x4 + (1 : Int32))
    else
      bd (f_X11_canStand h x1 x4) <| fun r1 h2 =>
      if r1 = 0 then
        k44 h2 x0 x1 x2 x3 (x4 + (1 : Int32))
      else
        gd (kd (h2.2 x0 1) = 13) <|
        gd (inr (((300 : Int32) + x6) + x5) (ln (h2.2 x0 1)) = true) <|
        gd (kd (h2.2 x0 0) = 13) <|
        gd (inr ((300 : Int32) + x6) (ln (h2.2 x0 0)) = true) <|
        gd (inr (((300 : Int32) + x6) + x5) (ln (h2.2 x0 1)) = true) <|
        lt ((si h2 (h2.2 x0 1) (((300 : Int32) + x6) + x5).toNatClampNeg ((h2.1 (h2.2 x0 1) (((300 : Int32) + x6) + x5).toNatClampNeg) + (h2.1 (h2.2 x0 0) ((300 : Int32) + x6).toNatClampNeg)))) <| fun h9 =>
        f_X9_join_65 k44 fu h9 x0 x1 x2 x3 x4 x5 (x6 + (1 : Int32))
def f_X9_join_44 : Nat → Hp → Nat → Int32 → Int32 → Int32 → Int32 → Option (Unit × Hp)
  | 0 => fun _ _ _ _ _ _ => none
  | fu + 1 => fun h x0 x1 x2 x3 x4 =>
    if x2 < x4 then
      gd (kd (h.2 x0 0) = 13) <|
      gd (kd (h.2 x0 1) = 13) <|
      lt ((sr h x0 0 (h.2 x0 1))) <| fun h3 =>
      lt ((sr h3 x0 1 (h.2 x0 0))) <| fun h5 =>
      lt ((si h5 x0 2 x3)) <| fun h7 =>
      some ((), h7)
    else
      bd (f_X11_countsAs h x1 x4) <| fun r9 h10 =>
      f_X9_join_65 (f_X9_join_44 fu) FU h10 x0 x1 x2 x3 x4 r9 (-(h10.1 x0 2))
def f_X9_join_17 : Nat → Hp → Nat → Int32 → Int32 → Int32 → Int32 → Option (Unit × Hp)
  | 0 => fun _ _ _ _ _ _ => none
  | fu + 1 => fun h x0 x1 x2 x3 x4 =>
    if x3 < x4 then
      f_X9_join_44 FU h x0 x1 x2 x3 (1 : Int32)
    else
      gd (kd (h.2 x0 1) = 13) <|
      gd (inr ((300 : Int32) + x4) (ln (h.2 x0 1)) = true) <|
      lt ((si h (h.2 x0 1) ((300 : Int32) + x4).toNatClampNeg (0 : Int32))) <| fun h3 =>
      f_X9_join_17 fu h3 x0 x1 x2 x3 (x4 + (1 : Int32))
def f_X9_join (h : Hp) (x0 : Nat) (x1 : Int32) (x2 : Int32) : Option (Unit × Hp) :=
  gd (kd x0 = 9) <|
  f_X9_join_17 FU h x0 x1 x2 (if (300 : Int32) < ((h.1 x0 2) + x1) then (300 : Int32) else ((h.1 x0 2) + x1)) (-(if (300 : Int32) < ((h.1 x0 2) + x1) then (300 : Int32) else ((h.1 x0 2) + x1)))
def f_X9_reckon_32 : Nat → Hp → Nat → Int32 → Int32 → Int32 → Option (Unit × Hp)
  | 0 => fun _ _ _ _ _ => none
  | fu + 1 => fun h x0 x1 x2 x3 =>
    if (24 : Int32) < x3 then
      some ((), h)
    else
      bd (f_X11_hasBit h x1 (x3 - (1 : Int32))) <| fun r1 h2 =>
      if r1 = 0 then
        f_X9_reckon_32 fu h2 x0 x1 x2 (x3 + (1 : Int32))
      else
        bd (f_X11_lastUse h2 x2) <| fun r4 h5 =>
        bd (f_X9_join h5 x0 x3 r4) <| fun r7 h8 =>
        f_X9_reckon_32 fu h8 x0 x1 x2 (x3 + (1 : Int32))
def f_X9_reckon_29 (h : Hp) (x0 : Nat) (x1 : Int32) (x2 : Int32) (t0 : Nat) (t1 : Int32) (t2 : Int32) : Option (Unit × Hp) :=
  gd (inr t1 (ln t0) = true) <|
  lt ((si h t0 t1.toNatClampNeg t2)) <| fun h2 =>
  f_X9_reckon_32 FU h2 x0 x1 x2 (1 : Int32)
def f_X9_reckon_28 (h : Hp) (x0 : Nat) (x1 : Int32) (x2 : Int32) (t0 : Nat) (t1 : Int32) : Option (Unit × Hp) :=
  f_X9_reckon_29 h x0 x1 x2 t0 t1 (1 : Int32)
def f_X9_reckon (h : Hp) (x0 : Nat) (x1 : Int32) (x2 : Int32) : Option (Unit × Hp) :=
  gd (kd x0 = 9) <|
  lt ((si h x0 2 (0 : Int32))) <| fun h1 =>
  gd (kd (h1.2 x0 0) = 13) <|
  if x2 = 0 then
    bd (f_J6_bitCount_0f7a4 h1 x1) <| fun r4 h5 =>
    if r4 = (1 : Int32) then
      f_X9_reckon_28 h5 x0 x1 x2 (h1.2 x0 0) (300 : Int32)
    else
      f_X9_reckon_29 h5 x0 x1 x2 (h1.2 x0 0) (300 : Int32) (0 : Int32)
  else
    f_X9_reckon_28 h1 x0 x1 x2 (h1.2 x0 0) (300 : Int32)
def f_X0_read_79 (k2 : Hp → Nat → Nat → Nat → Int32 → Option (Unit × Hp)) (k41 : Hp → Nat → Nat → Nat → Int32 → Int32 → Option (Unit × Hp)) (h : Hp) (x0 : Nat) (x1 : Nat) (x2 : Nat) (x3 : Int32) (x4 : Int32) (t0 : Nat) (t1 : Int32) (t2 : Int32) (t3 : Int32) : Option (Unit × Hp) :=
  gd (inr t1 (ln t0) = true) <|
  lt ((si h t0 t1.toNatClampNeg (t2 ||| t3))) <| fun h2 =>
  k41 h2 x0 x1 x2 x3 (x4 + (1 : Int32))
def f_X0_read_41 (k2 : Hp → Nat → Nat → Nat → Int32 → Option (Unit × Hp)) : Nat → Hp → Nat → Nat → Nat → Int32 → Int32 → Option (Unit × Hp)
  | 0 => fun _ _ _ _ _ _ => none
  | fu + 1 => fun h x0 x1 x2 x3 x4 =>
    if (h.1 x1 1) ≤ x4 then
      k2 h x0 x1 x2 (x3 + (1 : Int32))
    else
      gd (kd (h.2 x0 3) = 13) <|
      gd (inr x3 (ln (h.2 x0 3)) = true) <|
      gd (kd (h.2 x1 7) = 13) <|
      gd (inr x4 (ln (h.2 x1 7)) = true) <|
      bd (f_X9_comingTo h x2 (h.1 (h.2 x1 7) x4.toNatClampNeg)) <| fun r5 h6 =>
      if r5 ≤ 0 then
        f_X0_read_79 k2 (f_X0_read_41 k2 fu) h6 x0 x1 x2 x3 x4 (h.2 x0 3) x3 (h.1 (h.2 x0 3) x3.toNatClampNeg) (0 : Int32)
      else
        f_X0_read_79 k2 (f_X0_read_41 k2 fu) h6 x0 x1 x2 x3 x4 (h.2 x0 3) x3 (h.1 (h.2 x0 3) x3.toNatClampNeg) ((1 : Int32) <<< (x4 &&& 31))
def f_X0_read_2 : Nat → Hp → Nat → Nat → Nat → Int32 → Option (Unit × Hp)
  | 0 => fun _ _ _ _ _ => none
  | fu + 1 => fun h x0 x1 x2 x3 =>
    if (h.1 x0 0) ≤ x3 then
      lt ((si h x0 1 (0 : Int32))) <| fun h1 =>
      bd (f_X0_readFrom 8 h1 x0 (0 : Int32) (0 : Int32)) <| fun r3 h4 =>
      some ((), h4)
    else
      gd (kd (h.2 x0 2) = 13) <|
      gd (inr x3 (ln (h.2 x0 2)) = true) <|
      bd (f_X9_reckon h x2 (h.1 (h.2 x0 2) x3.toNatClampNeg) (h.1 x1 2)) <| fun r8 h9 =>
      gd (kd (h9.2 x0 3) = 13) <|
      gd (inr x3 (ln (h9.2 x0 3)) = true) <|
      lt ((si h9 (h9.2 x0 3) x3.toNatClampNeg (0 : Int32))) <| fun h13 =>
      gd (kd (h13.2 x0 4) = 13) <|
      gd (inr x3 (ln (h13.2 x0 4)) = true) <|
      lt ((si h13 (h13.2 x0 4) x3.toNatClampNeg (0 : Int32))) <| fun h17 =>
      f_X0_read_41 (f_X0_read_2 fu) FU h17 x0 x1 x2 x3 (0 : Int32)
def f_X0_read (h : Hp) (x0 : Nat) (x1 : Nat) (x2 : Nat) : Option (Unit × Hp) :=
  gd (kd x0 = 0) <|
  gd (kd x1 = 4) <|
  gd (kd x2 = 9) <|
  f_X0_read_2 FU h x0 x1 x2 (0 : Int32)
def f_X11_firstBit_2 : Nat → Hp → Int32 → Int32 → Option (Int32 × Hp)
  | 0 => fun _ _ _ => none
  | fu + 1 => fun h x0 x1 =>
    if (24 : Int32) ≤ x1 then
      some (x1, h)
    else
      bd (f_X11_hasBit h x0 x1) <| fun r1 h2 =>
      if r1 = 0 then
        f_X11_firstBit_2 fu h2 x0 (x1 + (1 : Int32))
      else
        some (x1, h2)
def f_X11_firstBit (h : Hp) (x0 : Int32) : Option (Int32 × Hp) :=
  f_X11_firstBit_2 FU h x0 (0 : Int32)
def f_X0_surePerson (h : Hp) (x0 : Nat) (x1 : Int32) : Option (Int32 × Hp) :=
  gd (kd x0 = 0) <|
  if x1 < 0 then
    some ((-4 : Int32), h)
  else
    if (h.1 x0 0) ≤ x1 then
      some ((-4 : Int32), h)
    else
      gd (kd (h.2 x0 4) = 13) <|
      gd (inr x1 (ln (h.2 x0 4)) = true) <|
      bd (f_J6_bitCount_0f7a4 h (h.1 (h.2 x0 4) x1.toNatClampNeg)) <| fun r3 h4 =>
      if r3 = (1 : Int32) then
        gd (kd (h4.2 x0 4) = 13) <|
        gd (inr x1 (ln (h4.2 x0 4)) = true) <|
        bd (f_X11_firstBit h4 (h4.1 (h4.2 x0 4) x1.toNatClampNeg)) <| fun r8 h9 =>
        some (r8, h9)
      else
        some ((-4 : Int32), h4)
def f_X5_oneOf (h : Hp) (x0 : Int32) : Option (Int32 × Hp) :=
  if x0 ≤ (24 : Int32) then
    some (((1 : Int32) <<< ((x0 - (1 : Int32)) &&& 31)), h)
  else
    some ((0 : Int32), h)
def f_X5_used (h : Hp) (x0 : Nat) (x1 : Int32) : Option (Int32 × Hp) :=
  gd (kd x0 = 5) <|
  gd (kd (h.2 x0 3) = 13) <|
  gd (inr x1 (ln (h.2 x0 3)) = true) <|
  gd (kd (h.2 x0 4) = 13) <|
  gd (inr x1 (ln (h.2 x0 4)) = true) <|
  gd (kd (h.2 x0 5) = 13) <|
  gd (inr x1 (ln (h.2 x0 5)) = true) <|
  some ((((h.1 (h.2 x0 3) x1.toNatClampNeg) ||| (h.1 (h.2 x0 4) x1.toNatClampNeg)) ||| (h.1 (h.2 x0 5) x1.toNatClampNeg)), h)
def f_X7_listNumbers_7 : Nat → Hp → Nat → Int32 → Option (Unit × Hp)
  | 0 => fun _ _ _ => none
  | fu + 1 => fun h x0 x1 =>
    if (24 : Int32) < x1 then
      some ((), h)
    else
      bd (f_X11_hasBit h (h.1 x0 10) (x1 - (1 : Int32))) <| fun r1 h2 =>
      if r1 = 0 then
        f_X7_listNumbers_7 fu h2 x0 (x1 + (1 : Int32))
      else
        gd (kd (h2.2 x0 7) = 13) <|
        gd (inr (h2.1 x0 9) (ln (h2.2 x0 7)) = true) <|
        lt ((si h2 (h2.2 x0 7) (h2.1 x0 9).toNatClampNeg x1)) <| fun h6 =>
        lt ((si h6 x0 9 ((h6.1 x0 9) + (1 : Int32)))) <| fun h8 =>
        f_X7_listNumbers_7 fu h8 x0 (x1 + (1 : Int32))
def f_X7_listNumbers (h : Hp) (x0 : Nat) : Option (Unit × Hp) :=
  gd (kd x0 = 7) <|
  lt ((si h x0 9 (0 : Int32))) <| fun h1 =>
  f_X7_listNumbers_7 FU h1 x0 (1 : Int32)
def f_X7_setBounds_101 (k49 : Hp → Nat → Int32 → Int32 → Int32 → Int32 → Option (Unit × Hp)) (h : Hp) (x0 : Nat) (x1 : Int32) (x2 : Int32) (x3 : Int32) (x4 : Int32) (t0 : Nat) (t1 : Int32) (t2 : Int32) (t3 : Int32) : Option (Unit × Hp) :=
  gd (inr t1 (ln t0) = true) <|
  lt ((si h t0 t1.toNatClampNeg (if t3 < t2 then t3 else t2))) <| fun h2 =>
  if (h2.1 x0 9) ≤ x4 then
    k49 h2 x0 x1 x2 x3 (x4 + (1 : Int32))
  else
    gd (kd (h2.2 x0 7) = 13) <|
    gd (inr x4 (ln (h2.2 x0 7)) = true) <|
    gd (kd (h2.2 x0 7) = 13) <|
    gd (inr x4 (ln (h2.2 x0 7)) = true) <|
    k49 h2 x0 x1 (x2 - (h2.1 (h2.2 x0 7) x4.toNatClampNeg)) (x3 + (h2.1 (h2.2 x0 7) x4.toNatClampNeg)) (x4 + (1 : Int32))
def f_X7_setBounds_80 (k49 : Hp → Nat → Int32 → Int32 → Int32 → Int32 → Option (Unit × Hp)) (h : Hp) (x0 : Nat) (x1 : Int32) (x2 : Int32) (x3 : Int32) (x4 : Int32) (t0 : Nat) (t1 : Int32) (t2 : Int32) : Option (Unit × Hp) :=
  gd (inr t1 (ln t0) = true) <|
  lt ((si h t0 t1.toNatClampNeg t2)) <| fun h2 =>
  gd (kd (h2.2 x0 6) = 13) <|
  if x1 = 0 then
    f_X7_setBounds_101 k49 h2 x0 x1 x2 x3 x4 (h2.2 x0 6) x4 x2 (99 : Int32)
  else
    f_X7_setBounds_101 k49 h2 x0 x1 x2 x3 x4 (h2.2 x0 6) x4 x2 ((99 : Int32) + x3)
def f_X7_setBounds_49 : Nat → Hp → Nat → Int32 → Int32 → Int32 → Int32 → Option (Unit × Hp)
  | 0 => fun _ _ _ _ _ _ => none
  | fu + 1 => fun h x0 x1 x2 x3 x4 =>
    if (h.1 x0 9) < x4 then
      some ((), h)
    else
      gd (kd (h.2 x0 5) = 13) <|
      if x1 = 0 then
        f_X7_setBounds_80 (f_X7_setBounds_49 fu) h x0 x1 x2 x3 x4 (h.2 x0 5) x4 (0 : Int32)
      else
        f_X7_setBounds_80 (f_X7_setBounds_49 fu) h x0 x1 x2 x3 x4 (h.2 x0 5) x4 (if (-x2) < ((1 : Int32) - x3) then ((1 : Int32) - x3) else (-x2))
def f_X7_setBounds_21 : Nat → Hp → Nat → Int32 → Int32 → Int32 → Int32 → Option (Unit × Hp)
  | 0 => fun _ _ _ _ _ _ => none
  | fu + 1 => fun h x0 x1 x2 x3 x4 =>
    if (h.1 x0 9) ≤ x4 then
      f_X7_setBounds_49 FU h x0 x1 x2 x3 (0 : Int32)
    else
      gd (kd (h.2 x0 7) = 13) <|
      gd (inr x4 (ln (h.2 x0 7)) = true) <|
      f_X7_setBounds_21 fu h x0 x1 (x2 + (h.1 (h.2 x0 7) x4.toNatClampNeg)) x3 (x4 + (1 : Int32))
def f_X7_setBounds_13 (h : Hp) (x0 : Nat) (t0 : Int32) : Option (Unit × Hp) :=
  f_X7_setBounds_21 FU h x0 t0 (0 : Int32) (0 : Int32) (0 : Int32)
def f_X7_setBounds (h : Hp) (x0 : Nat) : Option (Unit × Hp) :=
  gd (kd x0 = 7) <|
  if (h.1 x0 11) < (2 : Int32) then
    f_X7_setBounds_13 h x0 (0 : Int32)
  else
    f_X7_setBounds_13 h x0 (1 : Int32)
def f_X7_spread_63 : Nat → Hp → Nat → Int32 → Int32 → Int32 → Int32 → Int32 → Option (Unit × Hp)
  | 0 => fun _ _ _ _ _ _ _ => none
  | fu + 1 => fun h x0 x3 x4 x5 x6 x7 =>
    if x4 < x7 then
      some ((), h)
    else
      gd (kd (h.2 x0 4) = 13) <|
      gd (inr (x6 + x7) (ln (h.2 x0 4)) = true) <|
      gd (kd (h.2 x0 4) = 13) <|
      gd (inr (x5 + x7) (ln (h.2 x0 4)) = true) <|
      if (h.1 (h.2 x0 4) (x5 + x7).toNatClampNeg) ≤ ((h.1 (h.2 x0 4) (x6 + x7).toNatClampNeg) + x3) then
        f_X7_spread_63 fu h x0 x3 x4 x5 x6 (x7 + (1 : Int32))
      else
        gd (kd (h.2 x0 4) = 13) <|
        gd (inr (x5 + x7) (ln (h.2 x0 4)) = true) <|
        lt ((si h (h.2 x0 4) (x5 + x7).toNatClampNeg ((h.1 (h.2 x0 4) (x6 + x7).toNatClampNeg) + x3))) <| fun h7 =>
        f_X7_spread_63 fu h7 x0 x3 x4 x5 x6 (x7 + (1 : Int32))
def f_X7_spread (h : Hp) (x0 : Nat) (x1 : Int32) (x2 : Int32) (x3 : Int32) : Option (Unit × Hp) :=
  gd (kd x0 = 7) <|
  gd (kd (h.2 x0 6) = 13) <|
  gd (inr x1 (ln (h.2 x0 6)) = true) <|
  gd (kd (h.2 x0 6) = 13) <|
  gd (inr (x1 + (1 : Int32)) (ln (h.2 x0 6)) = true) <|
  gd (kd (h.2 x0 5) = 13) <|
  gd (inr x1 (ln (h.2 x0 5)) = true) <|
  gd (kd (h.2 x0 5) = 13) <|
  gd (inr (x1 + (1 : Int32)) (ln (h.2 x0 5)) = true) <|
  f_X7_spread_63 FU h x0 x3 (if ((h.1 (h.2 x0 6) (x1 + (1 : Int32)).toNatClampNeg) + x2) < (h.1 (h.2 x0 6) x1.toNatClampNeg) then ((h.1 (h.2 x0 6) (x1 + (1 : Int32)).toNatClampNeg) + x2) else (h.1 (h.2 x0 6) x1.toNatClampNeg)) ((x1 * (601 : Int32)) + (300 : Int32)) ((((x1 * (601 : Int32)) + (300 : Int32)) + (601 : Int32)) - x2) (if (h.1 (h.2 x0 5) x1.toNatClampNeg) < ((h.1 (h.2 x0 5) (x1 + (1 : Int32)).toNatClampNeg) + x2) then ((h.1 (h.2 x0 5) (x1 + (1 : Int32)).toNatClampNeg) + x2) else (h.1 (h.2 x0 5) x1.toNatClampNeg))
def f_X7_weight (h : Hp) (x0 : Nat) (x1 : Int32) (x2 : Int32) : Option (Int32 × Hp) :=
  gd (kd x0 = 7) <|
  gd (kd (h.2 x0 8) = 13) <|
  gd (inr ((x2 * (25 : Int32)) + x1) (ln (h.2 x0 8)) = true) <|
  some (((1000 : Int32) + (h.1 (h.2 x0 8) ((x2 * (25 : Int32)) + x1).toNatClampNeg)), h)
def f_X7_build_126 (k60 : Hp → Nat → Int32 → Int32 → Option (Unit × Hp)) : Nat → Hp → Nat → Int32 → Int32 → Int32 → Int32 → Option (Unit × Hp)
  | 0 => fun _ _ _ _ _ _ => none
  | fu + 1 => fun h x0 x2 x3 x4 x5 =>
    bd (f_X11_lastUse h x2) <| fun r1 h2 =>
    if r1 < x5 then
      k60 h2 x0 x2 (x3 + (-1 : Int32))
    else
      bd (f_X11_canStand h2 x4 x5) <| fun r4 h5 =>
      if r4 = 0 then
        f_X7_build_126 k60 fu h5 x0 x2 x3 x4 (x5 + (1 : Int32))
      else
        bd (f_X11_countsAs h5 x4 x5) <| fun r7 h8 =>
        bd (f_X7_weight h8 x0 x4 x5) <| fun r10 h11 =>
        bd (f_X7_spread h11 x0 x3 r7 r10) <| fun r13 h14 =>
        f_X7_build_126 k60 fu h14 x0 x2 x3 x4 (x5 + (1 : Int32))
def f_X7_build_72 (k60 : Hp → Nat → Int32 → Int32 → Option (Unit × Hp)) : Nat → Hp → Nat → Int32 → Int32 → Int32 → Option (Unit × Hp)
  | 0 => fun _ _ _ _ _ => none
  | fu + 1 => fun h x0 x2 x3 x4 =>
    gd (kd (h.2 x0 6) = 13) <|
    gd (inr x3 (ln (h.2 x0 6)) = true) <|
    if (h.1 (h.2 x0 6) x3.toNatClampNeg) < x4 then
      bd (f_X7_spread h x0 x3 (0 : Int32) (0 : Int32)) <| fun r3 h4 =>
      gd (kd (h4.2 x0 7) = 13) <|
      gd (inr x3 (ln (h4.2 x0 7)) = true) <|
      f_X7_build_126 k60 FU h4 x0 x2 x3 (h4.1 (h4.2 x0 7) x3.toNatClampNeg) (1 : Int32)
    else
      gd (kd (h.2 x0 4) = 13) <|
      gd (inr (((x3 * (601 : Int32)) + (300 : Int32)) + x4) (ln (h.2 x0 4)) = true) <|
      lt ((si h (h.2 x0 4) (((x3 * (601 : Int32)) + (300 : Int32)) + x4).toNatClampNeg (1000000 : Int32))) <| fun h10 =>
      f_X7_build_72 k60 fu h10 x0 x2 x3 (x4 + (1 : Int32))
def f_X7_build_60 : Nat → Hp → Nat → Int32 → Int32 → Option (Unit × Hp)
  | 0 => fun _ _ _ _ => none
  | fu + 1 => fun h x0 x2 x3 =>
    if x3 < 0 then
      some ((), h)
    else
      gd (kd (h.2 x0 5) = 13) <|
      gd (inr x3 (ln (h.2 x0 5)) = true) <|
      f_X7_build_72 (f_X7_build_60 fu) FU h x0 x2 x3 (h.1 (h.2 x0 5) x3.toNatClampNeg)
def f_X7_build_17 (h : Hp) (x0 : Nat) (x1 : Int32) (x2 : Int32) : Option (Unit × Hp) :=
  lt ((si h x0 11 x2)) <| fun h1 =>
  lt ((si h1 x0 10 x1)) <| fun h3 =>
  bd (f_X7_listNumbers h3 x0) <| fun r5 h6 =>
  bd (f_X7_setBounds h6 x0) <| fun r8 h9 =>
  gd (kd (h9.2 x0 4) = 13) <|
  gd (inr (((h9.1 x0 9) * (601 : Int32)) + (300 : Int32)) (ln (h9.2 x0 4)) = true) <|
  lt ((si h9 (h9.2 x0 4) (((h9.1 x0 9) * (601 : Int32)) + (300 : Int32)).toNatClampNeg (0 : Int32))) <| fun h13 =>
  f_X7_build_60 FU h13 x0 x2 ((h13.1 x0 9) - (1 : Int32))
def f_X7_build (h : Hp) (x0 : Nat) (x1 : Int32) (x2 : Int32) : Option (Unit × Hp) :=
  gd (kd x0 = 7) <|
  if x2 = (h.1 x0 11) then
    if x1 = (h.1 x0 10) then
      some ((), h)
    else
      f_X7_build_17 h x0 x1 x2
  else
    f_X7_build_17 h x0 x1 x2
def f_X7_add_59 (h : Hp) (x0 : Nat) (x1 : Int32) (x2 : Int32) (t0 : Nat) (t1 : Int32) (t2 : Int32) : Option (Unit × Hp) :=
  lt ((si h t0 2 (t1 ||| t2))) <| fun h1 =>
  bd (f_X7_weight h1 x0 x1 x2) <| fun r3 h4 =>
  lt ((si h4 x0 3 ((h1.1 x0 3) + (r3 - (1000 : Int32))))) <| fun h6 =>
  some ((), h6)
def f_X7_add_40 (h : Hp) (x0 : Nat) (x1 : Int32) (x2 : Int32) (x3 : Int32) (t0 : Nat) (t1 : Int32) (t2 : Int32) : Option (Unit × Hp) :=
  lt ((si h t0 1 (t1 ||| t2))) <| fun h1 =>
  if x2 = (3 : Int32) then
    f_X7_add_59 h1 x0 x1 x2 x0 (h1.1 x0 2) x3
  else
    f_X7_add_59 h1 x0 x1 x2 x0 (h1.1 x0 2) (0 : Int32)
def f_X7_add_21 (h : Hp) (x0 : Nat) (x1 : Int32) (x2 : Int32) (x3 : Int32) (t0 : Nat) (t1 : Int32) (t2 : Int32) : Option (Unit × Hp) :=
  lt ((si h t0 0 (t1 ||| t2))) <| fun h1 =>
  if x2 = (2 : Int32) then
    f_X7_add_40 h1 x0 x1 x2 x3 x0 (h1.1 x0 1) x3
  else
    f_X7_add_40 h1 x0 x1 x2 x3 x0 (h1.1 x0 1) (0 : Int32)
def f_X7_add (h : Hp) (x0 : Nat) (x1 : Int32) (x2 : Int32) : Option (Unit × Hp) :=
  gd (kd x0 = 7) <|
  if x2 = (1 : Int32) then
    f_X7_add_21 h x0 x1 x2 ((1 : Int32) <<< ((x1 - (1 : Int32)) &&& 31)) x0 (h.1 x0 0) ((1 : Int32) <<< ((x1 - (1 : Int32)) &&& 31))
  else
    f_X7_add_21 h x0 x1 x2 ((1 : Int32) <<< ((x1 - (1 : Int32)) &&& 31)) x0 (h.1 x0 0) (0 : Int32)
def f_X7_at (h : Hp) (x0 : Nat) (x1 : Int32) (x2 : Int32) : Option (Int32 × Hp) :=
  gd (kd x0 = 7) <|
  gd (kd (h.2 x0 5) = 13) <|
  gd (inr x1 (ln (h.2 x0 5)) = true) <|
  if x2 < (h.1 (h.2 x0 5) x1.toNatClampNeg) then
    some ((1000000 : Int32), h)
  else
    gd (kd (h.2 x0 6) = 13) <|
    gd (inr x1 (ln (h.2 x0 6)) = true) <|
    if x2 ≤ (h.1 (h.2 x0 6) x1.toNatClampNeg) then
      gd (kd (h.2 x0 4) = 13) <|
      gd (inr (((x1 * (601 : Int32)) + (300 : Int32)) + x2) (ln (h.2 x0 4)) = true) <|
      some ((h.1 (h.2 x0 4) (((x1 * (601 : Int32)) + (300 : Int32)) + x2).toNatClampNeg), h)
    else
      some ((1000000 : Int32), h)
def f_X7_firstUse_11 : Nat → Hp → Nat → Int32 → Int32 → Int32 → Int32 → Int32 → Option (Int32 × Hp)
  | 0 => fun _ _ _ _ _ _ _ => none
  | fu + 1 => fun h x0 x1 x2 x3 x4 x5 =>
    bd (f_X11_lastUse h (h.1 x0 11)) <| fun r1 h2 =>
    if r1 < x5 then
      some ((0 : Int32), h2)
    else
      bd (f_X11_canStand h2 x4 x5) <| fun r4 h5 =>
      if r4 = 0 then
        f_X7_firstUse_11 fu h5 x0 x1 x2 x3 x4 (x5 + (1 : Int32))
      else
        bd (f_X11_countsAs h5 x4 x5) <| fun r7 h8 =>
        bd (f_X7_at h8 x0 (x1 + (1 : Int32)) (x2 - r7)) <| fun r10 h11 =>
        bd (f_X7_weight h11 x0 x4 x5) <| fun r13 h14 =>
        if (r10 + r13) = x3 then
          some (x5, h14)
        else
          f_X7_firstUse_11 fu h14 x0 x1 x2 x3 x4 (x5 + (1 : Int32))
def f_X7_firstUse (h : Hp) (x0 : Nat) (x1 : Int32) (x2 : Int32) (x3 : Int32) : Option (Int32 × Hp) :=
  gd (kd x0 = 7) <|
  gd (kd (h.2 x0 7) = 13) <|
  gd (inr x1 (ln (h.2 x0 7)) = true) <|
  f_X7_firstUse_11 FU h x0 x1 x2 x3 (h.1 (h.2 x0 7) x1.toNatClampNeg) (1 : Int32)
def f_X7_pick_90 (k32 : Hp → Nat → Int32 → Int32 → Int32 → Option (Unit × Hp)) (h : Hp) (x0 : Nat) (x2 : Int32) (x4 : Int32) : Option (Unit × Hp) :=
  bd (f_X7_at h x0 (x4 + (1 : Int32)) x2) <| fun r1 h2 =>
  k32 h2 x0 x2 r1 (x4 + (1 : Int32))
def f_X7_pick_32 : Nat → Hp → Nat → Int32 → Int32 → Int32 → Option (Unit × Hp)
  | 0 => fun _ _ _ _ _ => none
  | fu + 1 => fun h x0 x2 x3 x4 =>
    if (h.1 x0 9) ≤ x4 then
      some ((), h)
    else
      if (1000000 : Int32) ≤ x3 then
        some ((), h)
      else
        bd (f_X7_firstUse h x0 x4 x2 x3) <| fun r1 h2 =>
        if r1 = 0 then
          f_X7_pick_90 (f_X7_pick_32 fu) h2 x0 x2 x4
        else
          gd (kd (h2.2 x0 7) = 13) <|
          gd (inr x4 (ln (h2.2 x0 7)) = true) <|
          bd (f_X7_add h2 x0 (h2.1 (h2.2 x0 7) x4.toNatClampNeg) r1) <| fun r6 h7 =>
          gd (kd (h7.2 x0 7) = 13) <|
          gd (inr x4 (ln (h7.2 x0 7)) = true) <|
          bd (f_X11_countsAs h7 (h7.1 (h7.2 x0 7) x4.toNatClampNeg) r1) <| fun r11 h12 =>
          f_X7_pick_90 (f_X7_pick_32 fu) h12 x0 (x2 - r11) x4
def f_X7_pick (h : Hp) (x0 : Nat) (x1 : Int32) : Option (Unit × Hp) :=
  gd (kd x0 = 7) <|
  lt ((si h x0 0 (0 : Int32))) <| fun h1 =>
  lt ((si h1 x0 1 (0 : Int32))) <| fun h3 =>
  lt ((si h3 x0 2 (0 : Int32))) <| fun h5 =>
  lt ((si h5 x0 3 (0 : Int32))) <| fun h7 =>
  bd (f_X7_at h7 x0 (0 : Int32) x1) <| fun r9 h10 =>
  f_X7_pick_32 FU h10 x0 x1 r9 (0 : Int32)
def f_X5_find_143 (h : Hp) (x0 : Nat) (x1 : Int32) (x2 : Int32) (x3 : Int32) (t0 : Nat) (t1 : Int32) : Option (Int32 × Hp) :=
  bd (f_X7_build h t0 t1 x3) <| fun r1 h2 =>
  gd (kd (h2.2 x0 0) = 7) <|
  bd (f_X7_pick h2 (h2.2 x0 0) x2) <| fun r5 h6 =>
  gd (kd (h6.2 x0 1) = 13) <|
  gd (inr (h6.1 x0 8) (ln (h6.2 x0 1)) = true) <|
  lt ((si h6 (h6.2 x0 1) (h6.1 x0 8).toNatClampNeg x1)) <| fun h10 =>
  gd (kd (h10.2 x0 2) = 13) <|
  gd (inr (h10.1 x0 8) (ln (h10.2 x0 2)) = true) <|
  lt ((si h10 (h10.2 x0 2) (h10.1 x0 8).toNatClampNeg x3)) <| fun h14 =>
  gd (kd (h14.2 x0 3) = 13) <|
  gd (kd (h14.2 x0 0) = 7) <|
  gd (inr (h14.1 x0 8) (ln (h14.2 x0 3)) = true) <|
  lt ((si h14 (h14.2 x0 3) (h14.1 x0 8).toNatClampNeg (h14.1 (h14.2 x0 0) 0))) <| fun h19 =>
  gd (kd (h19.2 x0 4) = 13) <|
  gd (kd (h19.2 x0 0) = 7) <|
  gd (inr (h19.1 x0 8) (ln (h19.2 x0 4)) = true) <|
  lt ((si h19 (h19.2 x0 4) (h19.1 x0 8).toNatClampNeg (h19.1 (h19.2 x0 0) 1))) <| fun h24 =>
  gd (kd (h24.2 x0 5) = 13) <|
  gd (kd (h24.2 x0 0) = 7) <|
  gd (inr (h24.1 x0 8) (ln (h24.2 x0 5)) = true) <|
  lt ((si h24 (h24.2 x0 5) (h24.1 x0 8).toNatClampNeg (h24.1 (h24.2 x0 0) 2))) <| fun h29 =>
  gd (kd (h29.2 x0 6) = 13) <|
  gd (kd (h29.2 x0 0) = 7) <|
  gd (inr (h29.1 x0 8) (ln (h29.2 x0 6)) = true) <|
  lt ((si h29 (h29.2 x0 6) (h29.1 x0 8).toNatClampNeg (h29.1 (h29.2 x0 0) 3))) <| fun h34 =>
  bd (f_X5_used h34 x0 (h34.1 x0 8)) <| fun r36 h37 =>
  some (r36, h37)
def f_X5_find_28 : Nat → Hp → Nat → Int32 → Int32 → Int32 → Int32 → Int32 → Option (Int32 × Hp)
  | 0 => fun _ _ _ _ _ _ _ => none
  | fu + 1 => fun h x0 x1 x2 x3 x4 x5 =>
    if (x4 + (8 : Int32)) ≤ x5 then
      gd (kd (h.2 x0 7) = 13) <|
      gd (inr x2 (ln (h.2 x0 7)) = true) <|
      lt ((si h x0 8 (x4 + (h.1 (h.2 x0 7) x2.toNatClampNeg)))) <| fun h3 =>
      gd (kd (h3.2 x0 7) = 13) <|
      gd (kd (h3.2 x0 7) = 13) <|
      gd (inr x2 (ln (h3.2 x0 7)) = true) <|
      gd (inr x2 (ln (h3.2 x0 7)) = true) <|
      lt ((si h3 (h3.2 x0 7) x2.toNatClampNeg (((h3.1 (h3.2 x0 7) x2.toNatClampNeg) + (1 : Int32)) - ((h3.1 (h3.2 x0 7) x2.toNatClampNeg) + (1 : Int32)) / (8 : Int32) * (8 : Int32)))) <| fun h9 =>
      gd (kd (h9.2 x0 0) = 7) <|
      if x3 = 0 then
        bd (f_X5_oneOf h9 x2) <| fun r12 h13 =>
        f_X5_find_143 h13 x0 x1 x2 x3 (h9.2 x0 0) (x1 &&& r12)
      else
        f_X5_find_143 h9 x0 x1 x2 x3 (h9.2 x0 0) x1
    else
      gd (kd (h.2 x0 2) = 13) <|
      gd (inr x5 (ln (h.2 x0 2)) = true) <|
      if (h.1 (h.2 x0 2) x5.toNatClampNeg) = x3 then
        gd (kd (h.2 x0 1) = 13) <|
        gd (inr x5 (ln (h.2 x0 1)) = true) <|
        if (x1 &&& ((h.1 (h.2 x0 1) x5.toNatClampNeg) ^^^ (-1 : Int32))) = 0 then
          bd (f_X5_used h x0 x5) <| fun r19 h20 =>
          if (r19 &&& (x1 ^^^ (-1 : Int32))) = 0 then
            lt ((si h20 x0 8 x5)) <| fun h22 =>
            bd (f_X5_used h22 x0 x5) <| fun r24 h25 =>
            some (r24, h25)
          else
            f_X5_find_28 fu h20 x0 x1 x2 x3 x4 (x5 + (1 : Int32))
        else
          f_X5_find_28 fu h x0 x1 x2 x3 x4 (x5 + (1 : Int32))
      else
        f_X5_find_28 fu h x0 x1 x2 x3 x4 (x5 + (1 : Int32))
def f_X5_find (h : Hp) (x0 : Nat) (x1 : Int32) (x2 : Int32) (x3 : Int32) : Option (Int32 × Hp) :=
  gd (kd x0 = 5) <|
  lt ((si h x0 8 (0 : Int32))) <| fun h1 =>
  if x2 < (1 : Int32) then
    some ((0 : Int32), h1)
  else
    if x2 ≤ (99 : Int32) then
      f_X5_find_28 FU h1 x0 x1 x2 x3 (x2 * (8 : Int32)) (x2 * (8 : Int32))
    else
      some ((0 : Int32), h1)
def f_X6_mayUse (h : Hp) (x0 : Nat) (x1 : Int32) (x2 : Int32) : Option (Int32 × Hp) :=
  gd (kd x0 = 6) <|
  if x1 < 0 then
    some ((0 : Int32), h)
  else
    if x1 < (6 : Int32) then
      gd (kd (h.2 x0 6) = 13) <|
      gd (inr x1 (ln (h.2 x0 6)) = true) <|
      some ((((h.1 x0 3) ||| (h.1 (h.2 x0 6) x1.toNatClampNeg)) &&& (x2 ^^^ (-1 : Int32))), h)
    else
      some ((0 : Int32), h)
def f_X1_stuckIn_10 : Nat → Hp → Nat → Nat → Int32 → Int32 → Int32 → Option (Int32 × Hp)
  | 0 => fun _ _ _ _ _ _ => none
  | fu + 1 => fun h x0 x1 x2 x3 x4 =>
    if (6 : Int32) ≤ x4 then
      some (x3, h)
    else
      bd (f_X11_hasBit h (h.1 x1 0) x4) <| fun r1 h2 =>
      if r1 = 0 then
        f_X1_stuckIn_10 fu h2 x0 x1 x2 x3 (x4 + (1 : Int32))
      else
        gd (kd (h2.2 x0 6) = 5) <|
        bd (f_X6_mayUse h2 x1 x4 x2) <| fun r5 h6 =>
        gd (kd (h6.2 x1 5) = 13) <|
        gd (inr x4 (ln (h6.2 x1 5)) = true) <|
        bd (f_X5_find h6 (h2.2 x0 6) r5 (h6.1 (h6.2 x1 5) x4.toNatClampNeg) (h6.1 x1 4)) <| fun r10 h11 =>
        if r10 = 0 then
          f_X1_stuckIn_10 fu h11 x0 x1 (x2 ||| r10) (x3 ||| ((1 : Int32) <<< (x4 &&& 31))) (x4 + (1 : Int32))
        else
          f_X1_stuckIn_10 fu h11 x0 x1 (x2 ||| r10) (x3 ||| (0 : Int32)) (x4 + (1 : Int32))
def f_X1_stuckIn (h : Hp) (x0 : Nat) (x1 : Nat) : Option (Int32 × Hp) :=
  gd (kd x0 = 1) <|
  gd (kd x1 = 6) <|
  f_X1_stuckIn_10 FU h x0 x1 (h.1 x1 2) (0 : Int32) (0 : Int32)
def f_X1_getsWorse (h : Hp) (x0 : Nat) (x1 : Nat) (x2 : Int32) : Option (Int32 × Hp) :=
  gd (kd x0 = 1) <|
  gd (kd x1 = 6) <|
  bd (f_J6_bitCount_0f7a4 h (h.1 x1 0)) <| fun r1 h2 =>
  if (h.1 x0 0) < r1 then
    lt ((si h2 x1 2 x2)) <| fun h4 =>
    bd (f_X1_stuckIn h4 x0 x1) <| fun r6 h7 =>
    bd (f_J6_bitCount_0f7a4 h7 r6) <| fun r9 h10 =>
    if (h10.1 x0 0) < r9 then
      lt ((si h10 x0 0 r9)) <| fun h12 =>
      some ((1 : Int32), h12)
    else
      some ((0 : Int32), h10)
  else
    some ((0 : Int32), h2)
def f_X1_denyOne_13 : Nat → Hp → Nat → Nat → Int32 → Int32 → Option (Int32 × Hp)
  | 0 => fun _ _ _ _ _ => none
  | fu + 1 => fun h x0 x1 x2 x3 =>
    if (24 : Int32) < x3 then
      if (h.1 x0 0) = (-4 : Int32) then
        some ((0 : Int32), h)
      else
        some ((1 : Int32), h)
    else
      if (((1 : Int32) <<< ((x3 - (1 : Int32)) &&& 31)) &&& ((h.1 x1 1) ^^^ (-1 : Int32))) = 0 then
        if (((1 : Int32) <<< ((x3 - (1 : Int32)) &&& 31)) &&& x2) = 0 then
          bd (f_X1_getsWorse h x0 x1 (x2 ||| ((1 : Int32) <<< ((x3 - (1 : Int32)) &&& 31)))) <| fun r1 h2 =>
          if r1 = 0 then
            f_X1_denyOne_13 fu h2 x0 x1 x2 (x3 + (1 : Int32))
          else
            lt ((si h2 x0 1 x3)) <| fun h4 =>
            lt ((si h4 x0 2 x3)) <| fun h6 =>
            f_X1_denyOne_13 fu h6 x0 x1 x2 (x3 + (1 : Int32))
        else
          f_X1_denyOne_13 fu h x0 x1 x2 (x3 + (1 : Int32))
      else
        f_X1_denyOne_13 fu h x0 x1 x2 (x3 + (1 : Int32))
def f_X1_denyOne (h : Hp) (x0 : Nat) (x1 : Nat) : Option (Int32 × Hp) :=
  gd (kd x0 = 1) <|
  gd (kd x1 = 6) <|
  lt ((si h x0 0 (-4 : Int32))) <| fun h1 =>
  f_X1_denyOne_13 FU h1 x0 x1 (h.1 x1 2) (1 : Int32)
def f_X1_denyTwo_24 (k13 : Hp → Nat → Nat → Int32 → Int32 → Option (Int32 × Hp)) : Nat → Hp → Nat → Nat → Int32 → Int32 → Int32 → Option (Int32 × Hp)
  | 0 => fun _ _ _ _ _ _ => none
  | fu + 1 => fun h x0 x1 x2 x3 x4 =>
    if (24 : Int32) < x4 then
      k13 h x0 x1 x2 (x3 + (1 : Int32))
    else
      if ((((1 : Int32) <<< ((x3 - (1 : Int32)) &&& 31)) ||| ((1 : Int32) <<< ((x4 - (1 : Int32)) &&& 31))) &&& ((h.1 x1 1) ^^^ (-1 : Int32))) = 0 then
        if ((((1 : Int32) <<< ((x3 - (1 : Int32)) &&& 31)) ||| ((1 : Int32) <<< ((x4 - (1 : Int32)) &&& 31))) &&& x2) = 0 then
          bd (f_X1_getsWorse h x0 x1 (x2 ||| (((1 : Int32) <<< ((x3 - (1 : Int32)) &&& 31)) ||| ((1 : Int32) <<< ((x4 - (1 : Int32)) &&& 31))))) <| fun r1 h2 =>
          if r1 = 0 then
            f_X1_denyTwo_24 k13 fu h2 x0 x1 x2 x3 (x4 + (1 : Int32))
          else
            lt ((si h2 x0 1 x3)) <| fun h4 =>
            lt ((si h4 x0 2 x4)) <| fun h6 =>
            f_X1_denyTwo_24 k13 fu h6 x0 x1 x2 x3 (x4 + (1 : Int32))
        else
          f_X1_denyTwo_24 k13 fu h x0 x1 x2 x3 (x4 + (1 : Int32))
      else
        f_X1_denyTwo_24 k13 fu h x0 x1 x2 x3 (x4 + (1 : Int32))
def f_X1_denyTwo_13 : Nat → Hp → Nat → Nat → Int32 → Int32 → Option (Int32 × Hp)
  | 0 => fun _ _ _ _ _ => none
  | fu + 1 => fun h x0 x1 x2 x3 =>
    if (24 : Int32) ≤ x3 then
      if (h.1 x0 0) = (-4 : Int32) then
        some ((0 : Int32), h)
      else
        some ((1 : Int32), h)
    else
      f_X1_denyTwo_24 (f_X1_denyTwo_13 fu) FU h x0 x1 x2 x3 (x3 + (1 : Int32))
def f_X1_denyTwo (h : Hp) (x0 : Nat) (x1 : Nat) : Option (Int32 × Hp) :=
  gd (kd x0 = 1) <|
  gd (kd x1 = 6) <|
  lt ((si h x0 0 (-4 : Int32))) <| fun h1 =>
  f_X1_denyTwo_13 FU h1 x0 x1 (h.1 x1 2) (1 : Int32)
def f_X1_cornerBy_74 : Nat → Hp → Nat → Nat → Int32 → Int32 → Option (Int32 × Hp)
  | 0 => fun _ _ _ _ _ => none
  | fu + 1 => fun h x0 x1 x3 x5 =>
    if (99 : Int32) < x5 then
      if (h.1 x0 0) = (-4 : Int32) then
        some ((0 : Int32), h)
      else
        some ((1 : Int32), h)
    else
      gd (kd (h.2 x0 7) = 13) <|
      gd (inr x5 (ln (h.2 x0 7)) = true) <|
      if (h.1 (h.2 x0 7) x5.toNatClampNeg) = 0 then
        f_X1_cornerBy_74 fu h x0 x1 x3 (x5 + (1 : Int32))
      else
        gd (kd (h.2 x0 7) = 13) <|
        gd (inr x5 (ln (h.2 x0 7)) = true) <|
        bd (f_X1_getsWorse h x0 x1 (x3 ||| (h.1 (h.2 x0 7) x5.toNatClampNeg))) <| fun r5 h6 =>
        if r5 = 0 then
          f_X1_cornerBy_74 fu h6 x0 x1 x3 (x5 + (1 : Int32))
        else
          lt ((si h6 x0 3 x5)) <| fun h8 =>
          f_X1_cornerBy_74 fu h8 x0 x1 x3 (x5 + (1 : Int32))
def f_X1_cornerBy_16 : Nat → Hp → Nat → Nat → Int32 → Int32 → Int32 → Int32 → Option (Int32 × Hp)
  | 0 => fun _ _ _ _ _ _ _ => none
  | fu + 1 => fun h x0 x1 x2 x3 x4 x5 =>
    if (99 : Int32) < x5 then
      lt ((si h x1 0 ((h.1 x1 0) &&& (((1 : Int32) <<< (x2 &&& 31)) ^^^ (-1 : Int32))))) <| fun h1 =>
      lt ((si h1 x0 0 (-4 : Int32))) <| fun h3 =>
      f_X1_cornerBy_74 FU h3 x0 x1 x3 (1 : Int32)
    else
      gd (kd (h.2 x0 7) = 13) <|
      gd (kd (h.2 x0 6) = 5) <|
      bd (f_X5_find h (h.2 x0 6) x4 x5 (h.1 x1 4)) <| fun r7 h8 =>
      gd (inr x5 (ln (h.2 x0 7)) = true) <|
      lt ((si h8 (h.2 x0 7) x5.toNatClampNeg r7)) <| fun h11 =>
      f_X1_cornerBy_16 fu h11 x0 x1 x2 x3 x4 (x5 + (1 : Int32))
def f_X1_cornerBy (h : Hp) (x0 : Nat) (x1 : Nat) (x2 : Int32) : Option (Int32 × Hp) :=
  gd (kd x0 = 1) <|
  gd (kd x1 = 6) <|
  bd (f_X6_mayUse h x1 x2 (h.1 x1 2)) <| fun r1 h2 =>
  f_X1_cornerBy_16 FU h2 x0 x1 x2 (h.1 x1 2) r1 (1 : Int32)
def f_X1_ableAt_6 : Nat → Hp → Nat → Nat → Int32 → Int32 → Int32 → Int32 → Int32 → Option (Int32 × Hp)
  | 0 => fun _ _ _ _ _ _ _ _ => none
  | fu + 1 => fun h x0 x1 x2 x3 x4 x5 x6 =>
    if (6 : Int32) ≤ x6 then
      some (x5, h)
    else
      bd (f_X11_hasBit h x4 x6) <| fun r1 h2 =>
      if r1 = 0 then
        f_X1_ableAt_6 fu h2 x0 x1 x2 x3 x4 x5 (x6 + (1 : Int32))
      else
        gd (kd (h2.2 x0 6) = 5) <|
        bd (f_X6_mayUse h2 x1 x6 x3) <| fun r5 h6 =>
        gd (kd (h6.2 x1 5) = 13) <|
        gd (inr x6 (ln (h6.2 x1 5)) = true) <|
        bd (f_X5_find h6 (h2.2 x0 6) r5 (h6.1 (h6.2 x1 5) x6.toNatClampNeg) (h6.1 x1 4)) <| fun r10 h11 =>
        gd (kd (h11.2 x0 9) = 13) <|
        gd (inr ((x2 * (6 : Int32)) + x6) (ln (h11.2 x0 9)) = true) <|
        lt ((si h11 (h11.2 x0 9) ((x2 * (6 : Int32)) + x6).toNatClampNeg r10)) <| fun h15 =>
        if r10 = 0 then
          f_X1_ableAt_6 fu h15 x0 x1 x2 x3 x4 (x5 ||| (0 : Int32)) (x6 + (1 : Int32))
        else
          f_X1_ableAt_6 fu h15 x0 x1 x2 x3 x4 (x5 ||| ((1 : Int32) <<< (x6 &&& 31))) (x6 + (1 : Int32))
def f_X1_ableAt (h : Hp) (x0 : Nat) (x1 : Nat) (x2 : Int32) (x3 : Int32) (x4 : Int32) : Option (Int32 × Hp) :=
  gd (kd x0 = 1) <|
  gd (kd x1 = 6) <|
  f_X1_ableAt_6 FU h x0 x1 x2 x3 x4 (0 : Int32) (0 : Int32)
def f_X1_record_47 : Nat → Hp → Nat → Int32 → Int32 → Int32 → Option (Unit × Hp)
  | 0 => fun _ _ _ _ _ => none
  | fu + 1 => fun h x0 x2 x4 x5 =>
    if (6 : Int32) ≤ x5 then
      some ((), h)
    else
      bd (f_X11_hasBit h x2 x5) <| fun r1 h2 =>
      if r1 = 0 then
        f_X1_record_47 fu h2 x0 x2 x4 (x5 + (1 : Int32))
      else
        if (6 : Int32) ≤ x4 then
          f_X1_record_47 fu h2 x0 x2 x4 (x5 + (1 : Int32))
        else
          gd (kd (h2.2 x0 5) = 13) <|
          gd (inr x4 (ln (h2.2 x0 5)) = true) <|
          lt ((si h2 (h2.2 x0 5) x4.toNatClampNeg x5)) <| fun h6 =>
          f_X1_record_47 fu h6 x0 x2 (x4 + (1 : Int32)) (x5 + (1 : Int32))
def f_X1_record_8 : Nat → Hp → Nat → Int32 → Int32 → Int32 → Option (Unit × Hp)
  | 0 => fun _ _ _ _ _ => none
  | fu + 1 => fun h x0 x1 x2 x4 =>
    if x1 ≤ x4 then
      f_X1_record_47 FU h x0 x2 x1 (0 : Int32)
    else
      if (6 : Int32) ≤ x4 then
        f_X1_record_47 FU h x0 x2 x1 (0 : Int32)
      else
        gd (kd (h.2 x0 5) = 13) <|
        gd (kd (h.2 x0 8) = 13) <|
        gd (inr x4 (ln (h.2 x0 8)) = true) <|
        gd (inr x4 (ln (h.2 x0 5)) = true) <|
        lt ((si h (h.2 x0 5) x4.toNatClampNeg (h.1 (h.2 x0 8) x4.toNatClampNeg))) <| fun h5 =>
        f_X1_record_8 fu h5 x0 x1 x2 (x4 + (1 : Int32))
def f_X1_record (h : Hp) (x0 : Nat) (x1 : Int32) (x2 : Int32) (x3 : Int32) : Option (Unit × Hp) :=
  gd (kd x0 = 1) <|
  lt ((si h x0 4 x3)) <| fun h1 =>
  f_X1_record_8 FU h1 x0 x1 x2 (0 : Int32)
def f_X1_search_55 (rec : Hp → Nat → Nat → Int32 → Int32 → Int32 → Int32 → Option (Unit × Hp)) : Nat → Hp → Nat → Nat → Int32 → Int32 → Int32 → Int32 → Int32 → Int32 → Option (Unit × Hp)
  | 0 => fun _ _ _ _ _ _ _ _ _ => none
  | fu + 1 => fun h x0 x1 x2 x3 x4 x5 x6 x7 =>
    if (6 : Int32) ≤ x7 then
      some ((), h)
    else
      bd (f_X11_hasBit h x4 x7) <| fun r1 h2 =>
      if r1 = 0 then
        f_X1_search_55 rec fu h2 x0 x1 x2 x3 x4 x5 x6 (x7 + (1 : Int32))
      else
        gd (kd (h2.2 x0 8) = 13) <|
        gd (inr x2 (ln (h2.2 x0 8)) = true) <|
        lt ((si h2 (h2.2 x0 8) x2.toNatClampNeg x7)) <| fun h6 =>
        gd (kd (h6.2 x0 9) = 13) <|
        gd (inr ((x2 * (6 : Int32)) + x7) (ln (h6.2 x0 9)) = true) <|
        bd (rec h6 x0 x1 (x2 + (1 : Int32)) (x3 ||| (h6.1 (h6.2 x0 9) ((x2 * (6 : Int32)) + x7).toNatClampNeg)) (x4 &&& (((1 : Int32) <<< (x7 &&& 31)) ^^^ (-1 : Int32))) (x5 + ((x6 >>> (x7 &&& 31)) &&& (1 : Int32)))) <| fun r10 h11 =>
        f_X1_search_55 rec fu h11 x0 x1 x2 x3 x4 x5 x6 (x7 + (1 : Int32))
def f_X1_search_19 (rec : Hp → Nat → Nat → Int32 → Int32 → Int32 → Int32 → Option (Unit × Hp)) (h : Hp) (x0 : Nat) (x1 : Nat) (x2 : Int32) (x3 : Int32) (x4 : Int32) (x5 : Int32) (t0 : Int32) : Option (Unit × Hp) :=
  bd (f_J6_bitCount_0f7a4 h t0) <| fun r1 h2 =>
  if (h2.1 x0 4) < (x5 + r1) then
    if t0 = 0 then
      bd (f_X1_record h2 x0 x2 x4 x5) <| fun r4 h5 =>
      some ((), h5)
    else
      f_X1_search_55 rec FU h2 x0 x1 x2 x3 x4 x5 t0 (0 : Int32)
  else
    some ((), h2)
def f_X1_search_body (rec : Hp → Nat → Nat → Int32 → Int32 → Int32 → Int32 → Option (Unit × Hp)) (h : Hp) (x0 : Nat) (x1 : Nat) (x2 : Int32) (x3 : Int32) (x4 : Int32) (x5 : Int32) : Option (Unit × Hp) :=
  gd (kd x0 = 1) <|
  gd (kd x1 = 6) <|
  if (6 : Int32) ≤ x2 then
    f_X1_search_19 rec h x0 x1 x2 x3 x4 x5 (0 : Int32)
  else
    bd (f_X1_ableAt h x0 x1 x2 x3 x4) <| fun r1 h2 =>
    f_X1_search_19 rec h2 x0 x1 x2 x3 x4 x5 r1
def f_X1_search : Nat → Hp → Nat → Nat → Int32 → Int32 → Int32 → Int32 → Option (Unit × Hp)
  | 0 => fun _ _ _ _ _ _ _ => none
  | dd + 1 => f_X1_search_body (f_X1_search dd)
def f_X1_findOrder (h : Hp) (x0 : Nat) (x1 : Nat) : Option (Unit × Hp) :=
  gd (kd x0 = 1) <|
  gd (kd x1 = 6) <|
  lt ((si h x0 4 (-1 : Int32))) <| fun h1 =>
  bd (f_X1_search 8 h1 x0 x1 (0 : Int32) (h1.1 x1 2) (h1.1 x1 0) (0 : Int32)) <| fun r3 h4 =>
  some ((), h4)
def f_X2_begin_26 : Nat → Hp → Nat → Int32 → Int32 → Option (Unit × Hp)
  | 0 => fun _ _ _ _ => none
  | fu + 1 => fun h x0 x1 x2 =>
    gd (kd (h.2 x0 1) = 13) <|
    if (nI (ln (h.2 x0 1))) ≤ x2 then
      lt ((si h x0 2 (0 : Int32))) <| fun h2 =>
      lt ((si h2 x0 3 (0 : Int32))) <| fun h4 =>
      gd (x1 = 0 ∨ x1 = 1) <|
      lt ((si h4 x0 4 x1)) <| fun h7 =>
      some ((), h7)
    else
      gd (kd (h.2 x0 1) = 13) <|
      gd (inr x2 (ln (h.2 x0 1)) = true) <|
      lt ((si h (h.2 x0 1) x2.toNatClampNeg (0 : Int32))) <| fun h11 =>
      f_X2_begin_26 fu h11 x0 x1 (x2 + (1 : Int32))
def f_X2_begin_2 : Nat → Hp → Nat → Int32 → Int32 → Option (Unit × Hp)
  | 0 => fun _ _ _ _ => none
  | fu + 1 => fun h x0 x1 x2 =>
    gd (kd (h.2 x0 0) = 13) <|
    if (nI (ln (h.2 x0 0))) ≤ x2 then
      f_X2_begin_26 FU h x0 x1 (0 : Int32)
    else
      gd (kd (h.2 x0 0) = 13) <|
      gd (inr x2 (ln (h.2 x0 0)) = true) <|
      lt ((si h (h.2 x0 0) x2.toNatClampNeg (0 : Int32))) <| fun h4 =>
      f_X2_begin_2 fu h4 x0 x1 (x2 + (1 : Int32))
def f_X2_begin (h : Hp) (x0 : Nat) (x1 : Int32) : Option (Unit × Hp) :=
  gd (kd x0 = 2) <|
  f_X2_begin_2 FU h x0 x1 (0 : Int32)
def f_X2_copy (h : Hp) (x0 : Nat) (x1 : Nat) : Option (Unit × Hp) :=
  gd (kd x0 = 2) <|
  gd (kd x1 = 2) <|
  gd (kd (h.2 x1 0) = 13) <|
  gd (kd (h.2 x0 0) = 13) <|
  gd ((8 : Int32).toNatClampNeg ≤ ln (h.2 x1 0)) <|
  gd ((8 : Int32).toNatClampNeg ≤ ln (h.2 x0 0)) <|
  lt ((sc h (h.2 x0 0) (va_cpy (h.1 (h.2 x1 0)) (h.1 (h.2 x0 0)) 0 0 (8 : Int32).toNatClampNeg))) <| fun h5 =>
  gd (kd (h5.2 x1 1) = 13) <|
  gd (kd (h5.2 x0 1) = 13) <|
  gd ((6 : Int32).toNatClampNeg ≤ ln (h5.2 x1 1)) <|
  gd ((6 : Int32).toNatClampNeg ≤ ln (h5.2 x0 1)) <|
  lt ((sc h5 (h5.2 x0 1) (va_cpy (h5.1 (h5.2 x1 1)) (h5.1 (h5.2 x0 1)) 0 0 (6 : Int32).toNatClampNeg))) <| fun h11 =>
  lt ((si h11 x0 2 (h11.1 x1 2))) <| fun h13 =>
  lt ((si h13 x0 3 (h13.1 x1 3))) <| fun h15 =>
  gd ((h15.1 x1 4) = 0 ∨ (h15.1 x1 4) = 1) <|
  lt ((si h15 x0 4 (h15.1 x1 4))) <| fun h18 =>
  some ((), h18)
def f_X2_take (h : Hp) (x0 : Nat) (x1 : Int32) (x2 : Int32) : Option (Unit × Hp) :=
  gd (kd x0 = 2) <|
  if x1 < 0 then
    some ((), h)
  else
    if (6 : Int32) ≤ x1 then
      some ((), h)
    else
      gd (kd (h.2 x0 0) = 13) <|
      gd (inr x1 (ln (h.2 x0 0)) = true) <|
      gd (inr x1 (ln (h.2 x0 0)) = true) <|
      lt ((si h (h.2 x0 0) x1.toNatClampNeg ((h.1 (h.2 x0 0) x1.toNatClampNeg) ||| x2))) <| fun h4 =>
      lt ((si h4 x0 2 ((h4.1 x0 2) ||| ((1 : Int32) <<< (x1 &&& 31))))) <| fun h6 =>
      some ((), h6)
def f_X11_together_10 : Nat → Hp → Int32 → Nat → Int32 → Int32 → Option (Int32 × Hp)
  | 0 => fun _ _ _ _ _ => none
  | fu + 1 => fun h x1 x2 x3 x4 =>
    if x3 ≤ x4 then
      some (x1, h)
    else
      gd (inr x4 (ln x2) = true) <|
      f_X11_together_10 fu h (x1 ||| (h.1 x2 x4.toNatClampNeg)) x2 x3 (x4 + (1 : Int32))
def f_X11_together (h : Hp) (x0 : Nat) : Option (Int32 × Hp) :=
  gd (kd x0 = 13) <|
  f_X11_together_10 FU h (0 : Int32) x0 (nI (ln x0)) (0 : Int32)
def f_X2_taken (h : Hp) (x0 : Nat) : Option (Int32 × Hp) :=
  gd (kd x0 = 2) <|
  gd (kd (h.2 x0 0) = 13) <|
  bd (f_X11_together h (h.2 x0 0)) <| fun r2 h3 =>
  some (r2, h3)
def f_X2_lent (h : Hp) (x0 : Nat) : Option (Int32 × Hp) :=
  gd (kd x0 = 2) <|
  gd (kd (h.2 x0 1) = 13) <|
  bd (f_X11_together h (h.2 x0 1)) <| fun r2 h3 =>
  some (r2, h3)
def f_X3_dropOldest_9 : Nat → Hp → Nat → Nat → Int32 → Option (Unit × Hp)
  | 0 => fun _ _ _ _ => none
  | fu + 1 => fun h x0 x1 x2 =>
    gd (kd (h.2 x0 1) = 15) <|
    if (nI (ln (h.2 x0 1))) ≤ x2 then
      gd (kd (h.2 x0 1) = 15) <|
      gd (kd (h.2 x0 1) = 15) <|
      gd (inr ((nI (ln (h.2 x0 1))) - (1 : Int32)) (ln (h.2 x0 1)) = true) <|
      lt ((sr h (h.2 x0 1) ((nI (ln (h.2 x0 1))) - (1 : Int32)).toNatClampNeg x1)) <| fun h5 =>
      gd (kd (h5.2 x0 1) = 15) <|
      lt ((si h5 x0 0 ((nI (ln (h5.2 x0 1))) - (1 : Int32)))) <| fun h8 =>
      some ((), h8)
    else
      gd (kd (h.2 x0 1) = 15) <|
      gd (kd (h.2 x0 1) = 15) <|
      gd (inr x2 (ln (h.2 x0 1)) = true) <|
      gd (kd (h.2 (h.2 x0 1) x2.toNatClampNeg) = 2) <|
      gd (inr (x2 - (1 : Int32)) (ln (h.2 x0 1)) = true) <|
      lt ((sr h (h.2 x0 1) (x2 - (1 : Int32)).toNatClampNeg (h.2 (h.2 x0 1) x2.toNatClampNeg))) <| fun h15 =>
      f_X3_dropOldest_9 fu h15 x0 x1 (x2 + (1 : Int32))
def f_X3_dropOldest (h : Hp) (x0 : Nat) : Option (Unit × Hp) :=
  gd (kd x0 = 3) <|
  gd (kd (h.2 x0 1) = 15) <|
  gd (inr (0 : Int32) (ln (h.2 x0 1)) = true) <|
  gd (kd (h.2 (h.2 x0 1) (0 : Int32).toNatClampNeg) = 2) <|
  f_X3_dropOldest_9 FU h x0 (h.2 (h.2 x0 1) (0 : Int32).toNatClampNeg) (1 : Int32)
def f_X3_push_16 (h : Hp) (x0 : Nat) (x1 : Nat) : Option (Unit × Hp) :=
  gd (kd (h.2 x0 1) = 15) <|
  gd (inr (h.1 x0 0) (ln (h.2 x0 1)) = true) <|
  gd (kd (h.2 (h.2 x0 1) (h.1 x0 0).toNatClampNeg) = 2) <|
  bd (f_X2_copy h (h.2 (h.2 x0 1) (h.1 x0 0).toNatClampNeg) x1) <| fun r4 h5 =>
  lt ((si h5 x0 0 ((h5.1 x0 0) + (1 : Int32)))) <| fun h7 =>
  some ((), h7)
def f_X3_push (h : Hp) (x0 : Nat) (x1 : Nat) : Option (Unit × Hp) :=
  gd (kd x0 = 3) <|
  gd (kd x1 = 2) <|
  gd (kd (h.2 x0 1) = 15) <|
  if (h.1 x0 0) < (nI (ln (h.2 x0 1))) then
    f_X3_push_16 h x0 x1
  else
    bd (f_X3_dropOldest h x0) <| fun r2 h3 =>
    f_X3_push_16 h3 x0 x1
def f_X3_pop (h : Hp) (x0 : Nat) (x1 : Nat) : Option (Int32 × Hp) :=
  gd (kd x0 = 3) <|
  gd (kd x1 = 2) <|
  if 0 < (h.1 x0 0) then
    lt ((si h x0 0 ((h.1 x0 0) - (1 : Int32)))) <| fun h1 =>
    gd (kd (h1.2 x0 1) = 15) <|
    gd (inr (h1.1 x0 0) (ln (h1.2 x0 1)) = true) <|
    gd (kd (h1.2 (h1.2 x0 1) (h1.1 x0 0).toNatClampNeg) = 2) <|
    bd (f_X2_copy h1 x1 (h1.2 (h1.2 x0 1) (h1.1 x0 0).toNatClampNeg)) <| fun r6 h7 =>
    some ((1 : Int32), h7)
  else
    some ((0 : Int32), h)
def f_X4_setLaw (h : Hp) (x0 : Nat) (x1 : Int32) (x2 : Int32) (x3 : Int32) : Option (Int32 × Hp) :=
  gd (kd x0 = 4) <|
  if (3 : Int32) < x1 then
    some ((0 : Int32), h)
  else
    if (9 : Int32) < x2 then
      some ((0 : Int32), h)
    else
      if x3 ≤ (9 : Int32) then
        lt ((si h x0 2 x1)) <| fun h1 =>
        lt ((si h1 x0 3 x2)) <| fun h3 =>
        lt ((si h3 x0 4 x3)) <| fun h5 =>
        some ((1 : Int32), h5)
      else
        some ((0 : Int32), h)
def f_X4_clear_42 : Nat → Hp → Nat → Int32 → Option (Unit × Hp)
  | 0 => fun _ _ _ => none
  | fu + 1 => fun h x0 x1 =>
    if (6 : Int32) ≤ x1 then
      some ((), h)
    else
      gd (kd (h.2 x0 6) = 13) <|
      gd (inr x1 (ln (h.2 x0 6)) = true) <|
      lt ((si h (h.2 x0 6) x1.toNatClampNeg (0 : Int32))) <| fun h3 =>
      gd (kd (h3.2 x0 7) = 13) <|
      gd (inr x1 (ln (h3.2 x0 7)) = true) <|
      lt ((si h3 (h3.2 x0 7) x1.toNatClampNeg (0 : Int32))) <| fun h7 =>
      f_X4_clear_42 fu h7 x0 (x1 + (1 : Int32))
def f_X4_clear_21 : Nat → Hp → Nat → Int32 → Option (Unit × Hp)
  | 0 => fun _ _ _ => none
  | fu + 1 => fun h x0 x1 =>
    if (24 : Int32) < x1 then
      f_X4_clear_42 FU h x0 (0 : Int32)
    else
      gd (kd (h.2 x0 5) = 13) <|
      gd (inr x1 (ln (h.2 x0 5)) = true) <|
      lt ((si h (h.2 x0 5) x1.toNatClampNeg (1 : Int32))) <| fun h3 =>
      f_X4_clear_21 fu h3 x0 (x1 + (1 : Int32))
def f_X4_clear (h : Hp) (x0 : Nat) : Option (Unit × Hp) :=
  gd (kd x0 = 4) <|
  lt ((si h x0 0 (12 : Int32))) <| fun h1 =>
  lt ((si h1 x0 1 (0 : Int32))) <| fun h3 =>
  bd (f_X4_setLaw h3 x0 (1 : Int32) (1 : Int32) (2 : Int32)) <| fun r5 h6 =>
  f_X4_clear_21 FU h6 x0 (0 : Int32)
def f_X4_isNumber (h : Hp) (x0 : Nat) (x1 : Int32) : Option (Int32 × Hp) :=
  gd (kd x0 = 4) <|
  if x1 < (1 : Int32) then
    some ((0 : Int32), h)
  else
    if (h.1 x0 0) < x1 then
      some ((0 : Int32), h)
    else
      some ((1 : Int32), h)
def f_X4_isPerson (h : Hp) (x0 : Nat) (x1 : Int32) : Option (Int32 × Hp) :=
  gd (kd x0 = 4) <|
  if x1 < 0 then
    some ((0 : Int32), h)
  else
    if (h.1 x0 1) ≤ x1 then
      some ((0 : Int32), h)
    else
      some ((1 : Int32), h)
def f_X4_all (h : Hp) (x0 : Nat) : Option (Int32 × Hp) :=
  gd (kd x0 = 4) <|
  some ((((1 : Int32) <<< ((h.1 x0 0) &&& 31)) - (1 : Int32)), h)
def f_X4_isSet (h : Hp) (x0 : Nat) (x1 : Int32) : Option (Int32 × Hp) :=
  gd (kd x0 = 4) <|
  if x1 = 0 then
    some ((0 : Int32), h)
  else
    bd (f_X4_all h x0) <| fun r1 h2 =>
    if (x1 &&& (r1 ^^^ (-1 : Int32))) = 0 then
      some ((1 : Int32), h2)
    else
      some ((0 : Int32), h2)
def f_X4_price (h : Hp) (x0 : Nat) (x1 : Int32) (x2 : Int32) : Option (Int32 × Hp) :=
  gd (kd x0 = 4) <|
  bd (f_X4_isNumber h x0 x1) <| fun r1 h2 =>
  if r1 = 0 then
    some ((0 : Int32), h2)
  else
    gd (kd (h2.2 x0 5) = 13) <|
    gd (inr x1 (ln (h2.2 x0 5)) = true) <|
    if x2 = (2 : Int32) then
      some (((h2.1 (h2.2 x0 5) x1.toNatClampNeg) + (h2.1 x0 3)), h2)
    else
      if x2 = (3 : Int32) then
        some (((h2.1 (h2.2 x0 5) x1.toNatClampNeg) + (h2.1 x0 4)), h2)
      else
        some (((h2.1 (h2.2 x0 5) x1.toNatClampNeg) + (0 : Int32)), h2)
def f_X4_setNumbers (h : Hp) (x0 : Nat) (x1 : Int32) : Option (Int32 × Hp) :=
  gd (kd x0 = 4) <|
  if x1 < (1 : Int32) then
    some ((0 : Int32), h)
  else
    if x1 ≤ (24 : Int32) then
      lt ((si h x0 0 x1)) <| fun h1 =>
      some ((1 : Int32), h1)
    else
      some ((0 : Int32), h)
def f_X4_setCost (h : Hp) (x0 : Nat) (x1 : Int32) (x2 : Int32) : Option (Int32 × Hp) :=
  gd (kd x0 = 4) <|
  bd (f_X4_isNumber h x0 x1) <| fun r1 h2 =>
  if r1 = 0 then
    some ((0 : Int32), h2)
  else
    if x2 ≤ (9 : Int32) then
      gd (kd (h2.2 x0 5) = 13) <|
      gd (inr x1 (ln (h2.2 x0 5)) = true) <|
      lt ((si h2 (h2.2 x0 5) x1.toNatClampNeg x2)) <| fun h6 =>
      some ((1 : Int32), h6)
    else
      some ((0 : Int32), h2)
def f_X4_addPerson (h : Hp) (x0 : Nat) (x1 : Int32) : Option (Int32 × Hp) :=
  gd (kd x0 = 4) <|
  if (6 : Int32) ≤ (h.1 x0 1) then
    some ((0 : Int32), h)
  else
    if x1 < (1 : Int32) then
      some ((0 : Int32), h)
    else
      if x1 ≤ (99 : Int32) then
        gd (kd (h.2 x0 7) = 13) <|
        gd (inr (h.1 x0 1) (ln (h.2 x0 7)) = true) <|
        lt ((si h (h.2 x0 7) (h.1 x0 1).toNatClampNeg x1)) <| fun h3 =>
        lt ((si h3 x0 1 ((h3.1 x0 1) + (1 : Int32)))) <| fun h5 =>
        some ((1 : Int32), h5)
      else
        some ((0 : Int32), h)
def f_X4_setOwner_27 : Nat → Hp → Nat → Int32 → Int32 → Int32 → Option (Int32 × Hp)
  | 0 => fun _ _ _ _ _ => none
  | fu + 1 => fun h x0 x2 x3 x4 =>
    if (6 : Int32) ≤ x4 then
      gd (kd (h.2 x0 6) = 13) <|
      gd (inr x2 (ln (h.2 x0 6)) = true) <|
      gd (inr x2 (ln (h.2 x0 6)) = true) <|
      lt ((si h (h.2 x0 6) x2.toNatClampNeg ((h.1 (h.2 x0 6) x2.toNatClampNeg) ||| x3))) <| fun h4 =>
      some ((1 : Int32), h4)
    else
      gd (kd (h.2 x0 6) = 13) <|
      gd (inr x4 (ln (h.2 x0 6)) = true) <|
      gd (inr x4 (ln (h.2 x0 6)) = true) <|
      lt ((si h (h.2 x0 6) x4.toNatClampNeg ((h.1 (h.2 x0 6) x4.toNatClampNeg) &&& (x3 ^^^ (-1 : Int32))))) <| fun h9 =>
      f_X4_setOwner_27 fu h9 x0 x2 x3 (x4 + (1 : Int32))
def f_X4_setOwner (h : Hp) (x0 : Nat) (x1 : Int32) (x2 : Int32) : Option (Int32 × Hp) :=
  gd (kd x0 = 4) <|
  bd (f_X4_isNumber h x0 x1) <| fun r1 h2 =>
  if r1 = 0 then
    some ((0 : Int32), h2)
  else
    bd (f_X4_isPerson h2 x0 x2) <| fun r4 h5 =>
    if r4 = 0 then
      some ((0 : Int32), h5)
    else
      f_X4_setOwner_27 FU h5 x0 x2 ((1 : Int32) <<< ((x1 - (1 : Int32)) &&& 31)) (0 : Int32)
def f_X7_setPort_15 (k8 : Hp → Nat → Nat → Int32 → Option (Unit × Hp)) : Nat → Hp → Nat → Nat → Int32 → Int32 → Option (Unit × Hp)
  | 0 => fun _ _ _ _ _ => none
  | fu + 1 => fun h x0 x1 x2 x3 =>
    if (24 : Int32) < x3 then
      k8 h x0 x1 (x2 + (1 : Int32))
    else
      gd (kd (h.2 x0 8) = 13) <|
      bd (f_X4_price h x1 x3 x2) <| fun r2 h3 =>
      gd (inr ((x2 * (25 : Int32)) + x3) (ln (h.2 x0 8)) = true) <|
      lt ((si h3 (h.2 x0 8) ((x2 * (25 : Int32)) + x3).toNatClampNeg r2)) <| fun h6 =>
      f_X7_setPort_15 k8 fu h6 x0 x1 x2 (x3 + (1 : Int32))
def f_X7_setPort_8 : Nat → Hp → Nat → Nat → Int32 → Option (Unit × Hp)
  | 0 => fun _ _ _ _ => none
  | fu + 1 => fun h x0 x1 x2 =>
    if (3 : Int32) < x2 then
      some ((), h)
    else
      f_X7_setPort_15 (f_X7_setPort_8 fu) FU h x0 x1 x2 (1 : Int32)
def f_X7_setPort (h : Hp) (x0 : Nat) (x1 : Nat) : Option (Unit × Hp) :=
  gd (kd x0 = 7) <|
  gd (kd x1 = 4) <|
  lt ((si h x0 11 (-4 : Int32))) <| fun h1 =>
  f_X7_setPort_8 FU h1 x0 x1 (1 : Int32)
def f_X5_forget_10 : Nat → Hp → Nat → Int32 → Option (Unit × Hp)
  | 0 => fun _ _ _ => none
  | fu + 1 => fun h x0 x2 =>
    if (800 : Int32) ≤ x2 then
      some ((), h)
    else
      gd (kd (h.2 x0 2) = 13) <|
      gd (inr x2 (ln (h.2 x0 2)) = true) <|
      lt ((si h (h.2 x0 2) x2.toNatClampNeg (-4 : Int32))) <| fun h3 =>
      f_X5_forget_10 fu h3 x0 (x2 + (1 : Int32))
def f_X5_forget (h : Hp) (x0 : Nat) (x1 : Nat) : Option (Unit × Hp) :=
  gd (kd x0 = 5) <|
  gd (kd x1 = 4) <|
  gd (kd (h.2 x0 0) = 7) <|
  bd (f_X7_setPort h (h.2 x0 0) x1) <| fun r2 h3 =>
  f_X5_forget_10 FU h3 x0 (0 : Int32)
def f_X5_price (h : Hp) (x0 : Nat) : Option (Int32 × Hp) :=
  gd (kd x0 = 5) <|
  gd (kd (h.2 x0 6) = 13) <|
  gd (inr (h.1 x0 8) (ln (h.2 x0 6)) = true) <|
  some ((h.1 (h.2 x0 6) (h.1 x0 8).toNatClampNeg), h)
def f_X5_inUse (h : Hp) (x0 : Nat) (x1 : Int32) : Option (Int32 × Hp) :=
  gd (kd x0 = 5) <|
  if x1 = (1 : Int32) then
    gd (kd (h.2 x0 3) = 13) <|
    gd (inr (h.1 x0 8) (ln (h.2 x0 3)) = true) <|
    some ((h.1 (h.2 x0 3) (h.1 x0 8).toNatClampNeg), h)
  else
    if x1 = (2 : Int32) then
      gd (kd (h.2 x0 4) = 13) <|
      gd (inr (h.1 x0 8) (ln (h.2 x0 4)) = true) <|
      some ((h.1 (h.2 x0 4) (h.1 x0 8).toNatClampNeg), h)
    else
      gd (kd (h.2 x0 5) = 13) <|
      gd (inr (h.1 x0 8) (ln (h.2 x0 5)) = true) <|
      some ((h.1 (h.2 x0 5) (h.1 x0 8).toNatClampNeg), h)
def f_X6_setFree_53 : Nat → Hp → Nat → Nat → Int32 → Option (Unit × Hp)
  | 0 => fun _ _ _ _ => none
  | fu + 1 => fun h x0 x1 x2 =>
    if (6 : Int32) ≤ x2 then
      some ((), h)
    else
      gd (kd (h.2 x0 6) = 13) <|
      gd (kd (h.2 x1 6) = 13) <|
      gd (inr x2 (ln (h.2 x1 6)) = true) <|
      gd (inr x2 (ln (h.2 x0 6)) = true) <|
      lt ((si h (h.2 x0 6) x2.toNatClampNeg (h.1 (h.2 x1 6) x2.toNatClampNeg))) <| fun h5 =>
      f_X6_setFree_53 fu h5 x0 x1 (x2 + (1 : Int32))
def f_X6_setFree (h : Hp) (x0 : Nat) (x1 : Nat) : Option (Unit × Hp) :=
  gd (kd x0 = 6) <|
  gd (kd x1 = 4) <|
  lt ((si h x0 0 (((1 : Int32) <<< ((h.1 x1 1) &&& 31)) - (1 : Int32)))) <| fun h1 =>
  bd (f_X4_all h1 x1) <| fun r3 h4 =>
  lt ((si h4 x0 1 r3)) <| fun h6 =>
  lt ((si h6 x0 2 (0 : Int32))) <| fun h8 =>
  gd (kd (h8.2 x1 6) = 13) <|
  bd (f_X11_together h8 (h8.2 x1 6)) <| fun r11 h12 =>
  lt ((si h12 x0 3 ((h8.1 x0 1) &&& (r11 ^^^ (-1 : Int32))))) <| fun h14 =>
  lt ((si h14 x0 4 (h14.1 x1 2))) <| fun h16 =>
  f_X6_setFree_53 FU h16 x0 x1 (0 : Int32)
def f_X6_setNow_30 : Nat → Hp → Nat → Nat → Nat → Int32 → Option (Unit × Hp)
  | 0 => fun _ _ _ _ _ => none
  | fu + 1 => fun h x0 x1 x2 x3 =>
    if (6 : Int32) ≤ x3 then
      some ((), h)
    else
      gd (kd (h.2 x0 6) = 13) <|
      gd (inr x3 (ln (h.2 x0 6)) = true) <|
      gd (kd (h.2 x2 1) = 13) <|
      gd (inr x3 (ln (h.2 x2 1)) = true) <|
      gd (inr x3 (ln (h.2 x0 6)) = true) <|
      lt ((si h (h.2 x0 6) x3.toNatClampNeg ((h.1 (h.2 x0 6) x3.toNatClampNeg) ||| (h.1 (h.2 x2 1) x3.toNatClampNeg)))) <| fun h6 =>
      gd (kd (h6.2 x0 5) = 13) <|
      gd (kd (h6.2 x1 7) = 13) <|
      gd (inr x3 (ln (h6.2 x1 7)) = true) <|
      gd (inr x3 (ln (h6.2 x0 5)) = true) <|
      lt ((si h6 (h6.2 x0 5) x3.toNatClampNeg (h6.1 (h6.2 x1 7) x3.toNatClampNeg))) <| fun h12 =>
      f_X6_setNow_30 fu h12 x0 x1 x2 (x3 + (1 : Int32))
def f_X6_setNow (h : Hp) (x0 : Nat) (x1 : Nat) (x2 : Nat) : Option (Unit × Hp) :=
  gd (kd x0 = 6) <|
  gd (kd x1 = 4) <|
  gd (kd x2 = 2) <|
  bd (f_X6_setFree h x0 x1) <| fun r1 h2 =>
  lt ((si h2 x0 0 ((h2.1 x0 0) &&& ((h2.1 x2 2) ^^^ (-1 : Int32))))) <| fun h4 =>
  bd (f_X2_taken h4 x2) <| fun r6 h7 =>
  lt ((si h7 x0 2 r6)) <| fun h9 =>
  f_X6_setNow_30 FU h9 x0 x1 x2 (0 : Int32)
def f_X6_setDrawn_8 : Nat → Hp → Nat → Int32 → Int32 → Int32 → Option (Unit × Hp)
  | 0 => fun _ _ _ _ _ => none
  | fu + 1 => fun h x0 x2 x3 x4 =>
    if (6 : Int32) ≤ x4 then
      some ((), h)
    else
      gd (kd (h.2 x0 5) = 13) <|
      gd (inr x4 (ln (h.2 x0 5)) = true) <|
      lt ((si h (h.2 x0 5) x4.toNatClampNeg (((((((((7919 : Int64) * x2.toInt64) + ((6151 : Int64) * x3.toInt64)) + ((101 : Int64) * x4.toInt64)) + (1 : Int64)) * (((((7919 : Int64) * x2.toInt64) + ((6151 : Int64) * x3.toInt64)) + ((101 : Int64) * x4.toInt64)) + (1 : Int64))) - ((((((7919 : Int64) * x2.toInt64) + ((6151 : Int64) * x3.toInt64)) + ((101 : Int64) * x4.toInt64)) + (1 : Int64)) * (((((7919 : Int64) * x2.toInt64) + ((6151 : Int64) * x3.toInt64)) + ((101 : Int64) * x4.toInt64)) + (1 : Int64))) / (65521 : Int64) * (65521 : Int64)) - (((((((7919 : Int64) * x2.toInt64) + ((6151 : Int64) * x3.toInt64)) + ((101 : Int64) * x4.toInt64)) + (1 : Int64)) * (((((7919 : Int64) * x2.toInt64) + ((6151 : Int64) * x3.toInt64)) + ((101 : Int64) * x4.toInt64)) + (1 : Int64))) - ((((((7919 : Int64) * x2.toInt64) + ((6151 : Int64) * x3.toInt64)) + ((101 : Int64) * x4.toInt64)) + (1 : Int64)) * (((((7919 : Int64) * x2.toInt64) + ((6151 : Int64) * x3.toInt64)) + ((101 : Int64) * x4.toInt64)) + (1 : Int64))) / (65521 : Int64) * (65521 : Int64)) / (99 : Int64) * (99 : Int64)).toInt32 + (1 : Int32)))) <| fun h3 =>
      f_X6_setDrawn_8 fu h3 x0 x2 x3 (x4 + (1 : Int32))
def f_X6_setDrawn (h : Hp) (x0 : Nat) (x1 : Nat) (x2 : Int32) (x3 : Int32) : Option (Unit × Hp) :=
  gd (kd x0 = 6) <|
  gd (kd x1 = 4) <|
  bd (f_X6_setFree h x0 x1) <| fun r1 h2 =>
  f_X6_setDrawn_8 FU h2 x0 x2 x3 (0 : Int32)
def f_X8_append (h : Hp) (x0 : Nat) (x1 : Int32) : Option (Int32 × Hp) :=
  gd (kd x0 = 8) <|
  if (h.1 x0 0) < (200 : Int32) then
    gd (kd (h.2 x0 1) = 14) <|
    gd (inr (h.1 x0 0) (ln (h.2 x0 1)) = true) <|
    lt ((si h (h.2 x0 1) (h.1 x0 0).toNatClampNeg (vp_nar .char x1))) <| fun h3 =>
    lt ((si h3 x0 0 ((h3.1 x0 0) + (1 : Int32)))) <| fun h5 =>
    some ((1 : Int32), h5)
  else
    some ((0 : Int32), h)
def f_X8_accept (h : Hp) (x0 : Nat) (x1 : Int32) (x2 : Nat) : Option (Int32 × Hp) :=
  gd (kd x0 = 8) <|
  gd (kd x2 = 4) <|
  if x1 = (99 : Int32) then
    gd (kd (h.2 x0 2) = 13) <|
    gd (inr (0 : Int32) (ln (h.2 x0 2)) = true) <|
    gd (kd (h.2 x0 2) = 13) <|
    gd (inr (1 : Int32) (ln (h.2 x0 2)) = true) <|
    bd (f_X4_setCost h x2 (h.1 (h.2 x0 2) (0 : Int32).toNatClampNeg) (h.1 (h.2 x0 2) (1 : Int32).toNatClampNeg)) <| fun r5 h6 =>
    gd (r5 = 0 ∨ r5 = 1) <|
    some (r5, h6)
  else if x1 = (104 : Int32) then
    gd (kd (h.2 x0 2) = 13) <|
    gd (inr (0 : Int32) (ln (h.2 x0 2)) = true) <|
    gd (kd (h.2 x0 2) = 13) <|
    gd (inr (1 : Int32) (ln (h.2 x0 2)) = true) <|
    bd (f_X4_setOwner h x2 (h.1 (h.2 x0 2) (0 : Int32).toNatClampNeg) (h.1 (h.2 x0 2) (1 : Int32).toNatClampNeg)) <| fun r13 h14 =>
    gd (r13 = 0 ∨ r13 = 1) <|
    some (r13, h14)
  else if x1 = (107 : Int32) then
    gd (kd (h.2 x0 2) = 13) <|
    gd (inr (0 : Int32) (ln (h.2 x0 2)) = true) <|
    gd (kd (h.2 x0 2) = 13) <|
    gd (inr (1 : Int32) (ln (h.2 x0 2)) = true) <|
    gd (kd (h.2 x0 2) = 13) <|
    gd (inr (2 : Int32) (ln (h.2 x0 2)) = true) <|
    bd (f_X4_setLaw h x2 (h.1 (h.2 x0 2) (0 : Int32).toNatClampNeg) (h.1 (h.2 x0 2) (1 : Int32).toNatClampNeg) (h.1 (h.2 x0 2) (2 : Int32).toNatClampNeg)) <| fun r23 h24 =>
    gd (r23 = 0 ∨ r23 = 1) <|
    some (r23, h24)
  else if x1 = (110 : Int32) then
    if (h.1 x0 4) = 0 then
      some ((0 : Int32), h)
    else
      gd (kd (h.2 x0 2) = 13) <|
      gd (inr (0 : Int32) (ln (h.2 x0 2)) = true) <|
      bd (f_X4_setNumbers h x2 (h.1 (h.2 x0 2) (0 : Int32).toNatClampNeg)) <| fun r29 h30 =>
      if r29 = 0 then
        some ((0 : Int32), h30)
      else
        some ((1 : Int32), h30)
  else if x1 = (112 : Int32) then
    gd (kd (h.2 x0 2) = 13) <|
    gd (inr (0 : Int32) (ln (h.2 x0 2)) = true) <|
    bd (f_X4_addPerson h x2 (h.1 (h.2 x0 2) (0 : Int32).toNatClampNeg)) <| fun r34 h35 =>
    gd (r34 = 0 ∨ r34 = 1) <|
    some (r34, h35)
  else 
    some ((0 : Int32), h)
def f_X8_numbersBehind (h : Hp) (x0 : Int32) : Option (Int32 × Hp) :=
  if x0 = (99 : Int32) then
    some ((2 : Int32), h)
  else if x0 = (104 : Int32) then
    some ((2 : Int32), h)
  else if x0 = (107 : Int32) then
    some ((3 : Int32), h)
  else if x0 = (110 : Int32) then
    some ((1 : Int32), h)
  else if x0 = (112 : Int32) then
    some ((1 : Int32), h)
  else 
    some ((0 : Int32), h)
def f_X8_readNumber_82 (h : Hp) (x0 : Nat) (x1 : Int32) (x2 : Int32) (x3 : Int32) : Option (Int32 × Hp) :=
  gd (kd (h.2 x0 2) = 13) <|
  gd (inr x1 (ln (h.2 x0 2)) = true) <|
  lt ((si h (h.2 x0 2) x1.toNatClampNeg x3)) <| fun h3 =>
  if x2 ≤ 0 then
    some ((0 : Int32), h3)
  else
    some ((1 : Int32), h3)
def f_X8_readNumber_4 : Nat → Hp → Nat → Int32 → Int32 → Int32 → Option (Int32 × Hp)
  | 0 => fun _ _ _ _ _ => none
  | fu + 1 => fun h x0 x1 x2 x3 =>
    if (2 : Int32) ≤ x2 then
      f_X8_readNumber_82 h x0 x1 x2 x3
    else
      if (h.1 x0 0) ≤ (h.1 x0 3) then
        f_X8_readNumber_82 h x0 x1 x2 x3
      else
        gd (kd (h.2 x0 1) = 14) <|
        gd (inr (h.1 x0 3) (ln (h.2 x0 1)) = true) <|
        if (h.1 (h.2 x0 1) (h.1 x0 3).toNatClampNeg) < (48 : Int32) then
          f_X8_readNumber_82 h x0 x1 x2 x3
        else
          gd (kd (h.2 x0 1) = 14) <|
          gd (inr (h.1 x0 3) (ln (h.2 x0 1)) = true) <|
          if (57 : Int32) < (h.1 (h.2 x0 1) (h.1 x0 3).toNatClampNeg) then
            f_X8_readNumber_82 h x0 x1 x2 x3
          else
            gd (kd (h.2 x0 1) = 14) <|
            gd (inr (h.1 x0 3) (ln (h.2 x0 1)) = true) <|
            lt ((si h x0 3 ((h.1 x0 3) + (1 : Int32)))) <| fun h7 =>
            f_X8_readNumber_4 fu h7 x0 x1 (x2 + (1 : Int32)) ((x3 * (10 : Int32)) + ((h.1 (h.2 x0 1) (h.1 x0 3).toNatClampNeg) - (48 : Int32)))
def f_X8_readNumber (h : Hp) (x0 : Nat) (x1 : Int32) : Option (Int32 × Hp) :=
  gd (kd x0 = 8) <|
  f_X8_readNumber_4 FU h x0 x1 (0 : Int32) (0 : Int32)
def f_X8_readItem_89 (h : Hp) (x1 : Int32) : Option (Int32 × Hp) :=
  if x1 ≤ 0 then
    some ((0 : Int32), h)
  else
    some ((1 : Int32), h)
def f_X8_readItem_68 (k12 : Hp → Nat → Int32 → Int32 → Option (Int32 × Hp)) (h : Hp) (x0 : Nat) (x1 : Int32) (x2 : Int32) (t0 : Int32) (t1 : Int32) : Option (Int32 × Hp) :=
  if t0 = t1 then
    lt ((si h x0 3 ((h.1 x0 3) + (1 : Int32)))) <| fun h1 =>
    k12 h1 x0 x1 (x2 + (1 : Int32))
  else
    some ((0 : Int32), h)
def f_X8_readItem_12 : Nat → Hp → Nat → Int32 → Int32 → Option (Int32 × Hp)
  | 0 => fun _ _ _ _ => none
  | fu + 1 => fun h x0 x1 x2 =>
    if x1 ≤ x2 then
      f_X8_readItem_89 h x1
    else
      gd (kd (h.2 x0 2) = 13) <|
      if (nI (ln (h.2 x0 2))) ≤ x2 then
        f_X8_readItem_89 h x1
      else
        bd (f_X8_readNumber h x0 x2) <| fun r2 h3 =>
        if r2 = 0 then
          some ((0 : Int32), h3)
        else
          if (h3.1 x0 0) ≤ (h3.1 x0 3) then
            some ((0 : Int32), h3)
          else
            gd (kd (h3.2 x0 1) = 14) <|
            gd (inr (h3.1 x0 3) (ln (h3.2 x0 1)) = true) <|
            if (x1 - (1 : Int32)) ≤ x2 then
              f_X8_readItem_68 (f_X8_readItem_12 fu) h3 x0 x1 x2 (h3.1 (h3.2 x0 1) (h3.1 x0 3).toNatClampNeg) (59 : Int32)
            else
              f_X8_readItem_68 (f_X8_readItem_12 fu) h3 x0 x1 x2 (h3.1 (h3.2 x0 1) (h3.1 x0 3).toNatClampNeg) (44 : Int32)
def f_X8_readItem (h : Hp) (x0 : Nat) (x1 : Int32) : Option (Int32 × Hp) :=
  gd (kd x0 = 8) <|
  lt ((si h x0 3 ((h.1 x0 3) + (1 : Int32)))) <| fun h1 =>
  f_X8_readItem_12 FU h1 x0 x1 (0 : Int32)
def f_X8_readInto_91 (k16 : Hp → Nat → Nat → Int32 → Option (Int32 × Hp)) (h : Hp) (x0 : Nat) (x1 : Nat) (x2 : Int32) (t0 : Nat) (t1 : Int32) : Option (Int32 × Hp) :=
  gd (t1 = 0 ∨ t1 = 1) <|
  lt ((si h t0 4 t1)) <| fun h2 =>
  k16 h2 x0 x1 (x2 + (1 : Int32))
def f_X8_readInto_90 (k16 : Hp → Nat → Nat → Int32 → Option (Int32 × Hp)) (h : Hp) (x0 : Nat) (x1 : Nat) (x2 : Int32) (t0 : Nat) : Option (Int32 × Hp) :=
  f_X8_readInto_91 k16 h x0 x1 x2 t0 (0 : Int32)
def f_X8_readInto_16 : Nat → Hp → Nat → Nat → Int32 → Option (Int32 × Hp)
  | 0 => fun _ _ _ _ => none
  | fu + 1 => fun h x0 x1 x2 =>
    if (200 : Int32) ≤ x2 then
      some ((-4 : Int32), h)
    else
      if (h.1 x0 0) ≤ (h.1 x0 3) then
        some ((-4 : Int32), h)
      else
        gd (kd (h.2 x0 1) = 14) <|
        gd (inr (h.1 x0 3) (ln (h.2 x0 1)) = true) <|
        bd (f_X8_numbersBehind h (h.1 (h.2 x0 1) (h.1 x0 3).toNatClampNeg)) <| fun r3 h4 =>
        bd (f_X8_readItem h4 x0 r3) <| fun r6 h7 =>
        if r6 = 0 then
          some ((h.1 x0 3), h7)
        else
          bd (f_X8_accept h7 x0 (h.1 (h.2 x0 1) (h.1 x0 3).toNatClampNeg) x1) <| fun r9 h10 =>
          if r9 = 0 then
            some ((h.1 x0 3), h10)
          else
            if (h10.1 x0 4) = 0 then
              f_X8_readInto_90 (f_X8_readInto_16 fu) h10 x0 x1 x2 x0
            else
              if (h.1 (h.2 x0 1) (h.1 x0 3).toNatClampNeg) = (110 : Int32) then
                f_X8_readInto_91 (f_X8_readInto_16 fu) h10 x0 x1 x2 x0 (1 : Int32)
              else
                f_X8_readInto_90 (f_X8_readInto_16 fu) h10 x0 x1 x2 x0
def f_X8_readInto (h : Hp) (x0 : Nat) (x1 : Nat) : Option (Int32 × Hp) :=
  gd (kd x0 = 8) <|
  gd (kd x1 = 4) <|
  bd (f_X4_clear h x1) <| fun r1 h2 =>
  lt ((si h2 x0 3 (0 : Int32))) <| fun h4 =>
  lt ((si h4 x0 4 (1 : Int32))) <| fun h6 =>
  f_X8_readInto_16 FU h6 x0 x1 (0 : Int32)
def f_X10_append (h : Hp) (x0 : Nat) (x1 : Int32) (x2 : Int32) : Option (Int32 × Hp) :=
  gd (kd x0 = 10) <|
  if (h.1 x0 0) < (10 : Int32) then
    gd (kd (h.2 x0 1) = 13) <|
    gd (inr (h.1 x0 0) (ln (h.2 x0 1)) = true) <|
    lt ((si h (h.2 x0 1) (h.1 x0 0).toNatClampNeg x1)) <| fun h3 =>
    gd (kd (h3.2 x0 2) = 13) <|
    gd (inr (h3.1 x0 0) (ln (h3.2 x0 2)) = true) <|
    lt ((si h3 (h3.2 x0 2) (h3.1 x0 0).toNatClampNeg x2)) <| fun h7 =>
    lt ((si h7 x0 0 ((h7.1 x0 0) + (1 : Int32)))) <| fun h9 =>
    some ((1 : Int32), h9)
  else
    some ((0 : Int32), h)
def f_X10_set_4 : Nat → Hp → Nat → Int32 → Int32 → Option (Int32 × Hp)
  | 0 => fun _ _ _ _ => none
  | fu + 1 => fun h x0 x1 x2 =>
    if (h.1 x0 0) ≤ x2 then
      some (x1, h)
    else
      gd (kd (h.2 x0 1) = 13) <|
      gd (inr x2 (ln (h.2 x0 1)) = true) <|
      f_X10_set_4 fu h x0 (x1 ||| ((1 : Int32) <<< (((h.1 (h.2 x0 1) x2.toNatClampNeg) - (1 : Int32)) &&& 31))) (x2 + (1 : Int32))
def f_X10_set (h : Hp) (x0 : Nat) : Option (Int32 × Hp) :=
  gd (kd x0 = 10) <|
  f_X10_set_4 FU h x0 (0 : Int32) (0 : Int32)
def f_X10_sum_4 : Nat → Hp → Nat → Int32 → Int32 → Option (Int32 × Hp)
  | 0 => fun _ _ _ _ => none
  | fu + 1 => fun h x0 x1 x2 =>
    if (h.1 x0 0) ≤ x2 then
      some (x1, h)
    else
      gd (kd (h.2 x0 1) = 13) <|
      gd (inr x2 (ln (h.2 x0 1)) = true) <|
      gd (kd (h.2 x0 2) = 13) <|
      gd (inr x2 (ln (h.2 x0 2)) = true) <|
      bd (f_X11_countsAs h (h.1 (h.2 x0 1) x2.toNatClampNeg) (h.1 (h.2 x0 2) x2.toNatClampNeg)) <| fun r5 h6 =>
      f_X10_sum_4 fu h6 x0 (x1 + r5) (x2 + (1 : Int32))
def f_X10_sum (h : Hp) (x0 : Nat) : Option (Int32 × Hp) :=
  gd (kd x0 = 10) <|
  f_X10_sum_4 FU h x0 (0 : Int32) (0 : Int32)
def f_X10_price_4 : Nat → Hp → Nat → Nat → Int32 → Int32 → Option (Int32 × Hp)
  | 0 => fun _ _ _ _ _ => none
  | fu + 1 => fun h x0 x1 x2 x3 =>
    if (h.1 x0 0) ≤ x3 then
      some (x2, h)
    else
      gd (kd (h.2 x0 1) = 13) <|
      gd (inr x3 (ln (h.2 x0 1)) = true) <|
      gd (kd (h.2 x0 2) = 13) <|
      gd (inr x3 (ln (h.2 x0 2)) = true) <|
      bd (f_X4_price h x1 (h.1 (h.2 x0 1) x3.toNatClampNeg) (h.1 (h.2 x0 2) x3.toNatClampNeg)) <| fun r5 h6 =>
      f_X10_price_4 fu h6 x0 x1 (x2 + r5) (x3 + (1 : Int32))
def f_X10_price (h : Hp) (x0 : Nat) (x1 : Nat) : Option (Int32 × Hp) :=
  gd (kd x0 = 10) <|
  gd (kd x1 = 4) <|
  f_X10_price_4 FU h x0 x1 (0 : Int32) (0 : Int32)
def f_X10_areSaying_23 : Nat → Hp → Nat → Int32 → Int32 → Option (Int32 × Hp)
  | 0 => fun _ _ _ _ => none
  | fu + 1 => fun h x0 x1 x2 =>
    if (h.1 x0 0) ≤ x2 then
      some ((1 : Int32), h)
    else
      gd (kd (h.2 x0 2) = 13) <|
      gd (inr x2 (ln (h.2 x0 2)) = true) <|
      bd (f_X11_lastUse h x1) <| fun r3 h4 =>
      if (h.1 (h.2 x0 2) x2.toNatClampNeg) ≤ r3 then
        f_X10_areSaying_23 fu h4 x0 x1 (x2 + (1 : Int32))
      else
        some ((0 : Int32), h4)
def f_X10_areSaying (h : Hp) (x0 : Nat) (x1 : Int32) : Option (Int32 × Hp) :=
  gd (kd x0 = 10) <|
  if (h.1 x0 0) = 0 then
    some ((0 : Int32), h)
  else
    if x1 = 0 then
      if (h.1 x0 0) ≤ (1 : Int32) then
        f_X10_areSaying_23 FU h x0 x1 (0 : Int32)
      else
        some ((0 : Int32), h)
    else
      f_X10_areSaying_23 FU h x0 x1 (0 : Int32)
def f_X11_write (h : Hp) (x0 : Nat) (x1 : Int32) : Option (Int32 × Hp) :=
  gd (kd x0 = 11) <|
  if x1 < (32 : Int32) then
    some ((-1 : Int32), h)
  else
    if x1 ≤ (126 : Int32) then
      gd (kd (h.2 x0 0) = 8) <|
      bd (f_X8_append h (h.2 x0 0) (x1.toUInt32 % 65536).toInt32) <| fun r2 h3 =>
      if r2 = 0 then
        some ((-3 : Int32), h3)
      else
        gd (kd (h3.2 x0 0) = 8) <|
        some ((h3.1 (h3.2 x0 0) 0), h3)
    else
      some ((-1 : Int32), h)
def f_X11_wipe (h : Hp) (x0 : Nat) : Option (Int32 × Hp) :=
  gd (kd x0 = 11) <|
  gd (kd (h.2 x0 0) = 8) <|
  gd (kd (h.2 x0 0) = 8) <|
  lt ((si h (h.2 x0 0) 0 (0 : Int32))) <| fun h3 =>
  some ((h.1 (h.2 x0 0) 0), h3)
def f_X11_fault (h : Hp) (x0 : Nat) : Option (Int32 × Hp) :=
  gd (kd x0 = 11) <|
  gd (kd (h.2 x0 0) = 8) <|
  gd (kd (h.2 x0 2) = 4) <|
  bd (f_X8_readInto h (h.2 x0 0) (h.2 x0 2)) <| fun r3 h4 =>
  some (r3, h4)
def f_X11_lay (h : Hp) (x0 : Nat) : Option (Int32 × Hp) :=
  gd (kd x0 = 11) <|
  gd (kd (h.2 x0 0) = 8) <|
  gd (kd (h.2 x0 2) = 4) <|
  bd (f_X8_readInto h (h.2 x0 0) (h.2 x0 2)) <| fun r3 h4 =>
  if r3 = (-4 : Int32) then
    gd (kd (h4.2 x0 2) = 4) <|
    if (h4.1 (h4.2 x0 2) 1) = 0 then
      some ((-2 : Int32), h4)
    else
      gd (kd (h4.2 x0 1) = 4) <|
      gd (kd (h4.2 x0 2) = 4) <|
      lt ((sr h4 x0 1 (h4.2 x0 2))) <| fun h9 =>
      lt ((sr h9 x0 2 (h4.2 x0 1))) <| fun h11 =>
      gd (kd (h11.2 x0 3) = 2) <|
      bd (f_X2_begin h11 (h11.2 x0 3) (0 : Int32)) <| fun r14 h15 =>
      gd (kd (h15.2 x0 4) = 3) <|
      lt ((si h15 (h15.2 x0 4) 0 (0 : Int32))) <| fun h18 =>
      gd (kd (h18.2 x0 5) = 3) <|
      lt ((si h18 (h18.2 x0 5) 0 (0 : Int32))) <| fun h21 =>
      gd (kd (h21.2 x0 6) = 10) <|
      lt ((si h21 (h21.2 x0 6) 0 (0 : Int32))) <| fun h24 =>
      gd (kd (h24.2 x0 7) = 0) <|
      lt ((si h24 (h24.2 x0 7) 0 (0 : Int32))) <| fun h27 =>
      gd (kd (h27.2 x0 9) = 5) <|
      gd (kd (h27.2 x0 1) = 4) <|
      bd (f_X5_forget h27 (h27.2 x0 9) (h27.2 x0 1)) <| fun r31 h32 =>
      gd (kd (h32.2 x0 1) = 4) <|
      some ((h32.1 (h32.2 x0 1) 0), h32)
  else
    some ((-2 : Int32), h4)
def f_X11_holderOf_2 : Nat → Hp → Int32 → Nat → Int32 → Option (Int32 × Hp)
  | 0 => fun _ _ _ _ => none
  | fu + 1 => fun h x0 x1 x2 =>
    if (nI (ln x1)) ≤ x2 then
      some ((-4 : Int32), h)
    else
      gd (inr x2 (ln x1) = true) <|
      bd (f_X11_hasBit h (h.1 x1 x2.toNatClampNeg) (x0 - (1 : Int32))) <| fun r2 h3 =>
      if r2 = 0 then
        f_X11_holderOf_2 fu h3 x0 x1 (x2 + (1 : Int32))
      else
        some (x2, h3)
def f_X11_holderOf (h : Hp) (x0 : Int32) (x1 : Nat) : Option (Int32 × Hp) :=
  gd (kd x1 = 13) <|
  f_X11_holderOf_2 FU h x0 x1 (0 : Int32)
def f_X11_number (h : Hp) (x0 : Nat) (x1 : Int32) (x2 : Int32) : Option (Int32 × Hp) :=
  gd (kd x0 = 11) <|
  gd (kd (h.2 x0 1) = 4) <|
  bd (f_X4_isNumber h (h.2 x0 1) x1) <| fun r2 h3 =>
  if r2 = 0 then
    some ((-1 : Int32), h3)
  else
    if x2 = (0 : Int32) then
      gd (kd (h3.2 x0 1) = 4) <|
      gd (kd (h3.2 (h3.2 x0 1) 5) = 13) <|
      gd (inr x1 (ln (h3.2 (h3.2 x0 1) 5)) = true) <|
      some ((h3.1 (h3.2 (h3.2 x0 1) 5) x1.toNatClampNeg), h3)
    else if x2 = (1 : Int32) then
      gd (kd (h3.2 x0 1) = 4) <|
      gd (kd (h3.2 (h3.2 x0 1) 6) = 13) <|
      bd (f_X11_holderOf h3 x1 (h3.2 (h3.2 x0 1) 6)) <| fun r10 h11 =>
      some (r10, h11)
    else if x2 = (2 : Int32) then
      gd (kd (h3.2 x0 3) = 2) <|
      gd (kd (h3.2 (h3.2 x0 3) 0) = 13) <|
      bd (f_X11_holderOf h3 x1 (h3.2 (h3.2 x0 3) 0)) <| fun r15 h16 =>
      some (r15, h16)
    else if x2 = (3 : Int32) then
      gd (kd (h3.2 x0 3) = 2) <|
      gd (kd (h3.2 (h3.2 x0 3) 1) = 13) <|
      bd (f_X11_holderOf h3 x1 (h3.2 (h3.2 x0 3) 1)) <| fun r20 h21 =>
      some (r20, h21)
    else 
      some ((-1 : Int32), h3)
def f_X11_sceneNow (h : Hp) (x0 : Nat) : Option (Nat × Hp) :=
  gd (kd x0 = 11) <|
  gd (kd (h.2 x0 10) = 6) <|
  gd (kd (h.2 x0 1) = 4) <|
  gd (kd (h.2 x0 3) = 2) <|
  bd (f_X6_setNow h (h.2 x0 10) (h.2 x0 1) (h.2 x0 3)) <| fun r4 h5 =>
  gd (kd (h5.2 x0 10) = 6) <|
  some ((h5.2 x0 10), h5)
def f_X11_person (h : Hp) (x0 : Nat) (x1 : Int32) (x2 : Int32) : Option (Int32 × Hp) :=
  gd (kd x0 = 11) <|
  gd (kd (h.2 x0 1) = 4) <|
  bd (f_X4_isPerson h (h.2 x0 1) x1) <| fun r2 h3 =>
  if r2 = 0 then
    some ((-1 : Int32), h3)
  else
    if x2 = (0 : Int32) then
      gd (kd (h3.2 x0 1) = 4) <|
      gd (kd (h3.2 (h3.2 x0 1) 7) = 13) <|
      gd (inr x1 (ln (h3.2 (h3.2 x0 1) 7)) = true) <|
      some ((h3.1 (h3.2 (h3.2 x0 1) 7) x1.toNatClampNeg), h3)
    else if x2 = (1 : Int32) then
      gd (kd (h3.2 x0 3) = 2) <|
      some ((((h3.1 (h3.2 x0 3) 2) >>> (x1 &&& 31)) &&& (1 : Int32)), h3)
    else if x2 = (2 : Int32) then
      bd (f_X11_sceneNow h3 x0) <| fun r9 h10 =>
      gd (kd r9 = 6) <|
      gd (kd (h10.2 x0 3) = 2) <|
      bd (f_X2_taken h10 (h10.2 x0 3)) <| fun r14 h15 =>
      bd (f_X6_mayUse h15 r9 x1 r14) <| fun r17 h18 =>
      some (r17, h18)
    else 
      some ((-1 : Int32), h3)
def f_X11_law (h : Hp) (x0 : Nat) (x1 : Int32) : Option (Int32 × Hp) :=
  gd (kd x0 = 11) <|
  if x1 = (0 : Int32) then
    gd (kd (h.2 x0 1) = 4) <|
    some ((h.1 (h.2 x0 1) 2), h)
  else if x1 = (1 : Int32) then
    gd (kd (h.2 x0 1) = 4) <|
    some ((h.1 (h.2 x0 1) 3), h)
  else if x1 = (2 : Int32) then
    gd (kd (h.2 x0 1) = 4) <|
    some ((h.1 (h.2 x0 1) 4), h)
  else 
    some ((-1 : Int32), h)
def f_X11_tell (h : Hp) (x0 : Nat) (x1 : Int32) (x2 : Int32) : Option (Int32 × Hp) :=
  gd (kd x0 = 11) <|
  gd (kd (h.2 x0 1) = 4) <|
  bd (f_X4_isNumber h (h.2 x0 1) x1) <| fun r2 h3 =>
  if r2 = 0 then
    some ((-1 : Int32), h3)
  else
    if x2 < (1 : Int32) then
      some ((-1 : Int32), h3)
    else
      if x2 ≤ (3 : Int32) then
        gd (kd (h3.2 x0 6) = 10) <|
        bd (f_X10_set h3 (h3.2 x0 6)) <| fun r6 h7 =>
        bd (f_X11_hasBit h7 r6 (x1 - (1 : Int32))) <| fun r9 h10 =>
        if r9 = 0 then
          bd (f_X11_canStand h10 x1 x2) <| fun r12 h13 =>
          if r12 = 0 then
            some ((-2 : Int32), h13)
          else
            gd (kd (h13.2 x0 6) = 10) <|
            bd (f_X10_append h13 (h13.2 x0 6) x1 x2) <| fun r16 h17 =>
            if r16 = 0 then
              some ((-3 : Int32), h17)
            else
              gd (kd (h17.2 x0 6) = 10) <|
              some ((h17.1 (h17.2 x0 6) 0), h17)
        else
          some ((-2 : Int32), h10)
      else
        some ((-1 : Int32), h3)
def f_X11_hush (h : Hp) (x0 : Nat) : Option (Int32 × Hp) :=
  gd (kd x0 = 11) <|
  gd (kd (h.2 x0 6) = 10) <|
  gd (kd (h.2 x0 6) = 10) <|
  lt ((si h (h.2 x0 6) 0 (0 : Int32))) <| fun h3 =>
  some ((h.1 (h.2 x0 6) 0), h3)
def f_X11_words (h : Hp) (x0 : Nat) (x1 : Int32) : Option (Int32 × Hp) :=
  gd (kd x0 = 11) <|
  if x1 = (0 : Int32) then
    gd (kd (h.2 x0 6) = 10) <|
    bd (f_X10_sum h (h.2 x0 6)) <| fun r2 h3 =>
    some ((r2 + (1000 : Int32)), h3)
  else if x1 = (1 : Int32) then
    gd (kd (h.2 x0 6) = 10) <|
    gd (kd (h.2 x0 1) = 4) <|
    bd (f_X10_price h (h.2 x0 6) (h.2 x0 1)) <| fun r7 h8 =>
    some (r7, h8)
  else if x1 = (2 : Int32) then
    gd (kd (h.2 x0 6) = 10) <|
    gd (kd (h.2 x0 1) = 4) <|
    bd (f_X10_areSaying h (h.2 x0 6) (h.1 (h.2 x0 1) 2)) <| fun r12 h13 =>
    if r12 = 0 then
      some ((0 : Int32), h13)
    else
      some ((1 : Int32), h13)
  else 
    some ((-1 : Int32), h)
def f_X11_say_90 (h : Hp) (x0 : Nat) (x1 : Int32) (x2 : Int32) (x3 : Int32) (t0 : Int32) : Option (Int32 × Hp) :=
  if x3 = 0 then
    some ((-2 : Int32), h)
  else
    if t0 = 0 then
      some ((-2 : Int32), h)
    else
      gd (kd (h.2 x0 3) = 2) <|
      bd (f_X11_hasBit h (h.1 (h.2 x0 3) 2) x1) <| fun r2 h3 =>
      if r2 = 0 then
        gd (kd (h3.2 x0 4) = 3) <|
        gd (kd (h3.2 x0 3) = 2) <|
        bd (f_X3_push h3 (h3.2 x0 4) (h3.2 x0 3)) <| fun r7 h8 =>
        gd (kd (h8.2 x0 3) = 2) <|
        bd (f_X2_take h8 (h8.2 x0 3) x1 x2) <| fun r11 h12 =>
        gd (kd (h12.2 x0 6) = 10) <|
        gd (kd (h12.2 x0 1) = 4) <|
        bd (f_X10_price h12 (h12.2 x0 6) (h12.2 x0 1)) <| fun r16 h17 =>
        some (r16, h17)
      else
        some ((-2 : Int32), h3)
def f_X11_say_62 (h : Hp) (x0 : Nat) (x1 : Int32) (x2 : Int32) (t0 : Int32) : Option (Int32 × Hp) :=
  bd (f_X11_sceneNow h x0) <| fun r1 h2 =>
  gd (kd r1 = 6) <|
  gd (kd (h2.2 x0 3) = 2) <|
  bd (f_X2_taken h2 (h2.2 x0 3)) <| fun r6 h7 =>
  bd (f_X6_mayUse h7 r1 x1 r6) <| fun r9 h10 =>
  if (x2 &&& (r9 ^^^ (-1 : Int32))) = 0 then
    f_X11_say_90 h10 x0 x1 x2 t0 (1 : Int32)
  else
    f_X11_say_90 h10 x0 x1 x2 t0 (0 : Int32)
def f_X11_say_61 (h : Hp) (x0 : Nat) (x1 : Int32) (x2 : Int32) : Option (Int32 × Hp) :=
  f_X11_say_62 h x0 x1 x2 (0 : Int32)
def f_X11_say (h : Hp) (x0 : Nat) (x1 : Int32) : Option (Int32 × Hp) :=
  gd (kd x0 = 11) <|
  gd (kd (h.2 x0 1) = 4) <|
  bd (f_X4_isPerson h (h.2 x0 1) x1) <| fun r2 h3 =>
  if r2 = 0 then
    some ((-1 : Int32), h3)
  else
    gd (kd (h3.2 x0 6) = 10) <|
    bd (f_X10_set h3 (h3.2 x0 6)) <| fun r6 h7 =>
    gd (kd (h7.2 x0 6) = 10) <|
    gd (kd (h7.2 x0 1) = 4) <|
    bd (f_X10_areSaying h7 (h7.2 x0 6) (h7.1 (h7.2 x0 1) 2)) <| fun r11 h12 =>
    if r11 = 0 then
      f_X11_say_61 h12 x0 x1 r6
    else
      gd (kd (h12.2 x0 6) = 10) <|
      bd (f_X10_sum h12 (h12.2 x0 6)) <| fun r15 h16 =>
      gd (kd (h16.2 x0 1) = 4) <|
      gd (kd (h16.2 (h16.2 x0 1) 7) = 13) <|
      gd (inr x1 (ln (h16.2 (h16.2 x0 1) 7)) = true) <|
      if r15 = (h16.1 (h16.2 (h16.2 x0 1) 7) x1.toNatClampNeg) then
        f_X11_say_62 h16 x0 x1 r6 (1 : Int32)
      else
        f_X11_say_61 h16 x0 x1 r6
def f_X11_usedNow (h : Hp) (x0 : Nat) (x1 : Int32) (x2 : Int32) : Option (Int32 × Hp) :=
  gd (kd x0 = 11) <|
  gd (kd (h.2 x0 9) = 5) <|
  bd (f_X11_sceneNow h x0) <| fun r2 h3 =>
  gd (kd r2 = 6) <|
  gd (kd (h3.2 x0 3) = 2) <|
  bd (f_X2_taken h3 (h3.2 x0 3)) <| fun r7 h8 =>
  bd (f_X6_mayUse h8 r2 x1 r7) <| fun r10 h11 =>
  gd (kd (h11.2 x0 1) = 4) <|
  bd (f_X5_find h11 (h.2 x0 9) r10 x2 (h11.1 (h11.2 x0 1) 2)) <| fun r14 h15 =>
  some (r14, h15)
def f_X11_speak (h : Hp) (x0 : Nat) (x1 : Int32) : Option (Int32 × Hp) :=
  gd (kd x0 = 11) <|
  gd (kd (h.2 x0 1) = 4) <|
  bd (f_X4_isPerson h (h.2 x0 1) x1) <| fun r2 h3 =>
  if r2 = 0 then
    some ((-1 : Int32), h3)
  else
    gd (kd (h3.2 x0 3) = 2) <|
    bd (f_X11_hasBit h3 (h3.1 (h3.2 x0 3) 2) x1) <| fun r6 h7 =>
    if r6 = 0 then
      gd (kd (h7.2 x0 1) = 4) <|
      gd (kd (h7.2 (h7.2 x0 1) 7) = 13) <|
      gd (inr x1 (ln (h7.2 (h7.2 x0 1) 7)) = true) <|
      bd (f_X11_usedNow h7 x0 x1 (h7.1 (h7.2 (h7.2 x0 1) 7) x1.toNatClampNeg)) <| fun r12 h13 =>
      if r12 = 0 then
        some ((-4 : Int32), h13)
      else
        gd (kd (h13.2 x0 4) = 3) <|
        gd (kd (h13.2 x0 3) = 2) <|
        bd (f_X3_push h13 (h13.2 x0 4) (h13.2 x0 3)) <| fun r17 h18 =>
        gd (kd (h18.2 x0 3) = 2) <|
        bd (f_X2_take h18 (h18.2 x0 3) x1 r12) <| fun r21 h22 =>
        bd (f_J6_bitCount_0f7a4 h22 r12) <| fun r24 h25 =>
        some (r24, h25)
    else
      some ((-2 : Int32), h7)
def f_X11_lend (h : Hp) (x0 : Nat) (x1 : Int32) (x2 : Int32) : Option (Int32 × Hp) :=
  gd (kd x0 = 11) <|
  gd (kd (h.2 x0 1) = 4) <|
  bd (f_X4_isNumber h (h.2 x0 1) x1) <| fun r2 h3 =>
  if r2 = 0 then
    some ((-1 : Int32), h3)
  else
    gd (kd (h3.2 x0 1) = 4) <|
    bd (f_X4_isPerson h3 (h3.2 x0 1) x2) <| fun r6 h7 =>
    if r6 = 0 then
      some ((-1 : Int32), h7)
    else
      gd (kd (h7.2 x0 1) = 4) <|
      gd (kd (h7.2 (h7.2 x0 1) 6) = 13) <|
      bd (f_X11_holderOf h7 x1 (h7.2 (h7.2 x0 1) 6)) <| fun r11 h12 =>
      if r11 = (-4 : Int32) then
        some ((-2 : Int32), h12)
      else
        if r11 = x2 then
          some ((-2 : Int32), h12)
        else
          gd (kd (h12.2 x0 3) = 2) <|
          bd (f_X2_taken h12 (h12.2 x0 3)) <| fun r15 h16 =>
          gd (kd (h16.2 x0 3) = 2) <|
          bd (f_X2_lent h16 (h16.2 x0 3)) <| fun r19 h20 =>
          bd (f_X11_hasBit h20 (r15 ||| r19) (x1 - (1 : Int32))) <| fun r22 h23 =>
          if r22 = 0 then
            gd (kd (h23.2 x0 4) = 3) <|
            gd (kd (h23.2 x0 3) = 2) <|
            bd (f_X3_push h23 (h23.2 x0 4) (h23.2 x0 3)) <| fun r27 h28 =>
            gd (kd (h28.2 x0 3) = 2) <|
            gd (kd (h28.2 (h28.2 x0 3) 1) = 13) <|
            gd (inr x2 (ln (h28.2 (h28.2 x0 3) 1)) = true) <|
            gd (inr x2 (ln (h28.2 (h28.2 x0 3) 1)) = true) <|
            lt ((si h28 (h28.2 (h28.2 x0 3) 1) x2.toNatClampNeg ((h28.1 (h28.2 (h28.2 x0 3) 1) x2.toNatClampNeg) ||| ((1 : Int32) <<< ((x1 - (1 : Int32)) &&& 31))))) <| fun h34 =>
            gd (kd (h34.2 x0 3) = 2) <|
            bd (f_X2_lent h34 (h34.2 x0 3)) <| fun r37 h38 =>
            bd (f_J6_bitCount_0f7a4 h38 r37) <| fun r40 h41 =>
            some (r40, h41)
          else
            some ((-2 : Int32), h23)
def f_X11_born (h : Hp) (x0 : Nat) : Option (Int32 × Hp) :=
  gd (kd x0 = 11) <|
  gd (kd (h.2 x0 3) = 2) <|
  gd (kd (h.2 x0 3) = 2) <|
  if (h.1 (h.2 x0 3) 4) = 0 then
    gd (kd (h.2 x0 1) = 4) <|
    bd (f_X4_isNumber h (h.2 x0 1) ((h.1 (h.2 x0 3) 3) + (1 : Int32))) <| fun r4 h5 =>
    if r4 = 0 then
      some ((-2 : Int32), h5)
    else
      gd (kd (h5.2 x0 3) = 2) <|
      bd (f_X2_taken h5 (h5.2 x0 3)) <| fun r8 h9 =>
      bd (f_X11_hasBit h9 r8 (((h.1 (h.2 x0 3) 3) + (1 : Int32)) - (1 : Int32))) <| fun r11 h12 =>
      if r11 = 0 then
        gd (kd (h12.2 x0 4) = 3) <|
        gd (kd (h12.2 x0 3) = 2) <|
        bd (f_X3_push h12 (h12.2 x0 4) (h12.2 x0 3)) <| fun r16 h17 =>
        gd (kd (h17.2 x0 3) = 2) <|
        lt ((si h17 (h17.2 x0 3) 3 ((h.1 (h.2 x0 3) 3) + (1 : Int32)))) <| fun h20 =>
        gd (kd (h20.2 x0 3) = 2) <|
        gd (kd (h20.2 (h20.2 x0 3) 0) = 13) <|
        gd (inr (7 : Int32) (ln (h20.2 (h20.2 x0 3) 0)) = true) <|
        gd (inr (7 : Int32) (ln (h20.2 (h20.2 x0 3) 0)) = true) <|
        lt ((si h20 (h20.2 (h20.2 x0 3) 0) (7 : Int32).toNatClampNeg ((h20.1 (h20.2 (h20.2 x0 3) 0) (7 : Int32).toNatClampNeg) ||| ((1 : Int32) <<< ((((h.1 (h.2 x0 3) 3) + (1 : Int32)) - (1 : Int32)) &&& 31))))) <| fun h26 =>
        some (((h.1 (h.2 x0 3) 3) + (1 : Int32)), h26)
      else
        some ((-2 : Int32), h12)
  else
    some ((-2 : Int32), h)
def f_X11_dusk (h : Hp) (x0 : Nat) (x1 : Int32) : Option (Int32 × Hp) :=
  gd (kd x0 = 11) <|
  gd (kd (h.2 x0 3) = 2) <|
  bd (f_X2_taken h (h.2 x0 3)) <| fun r2 h3 =>
  bd (f_J6_bitCount_0f7a4 h3 r2) <| fun r5 h6 =>
  gd (kd (h6.2 x0 4) = 3) <|
  gd (kd (h6.2 x0 3) = 2) <|
  bd (f_X3_push h6 (h6.2 x0 4) (h6.2 x0 3)) <| fun r10 h11 =>
  gd (kd (h11.2 x0 3) = 2) <|
  bd (f_X2_begin h11 (h11.2 x0 3) x1) <| fun r14 h15 =>
  some (r5, h15)
def f_X11_undo (h : Hp) (x0 : Nat) : Option (Int32 × Hp) :=
  gd (kd x0 = 11) <|
  gd (kd (h.2 x0 4) = 3) <|
  gd (kd (h.2 x0 3) = 2) <|
  bd (f_X3_pop h (h.2 x0 4) (h.2 x0 3)) <| fun r3 h4 =>
  if r3 = 0 then
    some ((-2 : Int32), h4)
  else
    gd (kd (h4.2 x0 4) = 3) <|
    some ((h4.1 (h4.2 x0 4) 0), h4)
def f_X11_best (h : Hp) (x0 : Nat) (x1 : Int32) (x2 : Int32) (x3 : Int32) : Option (Int32 × Hp) :=
  gd (kd x0 = 11) <|
  gd (kd (h.2 x0 1) = 4) <|
  bd (f_X4_isPerson h (h.2 x0 1) x1) <| fun r2 h3 =>
  if r2 = 0 then
    some ((-1 : Int32), h3)
  else
    if x2 < (1 : Int32) then
      some ((-1 : Int32), h3)
    else
      if (99 : Int32) < x2 then
        some ((-1 : Int32), h3)
      else
        if x3 < 0 then
          some ((-1 : Int32), h3)
        else
          if x3 ≤ (4 : Int32) then
            bd (f_X11_usedNow h3 x0 x1 x2) <| fun r5 h6 =>
            if r5 = 0 then
              some ((-4 : Int32), h6)
            else
              if x3 = (0 : Int32) then
                bd (f_J6_bitCount_0f7a4 h6 r5) <| fun r8 h9 =>
                some (r8, h9)
              else if x3 = (1 : Int32) then
                gd (kd (h6.2 x0 9) = 5) <|
                bd (f_X5_price h6 (h6.2 x0 9)) <| fun r12 h13 =>
                some (r12, h13)
              else 
                gd (kd (h6.2 x0 9) = 5) <|
                bd (f_X5_inUse h6 (h6.2 x0 9) (x3 - (1 : Int32))) <| fun r16 h17 =>
                some (r16, h17)
          else
            some ((-1 : Int32), h3)
def f_X11_stuck (h : Hp) (x0 : Nat) : Option (Int32 × Hp) :=
  gd (kd x0 = 11) <|
  gd (kd (h.2 x0 11) = 1) <|
  bd (f_X11_sceneNow h x0) <| fun r2 h3 =>
  gd (kd r2 = 6) <|
  bd (f_X1_stuckIn h3 (h.2 x0 11) r2) <| fun r6 h7 =>
  some (r6, h7)
def f_X11_freed_57 : Nat → Hp → Nat → Int32 → Int32 → Nat → Int32 → Option (Int32 × Hp)
  | 0 => fun _ _ _ _ _ _ => none
  | fu + 1 => fun h x0 x1 x2 x3 x4 =>
    gd (kd (h.2 x0 1) = 4) <|
    if (h.1 (h.2 x0 1) 0) < x4 then
      some ((-4 : Int32), h)
    else
      if ((h.1 x3 2) &&& (((1 : Int32) <<< ((x4 - (1 : Int32)) &&& 31)) ^^^ (-1 : Int32))) = (h.1 x3 2) then
        f_X11_freed_57 fu h x0 x1 x2 x3 (x4 + (1 : Int32))
      else
        gd (kd (h.2 x0 9) = 5) <|
        bd (f_X6_mayUse h x3 x1 ((h.1 x3 2) &&& (((1 : Int32) <<< ((x4 - (1 : Int32)) &&& 31)) ^^^ (-1 : Int32)))) <| fun r3 h4 =>
        gd (kd (h4.2 x0 1) = 4) <|
        bd (f_X5_find h4 (h.2 x0 9) r3 x2 (h4.1 (h4.2 x0 1) 2)) <| fun r7 h8 =>
        if r7 = 0 then
          f_X11_freed_57 fu h8 x0 x1 x2 x3 (x4 + (1 : Int32))
        else
          some (x4, h8)
def f_X11_freed (h : Hp) (x0 : Nat) (x1 : Int32) : Option (Int32 × Hp) :=
  gd (kd x0 = 11) <|
  gd (kd (h.2 x0 1) = 4) <|
  bd (f_X4_isPerson h (h.2 x0 1) x1) <| fun r2 h3 =>
  if r2 = 0 then
    some ((-1 : Int32), h3)
  else
    gd (kd (h3.2 x0 1) = 4) <|
    gd (kd (h3.2 (h3.2 x0 1) 7) = 13) <|
    gd (inr x1 (ln (h3.2 (h3.2 x0 1) 7)) = true) <|
    gd (kd (h3.2 x0 3) = 2) <|
    bd (f_X11_hasBit h3 (h3.1 (h3.2 x0 3) 2) x1) <| fun r9 h10 =>
    if r9 = 0 then
      bd (f_X11_usedNow h10 x0 x1 (h3.1 (h3.2 (h3.2 x0 1) 7) x1.toNatClampNeg)) <| fun r12 h13 =>
      if r12 = 0 then
        bd (f_X11_sceneNow h13 x0) <| fun r15 h16 =>
        gd (kd r15 = 6) <|
        f_X11_freed_57 FU h16 x0 x1 (h3.1 (h3.2 (h3.2 x0 1) 7) x1.toNatClampNeg) r15 (1 : Int32)
      else
        some ((-4 : Int32), h13)
    else
      some ((-4 : Int32), h10)
def f_X11_order (h : Hp) (x0 : Nat) (x1 : Int32) : Option (Int32 × Hp) :=
  gd (kd x0 = 11) <|
  if x1 < (-1 : Int32) then
    some ((-1 : Int32), h)
  else
    if x1 < (6 : Int32) then
      bd (f_X11_sceneNow h x0) <| fun r1 h2 =>
      gd (kd r1 = 6) <|
      gd (kd (h2.2 x0 11) = 1) <|
      bd (f_X1_findOrder h2 (h2.2 x0 11) r1) <| fun r6 h7 =>
      if 0 ≤ x1 then
        bd (f_J6_bitCount_0f7a4 h7 (h7.1 r1 0)) <| fun r9 h10 =>
        if r9 ≤ x1 then
          some ((-4 : Int32), h10)
        else
          gd (kd (h10.2 x0 11) = 1) <|
          gd (kd (h10.2 (h10.2 x0 11) 5) = 13) <|
          gd (inr x1 (ln (h10.2 (h10.2 x0 11) 5)) = true) <|
          some ((h10.1 (h10.2 (h10.2 x0 11) 5) x1.toNatClampNeg), h10)
      else
        gd (kd (h7.2 x0 11) = 1) <|
        some ((h7.1 (h7.2 x0 11) 4), h7)
    else
      some ((-1 : Int32), h)
def f_X11_deny_59 (h : Hp) (x0 : Nat) (x2 : Int32) : Option (Int32 × Hp) :=
  if x2 = (0 : Int32) then
    gd (kd (h.2 x0 11) = 1) <|
    some ((h.1 (h.2 x0 11) 0), h)
  else if x2 = (1 : Int32) then
    gd (kd (h.2 x0 11) = 1) <|
    some ((h.1 (h.2 x0 11) 1), h)
  else 
    gd (kd (h.2 x0 11) = 1) <|
    some ((h.1 (h.2 x0 11) 2), h)
def f_X11_deny (h : Hp) (x0 : Nat) (x1 : Int32) (x2 : Int32) : Option (Int32 × Hp) :=
  gd (kd x0 = 11) <|
  if x1 < (1 : Int32) then
    some ((-1 : Int32), h)
  else
    if (2 : Int32) < x1 then
      some ((-1 : Int32), h)
    else
      if x2 < 0 then
        some ((-1 : Int32), h)
      else
        if x2 ≤ (2 : Int32) then
          bd (f_X11_sceneNow h x0) <| fun r1 h2 =>
          gd (kd r1 = 6) <|
          if x1 = (1 : Int32) then
            gd (kd (h2.2 x0 11) = 1) <|
            bd (f_X1_denyOne h2 (h2.2 x0 11) r1) <| fun r10 h11 =>
            if r10 = 0 then
              some ((-4 : Int32), h11)
            else
              f_X11_deny_59 h11 x0 x2
          else
            gd (kd (h2.2 x0 11) = 1) <|
            bd (f_X1_denyTwo h2 (h2.2 x0 11) r1) <| fun r6 h7 =>
            if r6 = 0 then
              some ((-4 : Int32), h7)
            else
              f_X11_deny_59 h7 x0 x2
        else
          some ((-1 : Int32), h)
def f_X11_guard_20 : Nat → Hp → Nat → Nat → Int32 → Int32 → Int32 → Int32 → Option (Int32 × Hp)
  | 0 => fun _ _ _ _ _ _ _ => none
  | fu + 1 => fun h x0 x1 x2 x3 x4 x5 =>
    gd (kd (h.2 x0 1) = 4) <|
    if (h.1 (h.2 x0 1) 0) < x5 then
      some (x4, h)
    else
      if x3 ≤ 0 then
        some (x4, h)
      else
        bd (f_X11_hasBit h (h.1 x1 2) (x5 - (1 : Int32))) <| fun r2 h3 =>
        if r2 = 0 then
          lt ((si h3 x1 3 (x2 ||| ((1 : Int32) <<< ((x5 - (1 : Int32)) &&& 31))))) <| fun h5 =>
          gd (kd (h5.2 x0 11) = 1) <|
          bd (f_X1_stuckIn h5 (h5.2 x0 11) x1) <| fun r8 h9 =>
          bd (f_J6_bitCount_0f7a4 h9 r8) <| fun r11 h12 =>
          if x3 ≤ r11 then
            f_X11_guard_20 fu h12 x0 x1 x2 x3 x4 (x5 + (1 : Int32))
          else
            f_X11_guard_20 fu h12 x0 x1 x2 r11 x5 (x5 + (1 : Int32))
        else
          f_X11_guard_20 fu h3 x0 x1 x2 x3 x4 (x5 + (1 : Int32))
def f_X11_guard (h : Hp) (x0 : Nat) : Option (Int32 × Hp) :=
  gd (kd x0 = 11) <|
  bd (f_X11_sceneNow h x0) <| fun r1 h2 =>
  gd (kd r1 = 6) <|
  f_X11_guard_20 FU h2 x0 r1 (h2.1 r1 3) (7 : Int32) (-4 : Int32) (1 : Int32)
def f_X11_value_42 : Nat → Hp → Nat → Int32 → Nat → Int32 → Int32 → Option (Int32 × Hp)
  | 0 => fun _ _ _ _ _ _ => none
  | fu + 1 => fun h x0 x1 x2 x3 x4 =>
    gd (kd (h.2 x0 1) = 4) <|
    if (h.1 (h.2 x0 1) 1) ≤ x4 then
      some (x3, h)
    else
      bd (f_X6_mayUse h x2 x4 (h.1 x2 2)) <| fun r2 h3 =>
      gd (kd (h3.2 x0 9) = 5) <|
      gd (kd (h3.2 x0 1) = 4) <|
      gd (kd (h3.2 (h3.2 x0 1) 7) = 13) <|
      gd (inr x4 (ln (h3.2 (h3.2 x0 1) 7)) = true) <|
      gd (kd (h3.2 x0 1) = 4) <|
      bd (f_X5_find h3 (h3.2 x0 9) r2 (h3.1 (h3.2 (h3.2 x0 1) 7) x4.toNatClampNeg) (h3.1 (h3.2 x0 1) 2)) <| fun r10 h11 =>
      if r10 = 0 then
        f_X11_value_42 fu h11 x0 x1 x2 x3 (x4 + (1 : Int32))
      else
        gd (kd (h11.2 x0 9) = 5) <|
        gd (kd (h11.2 x0 1) = 4) <|
        gd (kd (h11.2 (h11.2 x0 1) 7) = 13) <|
        gd (inr x4 (ln (h11.2 (h11.2 x0 1) 7)) = true) <|
        gd (kd (h11.2 x0 1) = 4) <|
        bd (f_X5_find h11 (h11.2 x0 9) (r2 &&& (((1 : Int32) <<< ((x1 - (1 : Int32)) &&& 31)) ^^^ (-1 : Int32))) (h11.1 (h11.2 (h11.2 x0 1) 7) x4.toNatClampNeg) (h11.1 (h11.2 x0 1) 2)) <| fun r18 h19 =>
        if r18 = 0 then
          f_X11_value_42 fu h19 x0 x1 x2 (x3 + (1 : Int32)) (x4 + (1 : Int32))
        else
          f_X11_value_42 fu h19 x0 x1 x2 x3 (x4 + (1 : Int32))
def f_X11_value (h : Hp) (x0 : Nat) (x1 : Int32) : Option (Int32 × Hp) :=
  gd (kd x0 = 11) <|
  gd (kd (h.2 x0 1) = 4) <|
  bd (f_X4_isNumber h (h.2 x0 1) x1) <| fun r2 h3 =>
  if r2 = 0 then
    some ((-1 : Int32), h3)
  else
    gd (kd (h3.2 x0 3) = 2) <|
    bd (f_X2_taken h3 (h3.2 x0 3)) <| fun r6 h7 =>
    bd (f_X11_hasBit h7 r6 (x1 - (1 : Int32))) <| fun r9 h10 =>
    if r9 = 0 then
      bd (f_X11_sceneNow h10 x0) <| fun r12 h13 =>
      gd (kd r12 = 6) <|
      f_X11_value_42 FU h13 x0 x1 r12 (0 : Int32) (0 : Int32)
    else
      some ((-2 : Int32), h10)
def f_X11_changed_13 : Nat → Hp → Nat → Nat → Int32 → Int32 → Int32 → Option (Int32 × Hp)
  | 0 => fun _ _ _ _ _ _ => none
  | fu + 1 => fun h x0 x1 x2 x3 x4 =>
    if (3 : Int32) < x4 then
      some (x3, h)
    else
      lt ((si h x1 4 x4)) <| fun h1 =>
      gd (kd (h1.2 x0 11) = 1) <|
      bd (f_X1_stuckIn h1 (h1.2 x0 11) x1) <| fun r4 h5 =>
      bd (f_J6_bitCount_0f7a4 h5 r4) <| fun r7 h8 =>
      if x2 ≤ r7 then
        f_X11_changed_13 fu h8 x0 x1 x2 x3 (x4 + (1 : Int32))
      else
        f_X11_changed_13 fu h8 x0 x1 r7 x4 (x4 + (1 : Int32))
def f_X11_changed (h : Hp) (x0 : Nat) : Option (Int32 × Hp) :=
  gd (kd x0 = 11) <|
  bd (f_X11_sceneNow h x0) <| fun r1 h2 =>
  gd (kd r1 = 6) <|
  f_X11_changed_13 FU h2 x0 r1 (7 : Int32) (0 : Int32) (0 : Int32)
def f_X11_ways (h : Hp) (x0 : Nat) (x1 : Int32) (x2 : Int32) (x3 : Int32) : Option (Int32 × Hp) :=
  gd (kd x0 = 11) <|
  gd (kd (h.2 x0 1) = 4) <|
  bd (f_X4_isSet h (h.2 x0 1) x1) <| fun r2 h3 =>
  if r2 = 0 then
    some ((-1 : Int32), h3)
  else
    if x2 < 0 then
      some ((-1 : Int32), h3)
    else
      if (99 : Int32) < x2 then
        some ((-1 : Int32), h3)
      else
        if x3 < 0 then
          some ((-1 : Int32), h3)
        else
          if x3 ≤ (3 : Int32) then
            gd (kd (h3.2 x0 8) = 9) <|
            bd (f_X9_reckon h3 (h3.2 x0 8) x1 x3) <| fun r6 h7 =>
            gd (kd (h7.2 x0 8) = 9) <|
            bd (f_X9_comingTo h7 (h7.2 x0 8) x2) <| fun r10 h11 =>
            some (r10, h11)
          else
            some ((-1 : Int32), h3)
def f_X11_lowest_15 : Nat → Hp → Nat → Int32 → Int32 → Option (Int32 × Hp)
  | 0 => fun _ _ _ _ => none
  | fu + 1 => fun h x0 x1 x2 =>
    if (99 : Int32) < x2 then
      some ((-4 : Int32), h)
    else
      bd (f_X11_usedNow h x0 x1 x2) <| fun r1 h2 =>
      if r1 = 0 then
        some (x2, h2)
      else
        f_X11_lowest_15 fu h2 x0 x1 (x2 + (1 : Int32))
def f_X11_lowest (h : Hp) (x0 : Nat) (x1 : Int32) : Option (Int32 × Hp) :=
  gd (kd x0 = 11) <|
  gd (kd (h.2 x0 1) = 4) <|
  bd (f_X4_isPerson h (h.2 x0 1) x1) <| fun r2 h3 =>
  if r2 = 0 then
    some ((-1 : Int32), h3)
  else
    f_X11_lowest_15 FU h3 x0 x1 (1 : Int32)
def f_X11_enter (h : Hp) (x0 : Nat) (x1 : Int32) : Option (Int32 × Hp) :=
  gd (kd x0 = 11) <|
  gd (kd (h.2 x0 1) = 4) <|
  bd (f_X4_isSet h (h.2 x0 1) x1) <| fun r2 h3 =>
  if r2 = 0 then
    some ((-1 : Int32), h3)
  else
    gd (kd (h3.2 x0 7) = 0) <|
    bd (f_X0_append h3 (h3.2 x0 7) x1) <| fun r6 h7 =>
    if r6 = 0 then
      some ((-3 : Int32), h7)
    else
      gd (kd (h7.2 x0 7) = 0) <|
      some ((h7.1 (h7.2 x0 7) 0), h7)
def f_X11_close (h : Hp) (x0 : Nat) : Option (Int32 × Hp) :=
  gd (kd x0 = 11) <|
  gd (kd (h.2 x0 7) = 0) <|
  gd (kd (h.2 x0 7) = 0) <|
  lt ((si h (h.2 x0 7) 0 (0 : Int32))) <| fun h3 =>
  some ((h.1 (h.2 x0 7) 0), h3)
def f_X11_book (h : Hp) (x0 : Nat) (x1 : Int32) : Option (Int32 × Hp) :=
  gd (kd x0 = 11) <|
  if x1 < (-1 : Int32) then
    some ((-1 : Int32), h)
  else
    gd (kd (h.2 x0 7) = 0) <|
    if x1 < (h.1 (h.2 x0 7) 0) then
      gd (kd (h.2 x0 7) = 0) <|
      gd (kd (h.2 x0 1) = 4) <|
      gd (kd (h.2 x0 8) = 9) <|
      bd (f_X0_read h (h.2 x0 7) (h.2 x0 1) (h.2 x0 8)) <| fun r5 h6 =>
      if 0 ≤ x1 then
        gd (kd (h6.2 x0 7) = 0) <|
        bd (f_X0_surePerson h6 (h6.2 x0 7) x1) <| fun r9 h10 =>
        some (r9, h10)
      else
        gd (kd (h6.2 x0 7) = 0) <|
        some ((h6.1 (h6.2 x0 7) 1), h6)
    else
      some ((-1 : Int32), h)
def f_X11_twice (h : Hp) (x0 : Nat) : Option (Int32 × Hp) :=
  gd (kd x0 = 11) <|
  gd (kd (h.2 x0 7) = 0) <|
  bd (f_X0_inTwoRows h (h.2 x0 7)) <| fun r2 h3 =>
  if r2 = 0 then
    some ((-4 : Int32), h3)
  else
    bd (f_X11_firstBit h3 r2) <| fun r5 h6 =>
    some ((r5 + (1 : Int32)), h6)
def f_X11_corner (h : Hp) (x0 : Nat) (x1 : Int32) (x2 : Int32) : Option (Int32 × Hp) :=
  gd (kd x0 = 11) <|
  gd (kd (h.2 x0 1) = 4) <|
  bd (f_X4_isPerson h (h.2 x0 1) x1) <| fun r2 h3 =>
  if r2 = 0 then
    some ((-1 : Int32), h3)
  else
    if x2 < 0 then
      some ((-1 : Int32), h3)
    else
      if x2 ≤ (1 : Int32) then
        gd (kd (h3.2 x0 3) = 2) <|
        bd (f_X11_hasBit h3 (h3.1 (h3.2 x0 3) 2) x1) <| fun r6 h7 =>
        if r6 = 0 then
          gd (kd (h7.2 x0 11) = 1) <|
          bd (f_X11_sceneNow h7 x0) <| fun r10 h11 =>
          gd (kd r10 = 6) <|
          bd (f_X1_cornerBy h11 (h7.2 x0 11) r10 x1) <| fun r14 h15 =>
          if r14 = 0 then
            some ((-4 : Int32), h15)
          else
            if x2 = 0 then
              gd (kd (h15.2 x0 11) = 1) <|
              some ((h15.1 (h15.2 x0 11) 3), h15)
            else
              gd (kd (h15.2 x0 11) = 1) <|
              some ((h15.1 (h15.2 x0 11) 0), h15)
        else
          some ((-2 : Int32), h7)
      else
        some ((-1 : Int32), h3)
def f_X11_year_42 : Nat → Hp → Nat → Int32 → Int32 → Int32 → Int32 → Int32 → Int32 → Option (Int32 × Hp)
  | 0 => fun _ _ _ _ _ _ _ _ => none
  | fu + 1 => fun h x0 x1 x2 x3 x4 x5 x6 =>
    if x2 ≤ x6 then
      if x3 = 0 then
        some (x4, h)
      else
        some (x5, h)
    else
      gd (kd (h.2 x0 10) = 6) <|
      gd (kd (h.2 x0 1) = 4) <|
      bd (f_X6_setDrawn h (h.2 x0 10) (h.2 x0 1) x1 x6) <| fun r3 h4 =>
      gd (kd (h4.2 x0 11) = 1) <|
      gd (kd (h4.2 x0 10) = 6) <|
      bd (f_X1_stuckIn h4 (h4.2 x0 11) (h4.2 x0 10)) <| fun r8 h9 =>
      bd (f_J6_bitCount_0f7a4 h9 r8) <| fun r11 h12 =>
      if r8 = 0 then
        f_X11_year_42 fu h12 x0 x1 x2 x3 (x4 + r11) (x5 + (1 : Int32)) (x6 + (1 : Int32))
      else
        f_X11_year_42 fu h12 x0 x1 x2 x3 (x4 + r11) (x5 + (0 : Int32)) (x6 + (1 : Int32))
def f_X11_year (h : Hp) (x0 : Nat) (x1 : Int32) (x2 : Int32) (x3 : Int32) : Option (Int32 × Hp) :=
  gd (kd x0 = 11) <|
  if x1 < 0 then
    some ((-1 : Int32), h)
  else
    if (9999 : Int32) < x1 then
      some ((-1 : Int32), h)
    else
      if x2 < (1 : Int32) then
        some ((-1 : Int32), h)
      else
        if (30 : Int32) < x2 then
          some ((-1 : Int32), h)
        else
          if x3 < 0 then
            some ((-1 : Int32), h)
          else
            if x3 ≤ (1 : Int32) then
              f_X11_year_42 FU h x0 x1 x2 x3 (0 : Int32) (0 : Int32) (0 : Int32)
            else
              some ((-1 : Int32), h)
def f_X11_keep (h : Hp) (x0 : Nat) : Option (Int32 × Hp) :=
  gd (kd x0 = 11) <|
  gd (kd (h.2 x0 5) = 3) <|
  if (h.1 (h.2 x0 5) 0) < (2 : Int32) then
    gd (kd (h.2 x0 5) = 3) <|
    gd (kd (h.2 x0 3) = 2) <|
    bd (f_X3_push h (h.2 x0 5) (h.2 x0 3)) <| fun r4 h5 =>
    gd (kd (h5.2 x0 5) = 3) <|
    some ((h5.1 (h5.2 x0 5) 0), h5)
  else
    some ((-3 : Int32), h)
def f_X11_back (h : Hp) (x0 : Nat) : Option (Int32 × Hp) :=
  gd (kd x0 = 11) <|
  gd (kd (h.2 x0 5) = 3) <|
  gd (kd (h.2 x0 3) = 2) <|
  bd (f_X3_pop h (h.2 x0 5) (h.2 x0 3)) <| fun r3 h4 =>
  if r3 = 0 then
    some ((-2 : Int32), h4)
  else
    gd (kd (h4.2 x0 4) = 3) <|
    lt ((si h4 (h4.2 x0 4) 0 (0 : Int32))) <| fun h7 =>
    gd (kd (h7.2 x0 5) = 3) <|
    some ((h7.1 (h7.2 x0 5) 0), h7)
def f_X11_count (h : Hp) (x0 : Nat) (x1 : Int32) : Option (Int32 × Hp) :=
  gd (kd x0 = 11) <|
  if x1 = (0 : Int32) then
    gd (kd (h.2 x0 1) = 4) <|
    some ((h.1 (h.2 x0 1) 0), h)
  else if x1 = (1 : Int32) then
    gd (kd (h.2 x0 1) = 4) <|
    some ((h.1 (h.2 x0 1) 1), h)
  else if x1 = (2 : Int32) then
    gd (kd (h.2 x0 3) = 2) <|
    bd (f_X2_taken h (h.2 x0 3)) <| fun r4 h5 =>
    bd (f_J6_bitCount_0f7a4 h5 r4) <| fun r7 h8 =>
    some (r7, h8)
  else if x1 = (3 : Int32) then
    gd (kd (h.2 x0 3) = 2) <|
    bd (f_J6_bitCount_0f7a4 h (h.1 (h.2 x0 3) 2)) <| fun r11 h12 =>
    some (r11, h12)
  else if x1 = (4 : Int32) then
    gd (kd (h.2 x0 3) = 2) <|
    some ((h.1 (h.2 x0 3) 3), h)
  else if x1 = (5 : Int32) then
    gd (kd (h.2 x0 3) = 2) <|
    if (h.1 (h.2 x0 3) 4) = 0 then
      some ((0 : Int32), h)
    else
      some ((1 : Int32), h)
  else if x1 = (6 : Int32) then
    gd (kd (h.2 x0 6) = 10) <|
    some ((h.1 (h.2 x0 6) 0), h)
  else if x1 = (7 : Int32) then
    gd (kd (h.2 x0 7) = 0) <|
    some ((h.1 (h.2 x0 7) 0), h)
  else if x1 = (8 : Int32) then
    gd (kd (h.2 x0 4) = 3) <|
    some ((h.1 (h.2 x0 4) 0), h)
  else if x1 = (9 : Int32) then
    gd (kd (h.2 x0 5) = 3) <|
    some ((h.1 (h.2 x0 5) 0), h)
  else if x1 = (10 : Int32) then
    gd (kd (h.2 x0 0) = 8) <|
    some ((h.1 (h.2 x0 0) 0), h)
  else 
    some ((-1 : Int32), h)
def f_X12_in (h : Hp) (x0 : Int64) (x2 : Int64) (x4 : Int64) : Option (Int32 × Hp) :=
  if (lg_cmp x0 x2) < 0 then
    some ((0 : Int32), h)
  else
    if 0 < (lg_cmp x0 x4) then
      some ((0 : Int32), h)
    else
      some ((1 : Int32), h)
def f_X12_has (h : Hp) (x0 : Int32) (x1 : Int32) : Option (Int32 × Hp) :=
  if ((x0 >>> (x1 &&& 31)) &&& (1 : Int32)) = (1 : Int32) then
    some ((1 : Int32), h)
  else
    some ((0 : Int32), h)
def f_X12_bits_4 : Nat → Hp → Int32 → Int32 → Int32 → Option (Int32 × Hp)
  | 0 => fun _ _ _ _ => none
  | fu + 1 => fun h x0 x1 x2 =>
    if (24 : Int32) ≤ x2 then
      some (x1, h)
    else
      f_X12_bits_4 fu h x0 (x1 + ((x0 >>> (x2 &&& 31)) &&& (1 : Int32))) (x2 + (1 : Int32))
def f_X12_bits (h : Hp) (x0 : Int32) : Option (Int32 × Hp) :=
  f_X12_bits_4 FU h x0 (0 : Int32) (0 : Int32)
def f_X12_begin_52 : Nat → Hp → Nat → Int32 → Option (Unit × Hp)
  | 0 => fun _ _ _ => none
  | fu + 1 => fun h x0 x1 =>
    if (24 : Int32) < x1 then
      some ((), h)
    else
      gd (kd (h.2 x0 2) = 16) <|
      gd (inr ((4 : Int32) + x1) (ln (h.2 x0 2)) = true) <|
      lt ((si h (h.2 x0 2) ((4 : Int32) + x1).toNatClampNeg (1 : Int32))) <| fun h3 =>
      gd (kd (h3.2 x0 2) = 16) <|
      gd (inr ((28 : Int32) + x1) (ln (h3.2 x0 2)) = true) <|
      lt ((si h3 (h3.2 x0 2) ((28 : Int32) + x1).toNatClampNeg (-4 : Int32))) <| fun h7 =>
      f_X12_begin_52 fu h7 x0 (x1 + (1 : Int32))
def f_X12_begin_2 : Nat → Hp → Nat → Int32 → Option (Unit × Hp)
  | 0 => fun _ _ _ => none
  | fu + 1 => fun h x0 x1 =>
    if (59 : Int32) ≤ x1 then
      gd (kd (h.2 x0 2) = 16) <|
      gd (inr (0 : Int32) (ln (h.2 x0 2)) = true) <|
      lt ((si h (h.2 x0 2) (0 : Int32).toNatClampNeg (12 : Int32))) <| fun h3 =>
      gd (kd (h3.2 x0 2) = 16) <|
      gd (inr (2 : Int32) (ln (h3.2 x0 2)) = true) <|
      lt ((si h3 (h3.2 x0 2) (2 : Int32).toNatClampNeg (1 : Int32))) <| fun h7 =>
      gd (kd (h7.2 x0 2) = 16) <|
      gd (inr (3 : Int32) (ln (h7.2 x0 2)) = true) <|
      lt ((si h7 (h7.2 x0 2) (3 : Int32).toNatClampNeg (1 : Int32))) <| fun h11 =>
      gd (kd (h11.2 x0 2) = 16) <|
      gd (inr (4 : Int32) (ln (h11.2 x0 2)) = true) <|
      lt ((si h11 (h11.2 x0 2) (4 : Int32).toNatClampNeg (2 : Int32))) <| fun h15 =>
      f_X12_begin_52 FU h15 x0 (1 : Int32)
    else
      gd (kd (h.2 x0 2) = 16) <|
      gd (inr x1 (ln (h.2 x0 2)) = true) <|
      lt ((si h (h.2 x0 2) x1.toNatClampNeg (0 : Int32))) <| fun h19 =>
      f_X12_begin_2 fu h19 x0 (x1 + (1 : Int32))
def f_X12_begin (h : Hp) (x0 : Nat) : Option (Unit × Hp) :=
  gd (kd x0 = 12) <|
  f_X12_begin_2 FU h x0 (0 : Int32)
def f_X12_dawn_45 (h : Hp) (t0 : Nat) (t1 : Int32) (t2 : Int32) : Option (Unit × Hp) :=
  gd (inr t1 (ln t0) = true) <|
  lt ((si h t0 t1.toNatClampNeg t2)) <| fun h2 =>
  some ((), h2)
def f_X12_dawn_24 (k2 : Hp → Nat → Int32 → Int32 → Option (Unit × Hp)) (h : Hp) (x0 : Nat) (x1 : Int32) (x2 : Int32) (t0 : Nat) (t1 : Int32) (t2 : Int32) : Option (Unit × Hp) :=
  gd (inr t1 (ln t0) = true) <|
  lt ((si h t0 t1.toNatClampNeg t2)) <| fun h2 =>
  k2 h2 x0 x1 (x2 + (1 : Int32))
def f_X12_dawn_2 : Nat → Hp → Nat → Int32 → Int32 → Option (Unit × Hp)
  | 0 => fun _ _ _ _ => none
  | fu + 1 => fun h x0 x1 x2 =>
    if (51 : Int32) ≤ x2 then
      gd (kd (h.2 x0 3) = 16) <|
      if x1 = 0 then
        f_X12_dawn_45 h (h.2 x0 3) (1 : Int32) (0 : Int32)
      else
        f_X12_dawn_45 h (h.2 x0 3) (1 : Int32) (1 : Int32)
    else
      gd (kd (h.2 x0 3) = 16) <|
      if x2 ≤ (2 : Int32) then
        f_X12_dawn_24 (f_X12_dawn_2 fu) h x0 x1 x2 (h.2 x0 3) x2 (0 : Int32)
      else
        f_X12_dawn_24 (f_X12_dawn_2 fu) h x0 x1 x2 (h.2 x0 3) x2 (-4 : Int32)
def f_X12_dawn (h : Hp) (x0 : Nat) (x1 : Int32) : Option (Unit × Hp) :=
  gd (kd x0 = 12) <|
  f_X12_dawn_2 FU h x0 x1 (0 : Int32)
def f_X12_noNumber (h : Hp) (x0 : Nat) (x1 : Int32) : Option (Int32 × Hp) :=
  gd (kd x0 = 12) <|
  gd (kd (h.2 x0 1) = 16) <|
  gd (inr (0 : Int32) (ln (h.2 x0 1)) = true) <|
  bd (f_X12_in h x1.toInt64 (1 : Int64) (h.1 (h.2 x0 1) (0 : Int32).toNatClampNeg).toInt64) <| fun r3 h4 =>
  if r3 = 0 then
    some ((1 : Int32), h4)
  else
    some ((0 : Int32), h4)
def f_X12_noOne (h : Hp) (x0 : Nat) (x1 : Int32) : Option (Int32 × Hp) :=
  gd (kd x0 = 12) <|
  gd (kd (h.2 x0 1) = 16) <|
  gd (inr (1 : Int32) (ln (h.2 x0 1)) = true) <|
  bd (f_X12_in h x1.toInt64 (0 : Int64) ((h.1 (h.2 x0 1) (1 : Int32).toNatClampNeg) - (1 : Int32)).toInt64) <| fun r3 h4 =>
  if r3 = 0 then
    some ((1 : Int32), h4)
  else
    some ((0 : Int32), h4)
def f_X12_noSet (h : Hp) (x0 : Nat) (x1 : Int32) : Option (Int32 × Hp) :=
  gd (kd x0 = 12) <|
  gd (kd (h.2 x0 1) = 16) <|
  gd (inr (0 : Int32) (ln (h.2 x0 1)) = true) <|
  bd (f_X12_in h x1.toInt64 (0 : Int64) (((1 : Int32) <<< ((h.1 (h.2 x0 1) (0 : Int32).toNatClampNeg) &&& 31)) - (1 : Int32)).toInt64) <| fun r3 h4 =>
  if r3 = 0 then
    some ((1 : Int32), h4)
  else
    some ((0 : Int32), h4)
def f_X12_write (h : Hp) (x0 : Nat) (x1 : Int32) : Option (Int32 × Hp) :=
  gd (kd x0 = 12) <|
  lt ((si h x0 0 (0 : Int32))) <| fun h1 =>
  bd (f_X12_in h1 x1.toInt64 (32 : Int64) (126 : Int64)) <| fun r3 h4 =>
  if r3 = 0 then
    some ((-1 : Int32), h4)
  else
    if (h4.1 x0 9) = (200 : Int32) then
      some ((-3 : Int32), h4)
    else
      gd (kd (h4.2 x0 8) = 16) <|
      gd (inr (h4.1 x0 9) (ln (h4.2 x0 8)) = true) <|
      lt ((si h4 (h4.2 x0 8) (h4.1 x0 9).toNatClampNeg x1)) <| fun h8 =>
      lt ((si h8 x0 9 ((h8.1 x0 9) + (1 : Int32)))) <| fun h10 =>
      some ((h10.1 x0 9), h10)
def f_X12_wipe (h : Hp) (x0 : Nat) : Option (Int32 × Hp) :=
  gd (kd x0 = 12) <|
  lt ((si h x0 0 (0 : Int32))) <| fun h1 =>
  lt ((si h1 x0 9 (0 : Int32))) <| fun h3 =>
  some ((h1.1 x0 9), h3)
def f_X12_isFigure (h : Hp) (x0 : Nat) : Option (Int32 × Hp) :=
  gd (kd x0 = 12) <|
  if (h.1 x0 9) ≤ (h.1 x0 10) then
    some ((0 : Int32), h)
  else
    gd (kd (h.2 x0 8) = 16) <|
    gd (inr (h.1 x0 10) (ln (h.2 x0 8)) = true) <|
    bd (f_X12_in h (h.1 (h.2 x0 8) (h.1 x0 10).toNatClampNeg).toInt64 (48 : Int64) (57 : Int64)) <| fun r3 h4 =>
    if r3 = 0 then
      some ((0 : Int32), h4)
    else
      some ((1 : Int32), h4)
def f_X12_areNumbers_145 (k2 : Hp → Nat → Int32 → Int32 → Option (Int32 × Hp)) (h : Hp) (x0 : Nat) (x1 : Int32) (x2 : Int32) (t0 : Int32) : Option (Int32 × Hp) :=
  if t0 = 0 then
    some ((0 : Int32), h)
  else
    lt ((si h x0 10 ((h.1 x0 10) + (1 : Int32)))) <| fun h1 =>
    k2 h1 x0 x1 (x2 + (1 : Int32))
def f_X12_areNumbers_144 (k2 : Hp → Nat → Int32 → Int32 → Option (Int32 × Hp)) (h : Hp) (x0 : Nat) (x1 : Int32) (x2 : Int32) : Option (Int32 × Hp) :=
  f_X12_areNumbers_145 k2 h x0 x1 x2 (0 : Int32)
def f_X12_areNumbers_137 (k2 : Hp → Nat → Int32 → Int32 → Option (Int32 × Hp)) (h : Hp) (x0 : Nat) (x1 : Int32) (x2 : Int32) (t0 : Int32) (t1 : Int32) : Option (Int32 × Hp) :=
  if t0 = t1 then
    f_X12_areNumbers_145 k2 h x0 x1 x2 (1 : Int32)
  else
    f_X12_areNumbers_144 k2 h x0 x1 x2
def f_X12_areNumbers_72 (k2 : Hp → Nat → Int32 → Int32 → Option (Int32 × Hp)) (k19 : Hp → Nat → Int32 → Int32 → Int32 → Option (Int32 × Hp)) (h : Hp) (x0 : Nat) (x1 : Int32) (x2 : Int32) (x3 : Int32) (t0 : Nat) (t1 : Int32) (t2 : Int32) : Option (Int32 × Hp) :=
  gd (inr t1 (ln t0) = true) <|
  lt ((si h t0 t1.toNatClampNeg t2)) <| fun h2 =>
  lt ((si h2 x0 10 ((h2.1 x0 10) + (1 : Int32)))) <| fun h4 =>
  k19 h4 x0 x1 x2 x3
def f_X12_areNumbers_19 (k2 : Hp → Nat → Int32 → Int32 → Option (Int32 × Hp)) : Nat → Hp → Nat → Int32 → Int32 → Int32 → Option (Int32 × Hp)
  | 0 => fun _ _ _ _ _ => none
  | fu + 1 => fun h x0 x1 x2 x3 =>
    bd (f_X12_isFigure h x0) <| fun r1 h2 =>
    if r1 = 0 then
      bd (f_X12_in h2 ((h2.1 x0 10) - x3).toInt64 (1 : Int64) (2 : Int64)) <| fun r4 h5 =>
      if r4 = 0 then
        f_X12_areNumbers_144 k2 h5 x0 x1 x2
      else
        if (h5.1 x0 9) ≤ (h5.1 x0 10) then
          f_X12_areNumbers_144 k2 h5 x0 x1 x2
        else
          gd (kd (h5.2 x0 8) = 16) <|
          gd (inr (h5.1 x0 10) (ln (h5.2 x0 8)) = true) <|
          if (x1 - (1 : Int32)) ≤ x2 then
            f_X12_areNumbers_137 k2 h5 x0 x1 x2 (h5.1 (h5.2 x0 8) (h5.1 x0 10).toNatClampNeg) (59 : Int32)
          else
            f_X12_areNumbers_137 k2 h5 x0 x1 x2 (h5.1 (h5.2 x0 8) (h5.1 x0 10).toNatClampNeg) (44 : Int32)
    else
      gd (kd (h2.2 x0 11) = 16) <|
      if (2 : Int32) ≤ ((h2.1 x0 10) - x3) then
        gd (kd (h2.2 x0 11) = 16) <|
        gd (inr x2 (ln (h2.2 x0 11)) = true) <|
        f_X12_areNumbers_72 k2 (f_X12_areNumbers_19 k2 fu) h2 x0 x1 x2 x3 (h2.2 x0 11) x2 (h2.1 (h2.2 x0 11) x2.toNatClampNeg)
      else
        gd (kd (h2.2 x0 11) = 16) <|
        gd (inr x2 (ln (h2.2 x0 11)) = true) <|
        gd (kd (h2.2 x0 8) = 16) <|
        gd (inr (h2.1 x0 10) (ln (h2.2 x0 8)) = true) <|
        f_X12_areNumbers_72 k2 (f_X12_areNumbers_19 k2 fu) h2 x0 x1 x2 x3 (h2.2 x0 11) x2 ((((10 : Int32) * (h2.1 (h2.2 x0 11) x2.toNatClampNeg)) + (h2.1 (h2.2 x0 8) (h2.1 x0 10).toNatClampNeg)) - (48 : Int32))
def f_X12_areNumbers_2 : Nat → Hp → Nat → Int32 → Int32 → Option (Int32 × Hp)
  | 0 => fun _ _ _ _ => none
  | fu + 1 => fun h x0 x1 x2 =>
    if x1 ≤ x2 then
      some ((1 : Int32), h)
    else
      gd (kd (h.2 x0 11) = 16) <|
      gd (inr x2 (ln (h.2 x0 11)) = true) <|
      lt ((si h (h.2 x0 11) x2.toNatClampNeg (0 : Int32))) <| fun h3 =>
      f_X12_areNumbers_19 (f_X12_areNumbers_2 fu) FU h3 x0 x1 x2 (h.1 x0 10)
def f_X12_areNumbers (h : Hp) (x0 : Nat) (x1 : Int32) : Option (Int32 × Hp) :=
  gd (kd x0 = 12) <|
  f_X12_areNumbers_2 FU h x0 x1 (0 : Int32)
def f_X12_readItem_354 : Nat → Hp → Nat → Int32 → Option (Int32 × Hp)
  | 0 => fun _ _ _ => none
  | fu + 1 => fun h x0 x3 =>
    if (3 : Int32) ≤ x3 then
      some ((1 : Int32), h)
    else
      gd (kd (h.2 x0 2) = 16) <|
      gd (kd (h.2 x0 11) = 16) <|
      gd (inr x3 (ln (h.2 x0 11)) = true) <|
      gd (inr ((2 : Int32) + x3) (ln (h.2 x0 2)) = true) <|
      lt ((si h (h.2 x0 2) ((2 : Int32) + x3).toNatClampNeg (h.1 (h.2 x0 11) x3.toNatClampNeg))) <| fun h5 =>
      f_X12_readItem_354 fu h5 x0 (x3 + (1 : Int32))
def f_X12_readItem (h : Hp) (x0 : Nat) (x1 : Int32) (x2 : Int32) : Option (Int32 × Hp) :=
  gd (kd x0 = 12) <|
  if x1 = (99 : Int32) then
    bd (f_X12_areNumbers h x0 (2 : Int32)) <| fun r1 h2 =>
    if r1 = 0 then
      some ((0 : Int32), h2)
    else
      gd (kd (h2.2 x0 11) = 16) <|
      gd (inr (0 : Int32) (ln (h2.2 x0 11)) = true) <|
      gd (kd (h2.2 x0 2) = 16) <|
      gd (inr (0 : Int32) (ln (h2.2 x0 2)) = true) <|
      bd (f_X12_in h2 (h2.1 (h2.2 x0 11) (0 : Int32).toNatClampNeg).toInt64 (1 : Int64) (h2.1 (h2.2 x0 2) (0 : Int32).toNatClampNeg).toInt64) <| fun r8 h9 =>
      if r8 = 0 then
        some ((0 : Int32), h9)
      else
        gd (kd (h9.2 x0 11) = 16) <|
        gd (inr (1 : Int32) (ln (h9.2 x0 11)) = true) <|
        if (h9.1 (h9.2 x0 11) (1 : Int32).toNatClampNeg) ≤ (9 : Int32) then
          gd (kd (h9.2 x0 2) = 16) <|
          gd (kd (h9.2 x0 11) = 16) <|
          gd (inr (0 : Int32) (ln (h9.2 x0 11)) = true) <|
          gd (kd (h9.2 x0 11) = 16) <|
          gd (inr (1 : Int32) (ln (h9.2 x0 11)) = true) <|
          gd (inr ((4 : Int32) + (h9.1 (h9.2 x0 11) (0 : Int32).toNatClampNeg)) (ln (h9.2 x0 2)) = true) <|
          lt ((si h9 (h9.2 x0 2) ((4 : Int32) + (h9.1 (h9.2 x0 11) (0 : Int32).toNatClampNeg)).toNatClampNeg (h9.1 (h9.2 x0 11) (1 : Int32).toNatClampNeg))) <| fun h19 =>
          some ((1 : Int32), h19)
        else
          some ((0 : Int32), h9)
  else if x1 = (104 : Int32) then
    bd (f_X12_areNumbers h x0 (2 : Int32)) <| fun r21 h22 =>
    if r21 = 0 then
      some ((0 : Int32), h22)
    else
      gd (kd (h22.2 x0 11) = 16) <|
      gd (inr (0 : Int32) (ln (h22.2 x0 11)) = true) <|
      gd (kd (h22.2 x0 2) = 16) <|
      gd (inr (0 : Int32) (ln (h22.2 x0 2)) = true) <|
      bd (f_X12_in h22 (h22.1 (h22.2 x0 11) (0 : Int32).toNatClampNeg).toInt64 (1 : Int64) (h22.1 (h22.2 x0 2) (0 : Int32).toNatClampNeg).toInt64) <| fun r28 h29 =>
      if r28 = 0 then
        some ((0 : Int32), h29)
      else
        gd (kd (h29.2 x0 11) = 16) <|
        gd (inr (1 : Int32) (ln (h29.2 x0 11)) = true) <|
        gd (kd (h29.2 x0 2) = 16) <|
        gd (inr (1 : Int32) (ln (h29.2 x0 2)) = true) <|
        if (h29.1 (h29.2 x0 11) (1 : Int32).toNatClampNeg) < (h29.1 (h29.2 x0 2) (1 : Int32).toNatClampNeg) then
          gd (kd (h29.2 x0 2) = 16) <|
          gd (kd (h29.2 x0 11) = 16) <|
          gd (inr (0 : Int32) (ln (h29.2 x0 11)) = true) <|
          gd (kd (h29.2 x0 11) = 16) <|
          gd (inr (1 : Int32) (ln (h29.2 x0 11)) = true) <|
          gd (inr ((28 : Int32) + (h29.1 (h29.2 x0 11) (0 : Int32).toNatClampNeg)) (ln (h29.2 x0 2)) = true) <|
          lt ((si h29 (h29.2 x0 2) ((28 : Int32) + (h29.1 (h29.2 x0 11) (0 : Int32).toNatClampNeg)).toNatClampNeg (h29.1 (h29.2 x0 11) (1 : Int32).toNatClampNeg))) <| fun h41 =>
          some ((1 : Int32), h41)
        else
          some ((0 : Int32), h29)
  else if x1 = (107 : Int32) then
    bd (f_X12_areNumbers h x0 (3 : Int32)) <| fun r43 h44 =>
    if r43 = 0 then
      some ((0 : Int32), h44)
    else
      gd (kd (h44.2 x0 11) = 16) <|
      gd (inr (0 : Int32) (ln (h44.2 x0 11)) = true) <|
      if (3 : Int32) < (h44.1 (h44.2 x0 11) (0 : Int32).toNatClampNeg) then
        some ((0 : Int32), h44)
      else
        gd (kd (h44.2 x0 11) = 16) <|
        gd (inr (1 : Int32) (ln (h44.2 x0 11)) = true) <|
        if (9 : Int32) < (h44.1 (h44.2 x0 11) (1 : Int32).toNatClampNeg) then
          some ((0 : Int32), h44)
        else
          gd (kd (h44.2 x0 11) = 16) <|
          gd (inr (2 : Int32) (ln (h44.2 x0 11)) = true) <|
          if (h44.1 (h44.2 x0 11) (2 : Int32).toNatClampNeg) ≤ (9 : Int32) then
            f_X12_readItem_354 FU h44 x0 (0 : Int32)
          else
            some ((0 : Int32), h44)
  else if x1 = (110 : Int32) then
    if x2 = 0 then
      some ((0 : Int32), h)
    else
      bd (f_X12_areNumbers h x0 (1 : Int32)) <| fun r52 h53 =>
      if r52 = 0 then
        some ((0 : Int32), h53)
      else
        gd (kd (h53.2 x0 11) = 16) <|
        gd (inr (0 : Int32) (ln (h53.2 x0 11)) = true) <|
        bd (f_X12_in h53 (h53.1 (h53.2 x0 11) (0 : Int32).toNatClampNeg).toInt64 (1 : Int64) (24 : Int64)) <| fun r57 h58 =>
        if r57 = 0 then
          some ((0 : Int32), h58)
        else
          gd (kd (h58.2 x0 2) = 16) <|
          gd (kd (h58.2 x0 11) = 16) <|
          gd (inr (0 : Int32) (ln (h58.2 x0 11)) = true) <|
          gd (inr (0 : Int32) (ln (h58.2 x0 2)) = true) <|
          lt ((si h58 (h58.2 x0 2) (0 : Int32).toNatClampNeg (h58.1 (h58.2 x0 11) (0 : Int32).toNatClampNeg))) <| fun h64 =>
          some ((1 : Int32), h64)
  else if x1 = (112 : Int32) then
    gd (kd (h.2 x0 2) = 16) <|
    gd (inr (1 : Int32) (ln (h.2 x0 2)) = true) <|
    if (h.1 (h.2 x0 2) (1 : Int32).toNatClampNeg) = (6 : Int32) then
      some ((0 : Int32), h)
    else
      bd (f_X12_areNumbers h x0 (1 : Int32)) <| fun r68 h69 =>
      if r68 = 0 then
        some ((0 : Int32), h69)
      else
        gd (kd (h69.2 x0 11) = 16) <|
        gd (inr (0 : Int32) (ln (h69.2 x0 11)) = true) <|
        if (h69.1 (h69.2 x0 11) (0 : Int32).toNatClampNeg) = 0 then
          some ((0 : Int32), h69)
        else
          gd (kd (h69.2 x0 2) = 16) <|
          gd (kd (h69.2 x0 2) = 16) <|
          gd (inr (1 : Int32) (ln (h69.2 x0 2)) = true) <|
          gd (kd (h69.2 x0 11) = 16) <|
          gd (inr (0 : Int32) (ln (h69.2 x0 11)) = true) <|
          gd (inr ((53 : Int32) + (h69.1 (h69.2 x0 2) (1 : Int32).toNatClampNeg)) (ln (h69.2 x0 2)) = true) <|
          lt ((si h69 (h69.2 x0 2) ((53 : Int32) + (h69.1 (h69.2 x0 2) (1 : Int32).toNatClampNeg)).toNatClampNeg (h69.1 (h69.2 x0 11) (0 : Int32).toNatClampNeg))) <| fun h79 =>
          gd (kd (h79.2 x0 2) = 16) <|
          gd (inr (1 : Int32) (ln (h79.2 x0 2)) = true) <|
          gd (inr (1 : Int32) (ln (h79.2 x0 2)) = true) <|
          lt ((si h79 (h79.2 x0 2) (1 : Int32).toNatClampNeg ((h79.1 (h79.2 x0 2) (1 : Int32).toNatClampNeg) + (1 : Int32)))) <| fun h84 =>
          some ((1 : Int32), h84)
  else 
    some ((0 : Int32), h)
def f_X12_readAll_11 : Nat → Hp → Nat → Int32 → Option (Int32 × Hp)
  | 0 => fun _ _ _ => none
  | fu + 1 => fun h x0 x1 =>
    if (h.1 x0 9) ≤ (h.1 x0 10) then
      some ((-4 : Int32), h)
    else
      gd (kd (h.2 x0 8) = 16) <|
      gd (inr (h.1 x0 10) (ln (h.2 x0 8)) = true) <|
      lt ((si h x0 10 ((h.1 x0 10) + (1 : Int32)))) <| fun h3 =>
      bd (f_X12_readItem h3 x0 (h.1 (h.2 x0 8) (h.1 x0 10).toNatClampNeg) x1) <| fun r5 h6 =>
      if r5 = 0 then
        some ((h.1 x0 10), h6)
      else
        if x1 = 0 then
          f_X12_readAll_11 fu h6 x0 (0 : Int32)
        else
          if (h.1 (h.2 x0 8) (h.1 x0 10).toNatClampNeg) = (110 : Int32) then
            f_X12_readAll_11 fu h6 x0 (1 : Int32)
          else
            f_X12_readAll_11 fu h6 x0 (0 : Int32)
def f_X12_readAll (h : Hp) (x0 : Nat) : Option (Int32 × Hp) :=
  gd (kd x0 = 12) <|
  bd (f_X12_begin h x0) <| fun r1 h2 =>
  lt ((si h2 x0 10 (0 : Int32))) <| fun h4 =>
  f_X12_readAll_11 FU h4 x0 (1 : Int32)
def f_X12_fault (h : Hp) (x0 : Nat) : Option (Int32 × Hp) :=
  gd (kd x0 = 12) <|
  lt ((si h x0 0 (0 : Int32))) <| fun h1 =>
  bd (f_X12_readAll h1 x0) <| fun r3 h4 =>
  some (r3, h4)
def f_X12_lay_28 : Nat → Hp → Nat → Int32 → Option (Int32 × Hp)
  | 0 => fun _ _ _ => none
  | fu + 1 => fun h x0 x1 =>
    if (59 : Int32) ≤ x1 then
      bd (f_X12_dawn h x0 (0 : Int32)) <| fun r1 h2 =>
      lt ((si h2 x0 14 (0 : Int32))) <| fun h4 =>
      lt ((si h4 x0 27 (0 : Int32))) <| fun h6 =>
      lt ((si h6 x0 5 (0 : Int32))) <| fun h8 =>
      lt ((si h8 x0 7 (0 : Int32))) <| fun h10 =>
      gd (kd (h10.2 x0 1) = 16) <|
      gd (inr (0 : Int32) (ln (h10.2 x0 1)) = true) <|
      some ((h10.1 (h10.2 x0 1) (0 : Int32).toNatClampNeg), h10)
    else
      gd (kd (h.2 x0 1) = 16) <|
      gd (kd (h.2 x0 2) = 16) <|
      gd (inr x1 (ln (h.2 x0 2)) = true) <|
      gd (inr x1 (ln (h.2 x0 1)) = true) <|
      lt ((si h (h.2 x0 1) x1.toNatClampNeg (h.1 (h.2 x0 2) x1.toNatClampNeg))) <| fun h18 =>
      f_X12_lay_28 fu h18 x0 (x1 + (1 : Int32))
def f_X12_lay (h : Hp) (x0 : Nat) : Option (Int32 × Hp) :=
  gd (kd x0 = 12) <|
  lt ((si h x0 0 (0 : Int32))) <| fun h1 =>
  bd (f_X12_readAll h1 x0) <| fun r3 h4 =>
  if r3 = (-4 : Int32) then
    gd (kd (h4.2 x0 2) = 16) <|
    gd (inr (1 : Int32) (ln (h4.2 x0 2)) = true) <|
    if (h4.1 (h4.2 x0 2) (1 : Int32).toNatClampNeg) = 0 then
      some ((-2 : Int32), h4)
    else
      f_X12_lay_28 FU h4 x0 (0 : Int32)
  else
    some ((-2 : Int32), h4)
def f_X12_number (h : Hp) (x0 : Nat) (x1 : Int32) (x2 : Int32) : Option (Int32 × Hp) :=
  gd (kd x0 = 12) <|
  lt ((si h x0 0 (0 : Int32))) <| fun h1 =>
  bd (f_X12_noNumber h1 x0 x1) <| fun r3 h4 =>
  if r3 = 0 then
    if x2 = (0 : Int32) then
      gd (kd (h4.2 x0 1) = 16) <|
      gd (inr ((4 : Int32) + x1) (ln (h4.2 x0 1)) = true) <|
      some ((h4.1 (h4.2 x0 1) ((4 : Int32) + x1).toNatClampNeg), h4)
    else if x2 = (1 : Int32) then
      gd (kd (h4.2 x0 1) = 16) <|
      gd (inr ((28 : Int32) + x1) (ln (h4.2 x0 1)) = true) <|
      some ((h4.1 (h4.2 x0 1) ((28 : Int32) + x1).toNatClampNeg), h4)
    else if x2 = (2 : Int32) then
      gd (kd (h4.2 x0 3) = 16) <|
      gd (inr ((2 : Int32) + x1) (ln (h4.2 x0 3)) = true) <|
      some ((h4.1 (h4.2 x0 3) ((2 : Int32) + x1).toNatClampNeg), h4)
    else if x2 = (3 : Int32) then
      gd (kd (h4.2 x0 3) = 16) <|
      gd (inr ((26 : Int32) + x1) (ln (h4.2 x0 3)) = true) <|
      some ((h4.1 (h4.2 x0 3) ((26 : Int32) + x1).toNatClampNeg), h4)
    else 
      some ((-1 : Int32), h4)
  else
    some ((-1 : Int32), h4)
def f_X12_taken_4 : Nat → Hp → Nat → Int32 → Int32 → Option (Int32 × Hp)
  | 0 => fun _ _ _ _ => none
  | fu + 1 => fun h x0 x1 x2 =>
    gd (kd (h.2 x0 1) = 16) <|
    gd (inr (0 : Int32) (ln (h.2 x0 1)) = true) <|
    if (h.1 (h.2 x0 1) (0 : Int32).toNatClampNeg) < x2 then
      some (x1, h)
    else
      gd (kd (h.2 x0 3) = 16) <|
      gd (inr ((2 : Int32) + x2) (ln (h.2 x0 3)) = true) <|
      if (h.1 (h.2 x0 3) ((2 : Int32) + x2).toNatClampNeg) = (-4 : Int32) then
        f_X12_taken_4 fu h x0 (x1 ||| (0 : Int32)) (x2 + (1 : Int32))
      else
        f_X12_taken_4 fu h x0 (x1 ||| ((1 : Int32) <<< ((x2 - (1 : Int32)) &&& 31))) (x2 + (1 : Int32))
def f_X12_taken (h : Hp) (x0 : Nat) : Option (Int32 × Hp) :=
  gd (kd x0 = 12) <|
  f_X12_taken_4 FU h x0 (0 : Int32) (1 : Int32)
def f_X12_ofOne_67 (k4 : Hp → Nat → Int32 → Int32 → Int32 → Option (Int32 × Hp)) (h : Hp) (x0 : Nat) (x1 : Int32) (x2 : Int32) (x3 : Int32) (t0 : Int32) : Option (Int32 × Hp) :=
  if t0 = 0 then
    k4 h x0 x1 (x2 ||| (0 : Int32)) (x3 + (1 : Int32))
  else
    k4 h x0 x1 (x2 ||| ((1 : Int32) <<< ((x3 - (1 : Int32)) &&& 31))) (x3 + (1 : Int32))
def f_X12_ofOne_62 (k4 : Hp → Nat → Int32 → Int32 → Int32 → Option (Int32 × Hp)) (h : Hp) (x0 : Nat) (x1 : Int32) (x2 : Int32) (x3 : Int32) : Option (Int32 × Hp) :=
  f_X12_ofOne_67 k4 h x0 x1 x2 x3 (1 : Int32)
def f_X12_ofOne_4 : Nat → Hp → Nat → Int32 → Int32 → Int32 → Option (Int32 × Hp)
  | 0 => fun _ _ _ _ _ => none
  | fu + 1 => fun h x0 x1 x2 x3 =>
    gd (kd (h.2 x0 1) = 16) <|
    gd (inr (0 : Int32) (ln (h.2 x0 1)) = true) <|
    if (h.1 (h.2 x0 1) (0 : Int32).toNatClampNeg) < x3 then
      some (x2, h)
    else
      gd (kd (h.2 x0 1) = 16) <|
      gd (inr ((28 : Int32) + x3) (ln (h.2 x0 1)) = true) <|
      if (h.1 (h.2 x0 1) ((28 : Int32) + x3).toNatClampNeg) = (-4 : Int32) then
        f_X12_ofOne_62 (f_X12_ofOne_4 fu) h x0 x1 x2 x3
      else
        gd (kd (h.2 x0 1) = 16) <|
        gd (inr ((28 : Int32) + x3) (ln (h.2 x0 1)) = true) <|
        if (h.1 (h.2 x0 1) ((28 : Int32) + x3).toNatClampNeg) = x1 then
          f_X12_ofOne_62 (f_X12_ofOne_4 fu) h x0 x1 x2 x3
        else
          gd (kd (h.2 x0 3) = 16) <|
          gd (inr ((26 : Int32) + x3) (ln (h.2 x0 3)) = true) <|
          if (h.1 (h.2 x0 3) ((26 : Int32) + x3).toNatClampNeg) = x1 then
            f_X12_ofOne_62 (f_X12_ofOne_4 fu) h x0 x1 x2 x3
          else
            if x3 = (h.1 x0 12) then
              f_X12_ofOne_62 (f_X12_ofOne_4 fu) h x0 x1 x2 x3
            else
              f_X12_ofOne_67 (f_X12_ofOne_4 fu) h x0 x1 x2 x3 (0 : Int32)
def f_X12_ofOne (h : Hp) (x0 : Nat) (x1 : Int32) : Option (Int32 × Hp) :=
  gd (kd x0 = 12) <|
  f_X12_ofOne_4 FU h x0 x1 (0 : Int32) (1 : Int32)
def f_X12_mayOf (h : Hp) (x0 : Nat) (x1 : Int32) : Option (Int32 × Hp) :=
  gd (kd x0 = 12) <|
  bd (f_X12_ofOne h x0 x1) <| fun r1 h2 =>
  bd (f_X12_taken h2 x0) <| fun r4 h5 =>
  some ((r1 &&& (r4 ^^^ (-1 : Int32))), h5)
def f_X12_person (h : Hp) (x0 : Nat) (x1 : Int32) (x2 : Int32) : Option (Int32 × Hp) :=
  gd (kd x0 = 12) <|
  lt ((si h x0 0 (0 : Int32))) <| fun h1 =>
  bd (f_X12_noOne h1 x0 x1) <| fun r3 h4 =>
  if r3 = 0 then
    if x2 = (0 : Int32) then
      gd (kd (h4.2 x0 1) = 16) <|
      gd (inr ((53 : Int32) + x1) (ln (h4.2 x0 1)) = true) <|
      some ((h4.1 (h4.2 x0 1) ((53 : Int32) + x1).toNatClampNeg), h4)
    else if x2 = (1 : Int32) then
      gd (kd (h4.2 x0 3) = 16) <|
      gd (inr (2 : Int32) (ln (h4.2 x0 3)) = true) <|
      some ((((h4.1 (h4.2 x0 3) (2 : Int32).toNatClampNeg) >>> (x1 &&& 31)) &&& (1 : Int32)), h4)
    else if x2 = (2 : Int32) then
      bd (f_X12_mayOf h4 x0 x1) <| fun r10 h11 =>
      some (r10, h11)
    else 
      some ((-1 : Int32), h4)
  else
    some ((-1 : Int32), h4)
def f_X12_law (h : Hp) (x0 : Nat) (x1 : Int32) : Option (Int32 × Hp) :=
  gd (kd x0 = 12) <|
  lt ((si h x0 0 (0 : Int32))) <| fun h1 =>
  bd (f_X12_in h1 x1.toInt64 (0 : Int64) (2 : Int64)) <| fun r3 h4 =>
  if r3 = 0 then
    some ((-1 : Int32), h4)
  else
    gd (kd (h4.2 x0 1) = 16) <|
    gd (inr ((2 : Int32) + x1) (ln (h4.2 x0 1)) = true) <|
    some ((h4.1 (h4.2 x0 1) ((2 : Int32) + x1).toNatClampNeg), h4)
def f_X12_counts (h : Hp) (x0 : Int32) (x1 : Int32) : Option (Int32 × Hp) :=
  if x1 = (1 : Int32) then
    some (x0, h)
  else
    if x1 = (2 : Int32) then
      some ((-x0), h)
    else
      some ((x0 / (2 : Int32)), h)
def f_X12_priceOf (h : Hp) (x0 : Nat) (x1 : Int32) (x2 : Int32) : Option (Int32 × Hp) :=
  gd (kd x0 = 12) <|
  gd (kd (h.2 x0 1) = 16) <|
  gd (inr ((4 : Int32) + x1) (ln (h.2 x0 1)) = true) <|
  if x2 = (2 : Int32) then
    gd (kd (h.2 x0 1) = 16) <|
    gd (inr (3 : Int32) (ln (h.2 x0 1)) = true) <|
    some (((h.1 (h.2 x0 1) ((4 : Int32) + x1).toNatClampNeg) + (h.1 (h.2 x0 1) (3 : Int32).toNatClampNeg)), h)
  else
    if x2 = (3 : Int32) then
      gd (kd (h.2 x0 1) = 16) <|
      gd (inr (4 : Int32) (ln (h.2 x0 1)) = true) <|
      some (((h.1 (h.2 x0 1) ((4 : Int32) + x1).toNatClampNeg) + (h.1 (h.2 x0 1) (4 : Int32).toNatClampNeg)), h)
    else
      some (((h.1 (h.2 x0 1) ((4 : Int32) + x1).toNatClampNeg) + (0 : Int32)), h)
def f_X12_tell_73 (h : Hp) (x0 : Nat) (x1 : Int32) (x2 : Int32) : Option (Int32 × Hp) :=
  if (h.1 x0 14) = (10 : Int32) then
    some ((-3 : Int32), h)
  else
    gd (kd (h.2 x0 13) = 16) <|
    gd (inr ((2 : Int32) * (h.1 x0 14)) (ln (h.2 x0 13)) = true) <|
    lt ((si h (h.2 x0 13) ((2 : Int32) * (h.1 x0 14)).toNatClampNeg x1)) <| fun h3 =>
    gd (kd (h3.2 x0 13) = 16) <|
    gd (inr (((2 : Int32) * (h3.1 x0 14)) + (1 : Int32)) (ln (h3.2 x0 13)) = true) <|
    lt ((si h3 (h3.2 x0 13) (((2 : Int32) * (h3.1 x0 14)) + (1 : Int32)).toNatClampNeg x2)) <| fun h7 =>
    lt ((si h7 x0 14 ((h7.1 x0 14) + (1 : Int32)))) <| fun h9 =>
    some ((h9.1 x0 14), h9)
def f_X12_tell_29 : Nat → Hp → Nat → Int32 → Int32 → Int32 → Option (Int32 × Hp)
  | 0 => fun _ _ _ _ _ => none
  | fu + 1 => fun h x0 x1 x2 x3 =>
    if (h.1 x0 14) ≤ x3 then
      if x2 = (3 : Int32) then
        if (x1 - x1 / (2 : Int32) * (2 : Int32)) = (1 : Int32) then
          some ((-2 : Int32), h)
        else
          f_X12_tell_73 h x0 x1 x2
      else
        f_X12_tell_73 h x0 x1 x2
    else
      gd (kd (h.2 x0 13) = 16) <|
      gd (inr ((2 : Int32) * x3) (ln (h.2 x0 13)) = true) <|
      if (h.1 (h.2 x0 13) ((2 : Int32) * x3).toNatClampNeg) = x1 then
        some ((-2 : Int32), h)
      else
        f_X12_tell_29 fu h x0 x1 x2 (x3 + (1 : Int32))
def f_X12_tell (h : Hp) (x0 : Nat) (x1 : Int32) (x2 : Int32) : Option (Int32 × Hp) :=
  gd (kd x0 = 12) <|
  lt ((si h x0 0 (0 : Int32))) <| fun h1 =>
  bd (f_X12_noNumber h1 x0 x1) <| fun r3 h4 =>
  if r3 = 0 then
    bd (f_X12_in h4 x2.toInt64 (1 : Int64) (3 : Int64)) <| fun r6 h7 =>
    if r6 = 0 then
      some ((-1 : Int32), h7)
    else
      f_X12_tell_29 FU h7 x0 x1 x2 (0 : Int32)
  else
    some ((-1 : Int32), h4)
def f_X12_hush (h : Hp) (x0 : Nat) : Option (Int32 × Hp) :=
  gd (kd x0 = 12) <|
  lt ((si h x0 0 (0 : Int32))) <| fun h1 =>
  lt ((si h1 x0 14 (0 : Int32))) <| fun h3 =>
  some ((h1.1 x0 14), h3)
def f_X12_sumOfWords_4 : Nat → Hp → Nat → Int32 → Int32 → Option (Int32 × Hp)
  | 0 => fun _ _ _ _ => none
  | fu + 1 => fun h x0 x1 x2 =>
    if (h.1 x0 14) ≤ x2 then
      some (x1, h)
    else
      gd (kd (h.2 x0 13) = 16) <|
      gd (inr ((2 : Int32) * x2) (ln (h.2 x0 13)) = true) <|
      gd (kd (h.2 x0 13) = 16) <|
      gd (inr (((2 : Int32) * x2) + (1 : Int32)) (ln (h.2 x0 13)) = true) <|
      bd (f_X12_counts h (h.1 (h.2 x0 13) ((2 : Int32) * x2).toNatClampNeg) (h.1 (h.2 x0 13) (((2 : Int32) * x2) + (1 : Int32)).toNatClampNeg)) <| fun r5 h6 =>
      f_X12_sumOfWords_4 fu h6 x0 (x1 + r5) (x2 + (1 : Int32))
def f_X12_sumOfWords (h : Hp) (x0 : Nat) : Option (Int32 × Hp) :=
  gd (kd x0 = 12) <|
  f_X12_sumOfWords_4 FU h x0 (0 : Int32) (0 : Int32)
def f_X12_priceOfWords_4 : Nat → Hp → Nat → Int32 → Int32 → Option (Int32 × Hp)
  | 0 => fun _ _ _ _ => none
  | fu + 1 => fun h x0 x1 x2 =>
    if (h.1 x0 14) ≤ x2 then
      some (x1, h)
    else
      gd (kd (h.2 x0 13) = 16) <|
      gd (inr ((2 : Int32) * x2) (ln (h.2 x0 13)) = true) <|
      gd (kd (h.2 x0 13) = 16) <|
      gd (inr (((2 : Int32) * x2) + (1 : Int32)) (ln (h.2 x0 13)) = true) <|
      bd (f_X12_priceOf h x0 (h.1 (h.2 x0 13) ((2 : Int32) * x2).toNatClampNeg) (h.1 (h.2 x0 13) (((2 : Int32) * x2) + (1 : Int32)).toNatClampNeg)) <| fun r5 h6 =>
      f_X12_priceOfWords_4 fu h6 x0 (x1 + r5) (x2 + (1 : Int32))
def f_X12_priceOfWords (h : Hp) (x0 : Nat) : Option (Int32 × Hp) :=
  gd (kd x0 = 12) <|
  f_X12_priceOfWords_4 FU h x0 (0 : Int32) (0 : Int32)
def f_X12_isSaying_75 (k34 : Hp → Nat → Int32 → Int32 → Int32 → Option (Int32 × Hp)) (h : Hp) (x0 : Nat) (x1 : Int32) (x3 : Int32) (x4 : Int32) : Option (Int32 × Hp) :=
  if x4 = (3 : Int32) then
    if x1 = (3 : Int32) then
      k34 h x0 x1 (1 : Int32) (x3 + (1 : Int32))
    else
      k34 h x0 x1 (0 : Int32) (x3 + (1 : Int32))
  else
    k34 h x0 x1 (0 : Int32) (x3 + (1 : Int32))
def f_X12_isSaying_34 : Nat → Hp → Nat → Int32 → Int32 → Int32 → Option (Int32 × Hp)
  | 0 => fun _ _ _ _ _ => none
  | fu + 1 => fun h x0 x1 x2 x3 =>
    if (h.1 x0 14) ≤ x3 then
      gd (x2 = 0 ∨ x2 = 1) <|
      some (x2, h)
    else
      gd (kd (h.2 x0 13) = 16) <|
      gd (inr (((2 : Int32) * x3) + (1 : Int32)) (ln (h.2 x0 13)) = true) <|
      if x2 = 0 then
        f_X12_isSaying_34 fu h x0 x1 (0 : Int32) (x3 + (1 : Int32))
      else
        if (h.1 (h.2 x0 13) (((2 : Int32) * x3) + (1 : Int32)).toNatClampNeg) = (1 : Int32) then
          f_X12_isSaying_34 fu h x0 x1 (1 : Int32) (x3 + (1 : Int32))
        else
          if (h.1 (h.2 x0 13) (((2 : Int32) * x3) + (1 : Int32)).toNatClampNeg) = (2 : Int32) then
            if (2 : Int32) ≤ x1 then
              f_X12_isSaying_34 fu h x0 x1 (1 : Int32) (x3 + (1 : Int32))
            else
              f_X12_isSaying_75 (f_X12_isSaying_34 fu) h x0 x1 x3 (h.1 (h.2 x0 13) (((2 : Int32) * x3) + (1 : Int32)).toNatClampNeg)
          else
            f_X12_isSaying_75 (f_X12_isSaying_34 fu) h x0 x1 x3 (h.1 (h.2 x0 13) (((2 : Int32) * x3) + (1 : Int32)).toNatClampNeg)
def f_X12_isSaying (h : Hp) (x0 : Nat) : Option (Int32 × Hp) :=
  gd (kd x0 = 12) <|
  gd (kd (h.2 x0 1) = 16) <|
  gd (inr (2 : Int32) (ln (h.2 x0 1)) = true) <|
  if (h.1 x0 14) ≤ 0 then
    f_X12_isSaying_34 FU h x0 (h.1 (h.2 x0 1) (2 : Int32).toNatClampNeg) (0 : Int32) (0 : Int32)
  else
    if (h.1 (h.2 x0 1) (2 : Int32).toNatClampNeg) = 0 then
      if (h.1 x0 14) = (1 : Int32) then
        f_X12_isSaying_34 FU h x0 (h.1 (h.2 x0 1) (2 : Int32).toNatClampNeg) (1 : Int32) (0 : Int32)
      else
        f_X12_isSaying_34 FU h x0 (h.1 (h.2 x0 1) (2 : Int32).toNatClampNeg) (0 : Int32) (0 : Int32)
    else
      f_X12_isSaying_34 FU h x0 (h.1 (h.2 x0 1) (2 : Int32).toNatClampNeg) (1 : Int32) (0 : Int32)
def f_X12_words (h : Hp) (x0 : Nat) (x1 : Int32) : Option (Int32 × Hp) :=
  gd (kd x0 = 12) <|
  lt ((si h x0 0 (0 : Int32))) <| fun h1 =>
  if x1 = (0 : Int32) then
    bd (f_X12_sumOfWords h1 x0) <| fun r3 h4 =>
    some (((1000 : Int32) + r3), h4)
  else if x1 = (1 : Int32) then
    bd (f_X12_priceOfWords h1 x0) <| fun r6 h7 =>
    some (r6, h7)
  else if x1 = (2 : Int32) then
    bd (f_X12_isSaying h1 x0) <| fun r9 h10 =>
    if r9 = 0 then
      some ((0 : Int32), h10)
    else
      some ((1 : Int32), h10)
  else 
    some ((-1 : Int32), h1)
def f_X12_laid (h : Hp) (x0 : Nat) (x1 : Int32) (x2 : Int32) : Option (Int32 × Hp) :=
  gd (kd x0 = 12) <|
  bd (f_X12_in h x2.toInt64 (-300 : Int64) (300 : Int64)) <| fun r1 h2 =>
  if r1 = 0 then
    some ((1000000 : Int32), h2)
  else
    gd (kd (h2.2 x0 15) = 16) <|
    gd (inr ((((601 : Int32) * (x1 - (1 : Int32))) + x2) + (300 : Int32)) (ln (h2.2 x0 15)) = true) <|
    some ((h2.1 (h2.2 x0 15) ((((601 : Int32) * (x1 - (1 : Int32))) + x2) + (300 : Int32)).toNatClampNeg), h2)
def f_X12_by_38 (h : Hp) (x0 : Nat) (x1 : Int32) (x2 : Int32) (x3 : Int32) (t0 : Int32) : Option (Int32 × Hp) :=
  if t0 = 0 then
    some ((1000000 : Int32), h)
  else
    bd (f_X12_counts h x1 x2) <| fun r1 h2 =>
    bd (f_X12_laid h2 x0 (x1 + (1 : Int32)) (x3 - r1)) <| fun r4 h5 =>
    if r4 < (1000000 : Int32) then
      bd (f_X12_priceOf h5 x0 x1 x2) <| fun r7 h8 =>
      some (((r4 + (1000 : Int32)) + r7), h8)
    else
      some ((1000000 : Int32), h5)
def f_X12_by_37 (h : Hp) (x0 : Nat) (x1 : Int32) (x2 : Int32) (x3 : Int32) : Option (Int32 × Hp) :=
  f_X12_by_38 h x0 x1 x2 x3 (0 : Int32)
def f_X12_by_33 (h : Hp) (x0 : Nat) (x1 : Int32) (x2 : Int32) (x3 : Int32) : Option (Int32 × Hp) :=
  f_X12_by_38 h x0 x1 x2 x3 (1 : Int32)
def f_X12_by_16 (h : Hp) (x0 : Nat) (x1 : Int32) (x2 : Int32) (x3 : Int32) (x4 : Int32) : Option (Int32 × Hp) :=
  if x2 = (3 : Int32) then
    if x4 = (3 : Int32) then
      if (x1 - x1 / (2 : Int32) * (2 : Int32)) = 0 then
        f_X12_by_33 h x0 x1 x2 x3
      else
        f_X12_by_37 h x0 x1 x2 x3
    else
      f_X12_by_37 h x0 x1 x2 x3
  else
    f_X12_by_37 h x0 x1 x2 x3
def f_X12_by (h : Hp) (x0 : Nat) (x1 : Int32) (x2 : Int32) (x3 : Int32) (x4 : Int32) : Option (Int32 × Hp) :=
  gd (kd x0 = 12) <|
  if x2 = (1 : Int32) then
    f_X12_by_33 h x0 x1 x2 x3
  else
    if x2 = (2 : Int32) then
      if (2 : Int32) ≤ x4 then
        f_X12_by_33 h x0 x1 x2 x3
      else
        f_X12_by_16 h x0 x1 x2 x3 x4
    else
      f_X12_by_16 h x0 x1 x2 x3 x4
def f_X12_layTable_139 (k54 : Hp → Nat → Int32 → Int32 → Int32 → Option (Unit × Hp)) (k64 : Hp → Nat → Int32 → Int32 → Int32 → Int32 → Option (Unit × Hp)) (h : Hp) (x0 : Nat) (x1 : Int32) (x2 : Int32) (x4 : Int32) (x5 : Int32) (x6 : Int32) : Option (Unit × Hp) :=
  gd (kd (h.2 x0 15) = 16) <|
  gd (inr ((((601 : Int32) * (x4 - (1 : Int32))) + x5) + (300 : Int32)) (ln (h.2 x0 15)) = true) <|
  lt ((si h (h.2 x0 15) ((((601 : Int32) * (x4 - (1 : Int32))) + x5) + (300 : Int32)).toNatClampNeg x6)) <| fun h3 =>
  k64 h3 x0 x1 x2 x4 (x5 + (1 : Int32))
def f_X12_layTable_87 (k54 : Hp → Nat → Int32 → Int32 → Int32 → Option (Unit × Hp)) (k64 : Hp → Nat → Int32 → Int32 → Int32 → Int32 → Option (Unit × Hp)) : Nat → Hp → Nat → Int32 → Int32 → Int32 → Int32 → Int32 → Int32 → Option (Unit × Hp)
  | 0 => fun _ _ _ _ _ _ _ _ => none
  | fu + 1 => fun h x0 x1 x2 x4 x5 x6 x7 =>
    if (3 : Int32) < x7 then
      f_X12_layTable_139 k54 k64 h x0 x1 x2 x4 x5 x6
    else
      bd (f_X12_has h x1 (x4 - (1 : Int32))) <| fun r1 h2 =>
      if r1 = 0 then
        f_X12_layTable_139 k54 k64 h2 x0 x1 x2 x4 x5 x6
      else
        bd (f_X12_by h2 x0 x4 x7 x5 x2) <| fun r4 h5 =>
        if x6 ≤ r4 then
          f_X12_layTable_87 k54 k64 fu h5 x0 x1 x2 x4 x5 x6 (x7 + (1 : Int32))
        else
          f_X12_layTable_87 k54 k64 fu h5 x0 x1 x2 x4 x5 r4 (x7 + (1 : Int32))
def f_X12_layTable_64 (k54 : Hp → Nat → Int32 → Int32 → Int32 → Option (Unit × Hp)) : Nat → Hp → Nat → Int32 → Int32 → Int32 → Int32 → Option (Unit × Hp)
  | 0 => fun _ _ _ _ _ _ => none
  | fu + 1 => fun h x0 x1 x2 x4 x5 =>
    if (300 : Int32) < x5 then
      k54 h x0 x1 x2 (x4 + (-1 : Int32))
    else
      bd (f_X12_laid h x0 (x4 + (1 : Int32)) x5) <| fun r1 h2 =>
      f_X12_layTable_87 k54 (f_X12_layTable_64 k54 fu) FU h2 x0 x1 x2 x4 x5 r1 (1 : Int32)
def f_X12_layTable_54 : Nat → Hp → Nat → Int32 → Int32 → Int32 → Option (Unit × Hp)
  | 0 => fun _ _ _ _ _ => none
  | fu + 1 => fun h x0 x1 x2 x4 =>
    if x4 ≤ 0 then
      some ((), h)
    else
      f_X12_layTable_64 (f_X12_layTable_54 fu) FU h x0 x1 x2 x4 (-300 : Int32)
def f_X12_layTable_44 (k10 : Hp → Nat → Int32 → Int32 → Int32 → Int32 → Option (Unit × Hp)) (h : Hp) (x0 : Nat) (x1 : Int32) (x2 : Int32) (x3 : Int32) (x4 : Int32) (t0 : Nat) (t1 : Int32) (t2 : Int32) : Option (Unit × Hp) :=
  gd (inr t1 (ln t0) = true) <|
  lt ((si h t0 t1.toNatClampNeg t2)) <| fun h2 =>
  k10 h2 x0 x1 x2 x3 (x4 + (1 : Int32))
def f_X12_layTable_10 : Nat → Hp → Nat → Int32 → Int32 → Int32 → Int32 → Option (Unit × Hp)
  | 0 => fun _ _ _ _ _ _ => none
  | fu + 1 => fun h x0 x1 x2 x3 x4 =>
    if (601 : Int32) ≤ x4 then
      f_X12_layTable_54 FU h x0 x1 x2 x3
    else
      gd (kd (h.2 x0 15) = 16) <|
      if x4 = (300 : Int32) then
        f_X12_layTable_44 (f_X12_layTable_10 fu) h x0 x1 x2 x3 x4 (h.2 x0 15) (((601 : Int32) * x3) + x4) (0 : Int32)
      else
        f_X12_layTable_44 (f_X12_layTable_10 fu) h x0 x1 x2 x3 x4 (h.2 x0 15) (((601 : Int32) * x3) + x4) (1000000 : Int32)
def f_X12_layTable (h : Hp) (x0 : Nat) (x1 : Int32) (x2 : Int32) : Option (Unit × Hp) :=
  gd (kd x0 = 12) <|
  gd (kd (h.2 x0 1) = 16) <|
  gd (inr (0 : Int32) (ln (h.2 x0 1)) = true) <|
  f_X12_layTable_10 FU h x0 x1 x2 (h.1 (h.2 x0 1) (0 : Int32).toNatClampNeg) (0 : Int32)
def f_X12_bestOf_273 (k121 : Hp → Nat → Int32 → Int32 → Int32 → Int32 → Int32 → Int32 → Option (Int32 × Hp)) (h : Hp) (x0 : Nat) (x1 : Int32) (x3 : Int32) (x4 : Int32) (x5 : Int32) (x7 : Int32) (x8 : Int32) (t0 : Int32) (t1 : Int32) : Option (Int32 × Hp) :=
  if (3 : Int32) < x8 then
    k121 h x0 x1 x3 x4 (x5 - (0 : Int32)) (t0 - t1) (x7 + (1 : Int32))
  else
    bd (f_X12_counts h x7 x8) <| fun r1 h2 =>
    k121 h2 x0 x1 x3 x4 (x5 - r1) (t0 - t1) (x7 + (1 : Int32))
def f_X12_bestOf_245 (k121 : Hp → Nat → Int32 → Int32 → Int32 → Int32 → Int32 → Int32 → Option (Int32 × Hp)) (h : Hp) (x0 : Nat) (x1 : Int32) (x3 : Int32) (x4 : Int32) (x5 : Int32) (x6 : Int32) (x7 : Int32) (x8 : Int32) (t0 : Nat) (t1 : Int32) (t2 : Int32) : Option (Int32 × Hp) :=
  lt ((si h t0 18 (t1 ||| t2))) <| fun h1 =>
  if (3 : Int32) < x8 then
    f_X12_bestOf_273 k121 h1 x0 x1 x3 x4 x5 x7 x8 x6 (0 : Int32)
  else
    bd (f_X12_priceOf h1 x0 x7 x8) <| fun r3 h4 =>
    f_X12_bestOf_273 k121 h4 x0 x1 x3 x4 x5 x7 x8 x6 ((1000 : Int32) + r3)
def f_X12_bestOf_220 (k121 : Hp → Nat → Int32 → Int32 → Int32 → Int32 → Int32 → Int32 → Option (Int32 × Hp)) (h : Hp) (x0 : Nat) (x1 : Int32) (x3 : Int32) (x4 : Int32) (x5 : Int32) (x6 : Int32) (x7 : Int32) (x8 : Int32) (t0 : Nat) (t1 : Int32) (t2 : Int32) : Option (Int32 × Hp) :=
  lt ((si h t0 17 (t1 ||| t2))) <| fun h1 =>
  if x8 = (3 : Int32) then
    f_X12_bestOf_245 k121 h1 x0 x1 x3 x4 x5 x6 x7 x8 x0 (h1.1 x0 18) ((1 : Int32) <<< ((x7 - (1 : Int32)) &&& 31))
  else
    f_X12_bestOf_245 k121 h1 x0 x1 x3 x4 x5 x6 x7 x8 x0 (h1.1 x0 18) (0 : Int32)
def f_X12_bestOf_195 (k121 : Hp → Nat → Int32 → Int32 → Int32 → Int32 → Int32 → Int32 → Option (Int32 × Hp)) (h : Hp) (x0 : Nat) (x1 : Int32) (x3 : Int32) (x4 : Int32) (x5 : Int32) (x6 : Int32) (x7 : Int32) (x8 : Int32) (t0 : Nat) (t1 : Int32) (t2 : Int32) : Option (Int32 × Hp) :=
  lt ((si h t0 16 (t1 ||| t2))) <| fun h1 =>
  if x8 = (2 : Int32) then
    f_X12_bestOf_220 k121 h1 x0 x1 x3 x4 x5 x6 x7 x8 x0 (h1.1 x0 17) ((1 : Int32) <<< ((x7 - (1 : Int32)) &&& 31))
  else
    f_X12_bestOf_220 k121 h1 x0 x1 x3 x4 x5 x6 x7 x8 x0 (h1.1 x0 17) (0 : Int32)
def f_X12_bestOf_174 (k121 : Hp → Nat → Int32 → Int32 → Int32 → Int32 → Int32 → Int32 → Option (Int32 × Hp)) (h : Hp) (x0 : Nat) (x1 : Int32) (x3 : Int32) (x4 : Int32) (x5 : Int32) (x6 : Int32) (x7 : Int32) (x8 : Int32) : Option (Int32 × Hp) :=
  if x8 = (1 : Int32) then
    f_X12_bestOf_195 k121 h x0 x1 x3 x4 x5 x6 x7 x8 x0 (h.1 x0 16) ((1 : Int32) <<< ((x7 - (1 : Int32)) &&& 31))
  else
    f_X12_bestOf_195 k121 h x0 x1 x3 x4 x5 x6 x7 x8 x0 (h.1 x0 16) (0 : Int32)
def f_X12_bestOf_135 (k121 : Hp → Nat → Int32 → Int32 → Int32 → Int32 → Int32 → Int32 → Option (Int32 × Hp)) : Nat → Hp → Nat → Int32 → Int32 → Int32 → Int32 → Int32 → Int32 → Int32 → Option (Int32 × Hp)
  | 0 => fun _ _ _ _ _ _ _ _ _ => none
  | fu + 1 => fun h x0 x1 x3 x4 x5 x6 x7 x8 =>
    if (3 : Int32) < x8 then
      f_X12_bestOf_174 k121 h x0 x1 x3 x4 x5 x6 x7 x8
    else
      bd (f_X12_has h x1 (x7 - (1 : Int32))) <| fun r1 h2 =>
      if r1 = 0 then
        f_X12_bestOf_135 k121 fu h2 x0 x1 x3 x4 x5 x6 x7 (x8 + (1 : Int32))
      else
        bd (f_X12_by h2 x0 x7 x8 x5 x3) <| fun r4 h5 =>
        if r4 = x6 then
          f_X12_bestOf_174 k121 h5 x0 x1 x3 x4 x5 x6 x7 x8
        else
          f_X12_bestOf_135 k121 fu h5 x0 x1 x3 x4 x5 x6 x7 (x8 + (1 : Int32))
def f_X12_bestOf_121 : Nat → Hp → Nat → Int32 → Int32 → Int32 → Int32 → Int32 → Int32 → Option (Int32 × Hp)
  | 0 => fun _ _ _ _ _ _ _ _ => none
  | fu + 1 => fun h x0 x1 x3 x4 x5 x6 x7 =>
    gd (kd (h.2 x0 1) = 16) <|
    gd (inr (0 : Int32) (ln (h.2 x0 1)) = true) <|
    if (h.1 (h.2 x0 1) (0 : Int32).toNatClampNeg) < x7 then
      some (x4, h)
    else
      f_X12_bestOf_135 (f_X12_bestOf_121 fu) FU h x0 x1 x3 x4 x5 x6 x7 (1 : Int32)
def f_X12_bestOf_61 (h : Hp) (x0 : Nat) (x2 : Int32) (x4 : Int32) (t0 : Nat) (t1 : Int32) : Option (Int32 × Hp) :=
  lt ((si h t0 16 t1)) <| fun h1 =>
  if x4 = 0 then
    some ((-4 : Int32), h1)
  else
    gd (kd (h1.2 x0 1) = 16) <|
    gd (inr ((4 : Int32) + x2) (ln (h1.2 x0 1)) = true) <|
    some (((1000 : Int32) + (h1.1 (h1.2 x0 1) ((4 : Int32) + x2).toNatClampNeg)), h1)
def f_X12_bestOf_44 (h : Hp) (x0 : Nat) (x2 : Int32) (t0 : Int32) : Option (Int32 × Hp) :=
  if t0 = 0 then
    f_X12_bestOf_61 h x0 x2 t0 x0 (0 : Int32)
  else
    f_X12_bestOf_61 h x0 x2 t0 x0 ((1 : Int32) <<< ((x2 - (1 : Int32)) &&& 31))
def f_X12_bestOf_43 (h : Hp) (x0 : Nat) (x2 : Int32) : Option (Int32 × Hp) :=
  f_X12_bestOf_44 h x0 x2 (0 : Int32)
def f_X12_bestOf (h : Hp) (x0 : Nat) (x1 : Int32) (x2 : Int32) (x3 : Int32) : Option (Int32 × Hp) :=
  gd (kd x0 = 12) <|
  lt ((si h x0 16 (0 : Int32))) <| fun h1 =>
  lt ((si h1 x0 17 (0 : Int32))) <| fun h3 =>
  lt ((si h3 x0 18 (0 : Int32))) <| fun h5 =>
  if x3 = 0 then
    gd (kd (h5.2 x0 1) = 16) <|
    gd (inr (0 : Int32) (ln (h5.2 x0 1)) = true) <|
    if (h5.1 (h5.2 x0 1) (0 : Int32).toNatClampNeg) < x2 then
      f_X12_bestOf_43 h5 x0 x2
    else
      bd (f_X12_has h5 x1 (x2 - (1 : Int32))) <| fun r15 h16 =>
      if r15 = 0 then
        f_X12_bestOf_43 h16 x0 x2
      else
        f_X12_bestOf_44 h16 x0 x2 (1 : Int32)
  else
    bd (f_X12_layTable h5 x0 x1 x3) <| fun r7 h8 =>
    bd (f_X12_laid h8 x0 (1 : Int32) x2) <| fun r10 h11 =>
    if r10 < (1000000 : Int32) then
      f_X12_bestOf_121 FU h11 x0 x1 x3 r10 x2 r10 (1 : Int32)
    else
      some ((-4 : Int32), h11)
def f_X12_hasBest (h : Hp) (x0 : Nat) (x1 : Int32) (x2 : Int32) (x3 : Int32) : Option (Int32 × Hp) :=
  gd (kd x0 = 12) <|
  bd (f_X12_ofOne h x0 x1) <| fun r1 h2 =>
  gd (kd (h2.2 x0 1) = 16) <|
  gd (inr ((53 : Int32) + x1) (ln (h2.2 x0 1)) = true) <|
  bd (f_X12_bestOf h2 x0 (r1 &&& (x2 ^^^ (-1 : Int32))) (h2.1 (h2.2 x0 1) ((53 : Int32) + x1).toNatClampNeg) x3) <| fun r6 h7 =>
  if r6 = (-4 : Int32) then
    some ((0 : Int32), h7)
  else
    some ((1 : Int32), h7)
def f_X12_usedSet (h : Hp) (x0 : Nat) : Option (Int32 × Hp) :=
  gd (kd x0 = 12) <|
  some ((((h.1 x0 16) ||| (h.1 x0 17)) ||| (h.1 x0 18)), h)
def f_X12_keepDay_51 : Nat → Hp → Nat → Int32 → Option (Unit × Hp)
  | 0 => fun _ _ _ => none
  | fu + 1 => fun h x0 x1 =>
    if (51 : Int32) ≤ x1 then
      lt ((si h x0 5 ((h.1 x0 5) + (1 : Int32)))) <| fun h1 =>
      some ((), h1)
    else
      gd (kd (h.2 x0 4) = 16) <|
      gd (kd (h.2 x0 3) = 16) <|
      gd (inr x1 (ln (h.2 x0 3)) = true) <|
      gd (inr (((51 : Int32) * (h.1 x0 5)) + x1) (ln (h.2 x0 4)) = true) <|
      lt ((si h (h.2 x0 4) (((51 : Int32) * (h.1 x0 5)) + x1).toNatClampNeg (h.1 (h.2 x0 3) x1.toNatClampNeg))) <| fun h7 =>
      f_X12_keepDay_51 fu h7 x0 (x1 + (1 : Int32))
def f_X12_keepDay_11 : Nat → Hp → Nat → Int32 → Option (Unit × Hp)
  | 0 => fun _ _ _ => none
  | fu + 1 => fun h x0 x1 =>
    if (357 : Int32) ≤ x1 then
      lt ((si h x0 5 ((h.1 x0 5) - (1 : Int32)))) <| fun h1 =>
      f_X12_keepDay_51 FU h1 x0 (0 : Int32)
    else
      gd (kd (h.2 x0 4) = 16) <|
      gd (kd (h.2 x0 4) = 16) <|
      gd (inr (x1 + (51 : Int32)) (ln (h.2 x0 4)) = true) <|
      gd (inr x1 (ln (h.2 x0 4)) = true) <|
      lt ((si h (h.2 x0 4) x1.toNatClampNeg (h.1 (h.2 x0 4) (x1 + (51 : Int32)).toNatClampNeg))) <| fun h7 =>
      f_X12_keepDay_11 fu h7 x0 (x1 + (1 : Int32))
def f_X12_keepDay (h : Hp) (x0 : Nat) : Option (Unit × Hp) :=
  gd (kd x0 = 12) <|
  if (h.1 x0 5) = (8 : Int32) then
    f_X12_keepDay_11 FU h x0 (0 : Int32)
  else
    f_X12_keepDay_51 FU h x0 (0 : Int32)
def f_X12_take_2 : Nat → Hp → Nat → Int32 → Int32 → Int32 → Option (Unit × Hp)
  | 0 => fun _ _ _ _ _ => none
  | fu + 1 => fun h x0 x1 x2 x3 =>
    gd (kd (h.2 x0 1) = 16) <|
    gd (inr (0 : Int32) (ln (h.2 x0 1)) = true) <|
    if (h.1 (h.2 x0 1) (0 : Int32).toNatClampNeg) < x3 then
      gd (kd (h.2 x0 3) = 16) <|
      gd (inr (2 : Int32) (ln (h.2 x0 3)) = true) <|
      gd (inr (2 : Int32) (ln (h.2 x0 3)) = true) <|
      lt ((si h (h.2 x0 3) (2 : Int32).toNatClampNeg ((h.1 (h.2 x0 3) (2 : Int32).toNatClampNeg) ||| ((1 : Int32) <<< (x1 &&& 31))))) <| fun h6 =>
      some ((), h6)
    else
      bd (f_X12_has h x2 (x3 - (1 : Int32))) <| fun r8 h9 =>
      if r8 = 0 then
        f_X12_take_2 fu h9 x0 x1 x2 (x3 + (1 : Int32))
      else
        gd (kd (h9.2 x0 3) = 16) <|
        gd (inr ((2 : Int32) + x3) (ln (h9.2 x0 3)) = true) <|
        lt ((si h9 (h9.2 x0 3) ((2 : Int32) + x3).toNatClampNeg x1)) <| fun h13 =>
        f_X12_take_2 fu h13 x0 x1 x2 (x3 + (1 : Int32))
def f_X12_take (h : Hp) (x0 : Nat) (x1 : Int32) (x2 : Int32) : Option (Unit × Hp) :=
  gd (kd x0 = 12) <|
  f_X12_take_2 FU h x0 x1 x2 (1 : Int32)
def f_X12_say_19 : Nat → Hp → Nat → Int32 → Int32 → Int32 → Option (Int32 × Hp)
  | 0 => fun _ _ _ _ _ => none
  | fu + 1 => fun h x0 x1 x2 x3 =>
    if (h.1 x0 14) ≤ x3 then
      bd (f_X12_isSaying h x0) <| fun r1 h2 =>
      if r1 = 0 then
        some ((-2 : Int32), h2)
      else
        bd (f_X12_sumOfWords h2 x0) <| fun r4 h5 =>
        gd (kd (h5.2 x0 1) = 16) <|
        gd (inr ((53 : Int32) + x1) (ln (h5.2 x0 1)) = true) <|
        if r4 = (h5.1 (h5.2 x0 1) ((53 : Int32) + x1).toNatClampNeg) then
          bd (f_X12_mayOf h5 x0 x1) <| fun r9 h10 =>
          if (x2 &&& (r9 ^^^ (-1 : Int32))) = 0 then
            gd (kd (h10.2 x0 3) = 16) <|
            gd (inr (2 : Int32) (ln (h10.2 x0 3)) = true) <|
            bd (f_X12_has h10 (h10.1 (h10.2 x0 3) (2 : Int32).toNatClampNeg) x1) <| fun r14 h15 =>
            if r14 = 0 then
              bd (f_X12_keepDay h15 x0) <| fun r17 h18 =>
              bd (f_X12_take h18 x0 x1 x2) <| fun r20 h21 =>
              bd (f_X12_priceOfWords h21 x0) <| fun r23 h24 =>
              some (r23, h24)
            else
              some ((-2 : Int32), h15)
          else
            some ((-2 : Int32), h10)
        else
          some ((-2 : Int32), h5)
    else
      gd (kd (h.2 x0 13) = 16) <|
      gd (inr ((2 : Int32) * x3) (ln (h.2 x0 13)) = true) <|
      f_X12_say_19 fu h x0 x1 (x2 ||| ((1 : Int32) <<< (((h.1 (h.2 x0 13) ((2 : Int32) * x3).toNatClampNeg) - (1 : Int32)) &&& 31))) (x3 + (1 : Int32))
def f_X12_say (h : Hp) (x0 : Nat) (x1 : Int32) : Option (Int32 × Hp) :=
  gd (kd x0 = 12) <|
  lt ((si h x0 0 (0 : Int32))) <| fun h1 =>
  bd (f_X12_noOne h1 x0 x1) <| fun r3 h4 =>
  if r3 = 0 then
    f_X12_say_19 FU h4 x0 x1 (0 : Int32) (0 : Int32)
  else
    some ((-1 : Int32), h4)
def f_X12_speak (h : Hp) (x0 : Nat) (x1 : Int32) : Option (Int32 × Hp) :=
  gd (kd x0 = 12) <|
  lt ((si h x0 0 (0 : Int32))) <| fun h1 =>
  bd (f_X12_noOne h1 x0 x1) <| fun r3 h4 =>
  if r3 = 0 then
    gd (kd (h4.2 x0 3) = 16) <|
    gd (inr (2 : Int32) (ln (h4.2 x0 3)) = true) <|
    bd (f_X12_has h4 (h4.1 (h4.2 x0 3) (2 : Int32).toNatClampNeg) x1) <| fun r8 h9 =>
    if r8 = 0 then
      bd (f_X12_mayOf h9 x0 x1) <| fun r11 h12 =>
      gd (kd (h12.2 x0 1) = 16) <|
      gd (inr ((53 : Int32) + x1) (ln (h12.2 x0 1)) = true) <|
      gd (kd (h12.2 x0 1) = 16) <|
      gd (inr (2 : Int32) (ln (h12.2 x0 1)) = true) <|
      bd (f_X12_bestOf h12 x0 r11 (h12.1 (h12.2 x0 1) ((53 : Int32) + x1).toNatClampNeg) (h12.1 (h12.2 x0 1) (2 : Int32).toNatClampNeg)) <| fun r18 h19 =>
      if r18 = (-4 : Int32) then
        some ((-4 : Int32), h19)
      else
        bd (f_X12_keepDay h19 x0) <| fun r21 h22 =>
        bd (f_X12_usedSet h22 x0) <| fun r24 h25 =>
        bd (f_X12_take h25 x0 x1 r24) <| fun r27 h28 =>
        some ((r18 / (1000 : Int32)), h28)
    else
      some ((-2 : Int32), h9)
  else
    some ((-1 : Int32), h4)
def f_X12_lend_94 : Nat → Hp → Nat → Int32 → Int32 → Option (Int32 × Hp)
  | 0 => fun _ _ _ _ => none
  | fu + 1 => fun h x0 x4 x5 =>
    gd (kd (h.2 x0 1) = 16) <|
    gd (inr (0 : Int32) (ln (h.2 x0 1)) = true) <|
    if (h.1 (h.2 x0 1) (0 : Int32).toNatClampNeg) < x5 then
      some (x4, h)
    else
      gd (kd (h.2 x0 3) = 16) <|
      gd (inr ((26 : Int32) + x5) (ln (h.2 x0 3)) = true) <|
      if (h.1 (h.2 x0 3) ((26 : Int32) + x5).toNatClampNeg) = (-4 : Int32) then
        f_X12_lend_94 fu h x0 (x4 + (0 : Int32)) (x5 + (1 : Int32))
      else
        f_X12_lend_94 fu h x0 (x4 + (1 : Int32)) (x5 + (1 : Int32))
def f_X12_lend (h : Hp) (x0 : Nat) (x1 : Int32) (x2 : Int32) : Option (Int32 × Hp) :=
  gd (kd x0 = 12) <|
  lt ((si h x0 0 (0 : Int32))) <| fun h1 =>
  bd (f_X12_noNumber h1 x0 x1) <| fun r3 h4 =>
  if r3 = 0 then
    bd (f_X12_noOne h4 x0 x2) <| fun r6 h7 =>
    if r6 = 0 then
      gd (kd (h7.2 x0 1) = 16) <|
      gd (inr ((28 : Int32) + x1) (ln (h7.2 x0 1)) = true) <|
      if (h7.1 (h7.2 x0 1) ((28 : Int32) + x1).toNatClampNeg) = (-4 : Int32) then
        some ((-2 : Int32), h7)
      else
        if (h7.1 (h7.2 x0 1) ((28 : Int32) + x1).toNatClampNeg) = x2 then
          some ((-2 : Int32), h7)
        else
          gd (kd (h7.2 x0 3) = 16) <|
          gd (inr ((2 : Int32) + x1) (ln (h7.2 x0 3)) = true) <|
          if (h7.1 (h7.2 x0 3) ((2 : Int32) + x1).toNatClampNeg) = (-4 : Int32) then
            gd (kd (h7.2 x0 3) = 16) <|
            gd (inr ((26 : Int32) + x1) (ln (h7.2 x0 3)) = true) <|
            if (h7.1 (h7.2 x0 3) ((26 : Int32) + x1).toNatClampNeg) = (-4 : Int32) then
              bd (f_X12_keepDay h7 x0) <| fun r15 h16 =>
              gd (kd (h16.2 x0 3) = 16) <|
              gd (inr ((26 : Int32) + x1) (ln (h16.2 x0 3)) = true) <|
              lt ((si h16 (h16.2 x0 3) ((26 : Int32) + x1).toNatClampNeg x2)) <| fun h20 =>
              f_X12_lend_94 FU h20 x0 (0 : Int32) (1 : Int32)
            else
              some ((-2 : Int32), h7)
          else
            some ((-2 : Int32), h7)
    else
      some ((-1 : Int32), h7)
  else
    some ((-1 : Int32), h4)
def f_X12_born (h : Hp) (x0 : Nat) : Option (Int32 × Hp) :=
  gd (kd x0 = 12) <|
  lt ((si h x0 0 (0 : Int32))) <| fun h1 =>
  gd (kd (h1.2 x0 3) = 16) <|
  gd (inr (0 : Int32) (ln (h1.2 x0 3)) = true) <|
  gd (kd (h1.2 x0 3) = 16) <|
  gd (inr (1 : Int32) (ln (h1.2 x0 3)) = true) <|
  if (h1.1 (h1.2 x0 3) (1 : Int32).toNatClampNeg) = (1 : Int32) then
    some ((-2 : Int32), h1)
  else
    bd (f_X12_noNumber h1 x0 ((h1.1 (h1.2 x0 3) (0 : Int32).toNatClampNeg) + (1 : Int32))) <| fun r7 h8 =>
    if r7 = 0 then
      gd (kd (h8.2 x0 3) = 16) <|
      gd (inr ((2 : Int32) + ((h1.1 (h1.2 x0 3) (0 : Int32).toNatClampNeg) + (1 : Int32))) (ln (h8.2 x0 3)) = true) <|
      if (h8.1 (h8.2 x0 3) ((2 : Int32) + ((h1.1 (h1.2 x0 3) (0 : Int32).toNatClampNeg) + (1 : Int32))).toNatClampNeg) = (-4 : Int32) then
        bd (f_X12_keepDay h8 x0) <| fun r12 h13 =>
        gd (kd (h13.2 x0 3) = 16) <|
        gd (inr (0 : Int32) (ln (h13.2 x0 3)) = true) <|
        lt ((si h13 (h13.2 x0 3) (0 : Int32).toNatClampNeg ((h1.1 (h1.2 x0 3) (0 : Int32).toNatClampNeg) + (1 : Int32)))) <| fun h17 =>
        gd (kd (h17.2 x0 3) = 16) <|
        gd (inr ((2 : Int32) + ((h1.1 (h1.2 x0 3) (0 : Int32).toNatClampNeg) + (1 : Int32))) (ln (h17.2 x0 3)) = true) <|
        lt ((si h17 (h17.2 x0 3) ((2 : Int32) + ((h1.1 (h1.2 x0 3) (0 : Int32).toNatClampNeg) + (1 : Int32))).toNatClampNeg (7 : Int32))) <| fun h21 =>
        some (((h1.1 (h1.2 x0 3) (0 : Int32).toNatClampNeg) + (1 : Int32)), h21)
      else
        some ((-2 : Int32), h8)
    else
      some ((-2 : Int32), h8)
def f_X12_dusk (h : Hp) (x0 : Nat) (x1 : Int32) : Option (Int32 × Hp) :=
  gd (kd x0 = 12) <|
  lt ((si h x0 0 (0 : Int32))) <| fun h1 =>
  bd (f_X12_taken h1 x0) <| fun r3 h4 =>
  bd (f_X12_bits h4 r3) <| fun r6 h7 =>
  bd (f_X12_keepDay h7 x0) <| fun r9 h10 =>
  bd (f_X12_dawn h10 x0 x1) <| fun r12 h13 =>
  some (r6, h13)
def f_X12_undo_27 : Nat → Hp → Nat → Int32 → Option (Int32 × Hp)
  | 0 => fun _ _ _ => none
  | fu + 1 => fun h x0 x1 =>
    if (51 : Int32) ≤ x1 then
      some ((h.1 x0 5), h)
    else
      gd (kd (h.2 x0 3) = 16) <|
      gd (kd (h.2 x0 4) = 16) <|
      gd (inr (((51 : Int32) * (h.1 x0 5)) + x1) (ln (h.2 x0 4)) = true) <|
      gd (inr x1 (ln (h.2 x0 3)) = true) <|
      lt ((si h (h.2 x0 3) x1.toNatClampNeg (h.1 (h.2 x0 4) (((51 : Int32) * (h.1 x0 5)) + x1).toNatClampNeg))) <| fun h5 =>
      f_X12_undo_27 fu h5 x0 (x1 + (1 : Int32))
def f_X12_undo (h : Hp) (x0 : Nat) : Option (Int32 × Hp) :=
  gd (kd x0 = 12) <|
  lt ((si h x0 0 (0 : Int32))) <| fun h1 =>
  if (h1.1 x0 5) = 0 then
    some ((-2 : Int32), h1)
  else
    lt ((si h1 x0 5 ((h1.1 x0 5) - (1 : Int32)))) <| fun h3 =>
    f_X12_undo_27 FU h3 x0 (0 : Int32)
def f_X12_best (h : Hp) (x0 : Nat) (x1 : Int32) (x2 : Int32) (x3 : Int32) : Option (Int32 × Hp) :=
  gd (kd x0 = 12) <|
  lt ((si h x0 0 (0 : Int32))) <| fun h1 =>
  bd (f_X12_noOne h1 x0 x1) <| fun r3 h4 =>
  if r3 = 0 then
    bd (f_X12_in h4 x2.toInt64 (1 : Int64) (99 : Int64)) <| fun r6 h7 =>
    if r6 = 0 then
      some ((-1 : Int32), h7)
    else
      bd (f_X12_in h7 x3.toInt64 (0 : Int64) (4 : Int64)) <| fun r9 h10 =>
      if r9 = 0 then
        some ((-1 : Int32), h10)
      else
        bd (f_X12_mayOf h10 x0 x1) <| fun r12 h13 =>
        gd (kd (h13.2 x0 1) = 16) <|
        gd (inr (2 : Int32) (ln (h13.2 x0 1)) = true) <|
        bd (f_X12_bestOf h13 x0 r12 x2 (h13.1 (h13.2 x0 1) (2 : Int32).toNatClampNeg)) <| fun r17 h18 =>
        if r17 = (-4 : Int32) then
          some ((-4 : Int32), h18)
        else
          if x3 = 0 then
            some ((r17 / (1000 : Int32)), h18)
          else
            if x3 = (1 : Int32) then
              some ((r17 - r17 / (1000 : Int32) * (1000 : Int32)), h18)
            else
              if x3 = (2 : Int32) then
                some ((h18.1 x0 16), h18)
              else
                if x3 = (3 : Int32) then
                  some ((h18.1 x0 17), h18)
                else
                  some ((h18.1 x0 18), h18)
  else
    some ((-1 : Int32), h4)
def f_X12_stuckOf_55 (k9 : Hp → Nat → Int32 → Int32 → Int32 → Int32 → Int32 → Option (Int32 × Hp)) (h : Hp) (x0 : Nat) (x1 : Int32) (x3 : Int32) (x5 : Int32) (x6 : Int32) (x7 : Int32) (t0 : Int32) (t1 : Int32) : Option (Int32 × Hp) :=
  if x7 = 0 then
    k9 h x0 x1 x3 (t0 ||| t1) (x5 ||| ((1 : Int32) <<< (x6 &&& 31))) (x6 + (1 : Int32))
  else
    k9 h x0 x1 x3 (t0 ||| t1) (x5 ||| (0 : Int32)) (x6 + (1 : Int32))
def f_X12_stuckOf_9 : Nat → Hp → Nat → Int32 → Int32 → Int32 → Int32 → Int32 → Option (Int32 × Hp)
  | 0 => fun _ _ _ _ _ _ _ => none
  | fu + 1 => fun h x0 x1 x3 x4 x5 x6 =>
    gd (kd (h.2 x0 1) = 16) <|
    gd (inr (1 : Int32) (ln (h.2 x0 1)) = true) <|
    if (h.1 (h.2 x0 1) (1 : Int32).toNatClampNeg) ≤ x6 then
      some (x5, h)
    else
      bd (f_X12_has h x1 x6) <| fun r3 h4 =>
      if r3 = 0 then
        f_X12_stuckOf_9 fu h4 x0 x1 x3 x4 x5 (x6 + (1 : Int32))
      else
        bd (f_X12_hasBest h4 x0 x6 x4 x3) <| fun r6 h7 =>
        if r6 = 0 then
          f_X12_stuckOf_55 (f_X12_stuckOf_9 fu) h7 x0 x1 x3 x5 x6 r6 x4 (0 : Int32)
        else
          bd (f_X12_usedSet h7 x0) <| fun r9 h10 =>
          f_X12_stuckOf_55 (f_X12_stuckOf_9 fu) h10 x0 x1 x3 x5 x6 r6 x4 r9
def f_X12_stuckOf (h : Hp) (x0 : Nat) (x1 : Int32) (x2 : Int32) (x3 : Int32) : Option (Int32 × Hp) :=
  gd (kd x0 = 12) <|
  f_X12_stuckOf_9 FU h x0 x1 x3 x2 (0 : Int32) (0 : Int32)
def f_X12_silent (h : Hp) (x0 : Nat) : Option (Int32 × Hp) :=
  gd (kd x0 = 12) <|
  gd (kd (h.2 x0 1) = 16) <|
  gd (inr (1 : Int32) (ln (h.2 x0 1)) = true) <|
  gd (kd (h.2 x0 3) = 16) <|
  gd (inr (2 : Int32) (ln (h.2 x0 3)) = true) <|
  some (((((1 : Int32) <<< ((h.1 (h.2 x0 1) (1 : Int32).toNatClampNeg) &&& 31)) - (1 : Int32)) &&& ((h.1 (h.2 x0 3) (2 : Int32).toNatClampNeg) ^^^ (-1 : Int32))), h)
def f_X12_stuck (h : Hp) (x0 : Nat) : Option (Int32 × Hp) :=
  gd (kd x0 = 12) <|
  lt ((si h x0 0 (0 : Int32))) <| fun h1 =>
  bd (f_X12_silent h1 x0) <| fun r3 h4 =>
  bd (f_X12_taken h4 x0) <| fun r6 h7 =>
  gd (kd (h7.2 x0 1) = 16) <|
  gd (inr (2 : Int32) (ln (h7.2 x0 1)) = true) <|
  bd (f_X12_stuckOf h7 x0 r3 r6 (h7.1 (h7.2 x0 1) (2 : Int32).toNatClampNeg)) <| fun r11 h12 =>
  some (r11, h12)
def f_X12_freed_53 : Nat → Hp → Nat → Int32 → Int32 → Int32 → Option (Int32 × Hp)
  | 0 => fun _ _ _ _ _ => none
  | fu + 1 => fun h x0 x1 x2 x3 =>
    gd (kd (h.2 x0 1) = 16) <|
    gd (inr (0 : Int32) (ln (h.2 x0 1)) = true) <|
    if (h.1 (h.2 x0 1) (0 : Int32).toNatClampNeg) < x3 then
      some ((-4 : Int32), h)
    else
      bd (f_X12_has h x2 (x3 - (1 : Int32))) <| fun r3 h4 =>
      if r3 = 0 then
        f_X12_freed_53 fu h4 x0 x1 x2 (x3 + (1 : Int32))
      else
        gd (kd (h4.2 x0 1) = 16) <|
        gd (inr (2 : Int32) (ln (h4.2 x0 1)) = true) <|
        bd (f_X12_hasBest h4 x0 x1 (x2 &&& (((1 : Int32) <<< ((x3 - (1 : Int32)) &&& 31)) ^^^ (-1 : Int32))) (h4.1 (h4.2 x0 1) (2 : Int32).toNatClampNeg)) <| fun r8 h9 =>
        if r8 = 0 then
          f_X12_freed_53 fu h9 x0 x1 x2 (x3 + (1 : Int32))
        else
          some (x3, h9)
def f_X12_freed (h : Hp) (x0 : Nat) (x1 : Int32) : Option (Int32 × Hp) :=
  gd (kd x0 = 12) <|
  lt ((si h x0 0 (0 : Int32))) <| fun h1 =>
  bd (f_X12_noOne h1 x0 x1) <| fun r3 h4 =>
  if r3 = 0 then
    bd (f_X12_taken h4 x0) <| fun r6 h7 =>
    gd (kd (h7.2 x0 3) = 16) <|
    gd (inr (2 : Int32) (ln (h7.2 x0 3)) = true) <|
    bd (f_X12_has h7 (h7.1 (h7.2 x0 3) (2 : Int32).toNatClampNeg) x1) <| fun r11 h12 =>
    if r11 = 0 then
      gd (kd (h12.2 x0 1) = 16) <|
      gd (inr (2 : Int32) (ln (h12.2 x0 1)) = true) <|
      bd (f_X12_hasBest h12 x0 x1 r6 (h12.1 (h12.2 x0 1) (2 : Int32).toNatClampNeg)) <| fun r16 h17 =>
      if r16 = 0 then
        f_X12_freed_53 FU h17 x0 x1 r6 (1 : Int32)
      else
        some ((-4 : Int32), h17)
    else
      some ((-4 : Int32), h12)
  else
    some ((-1 : Int32), h4)
def f_X12_isAhead_5 : Nat → Hp → Nat → Int32 → Int32 → Int32 → Int32 → Option (Int32 × Hp)
  | 0 => fun _ _ _ _ _ _ => none
  | fu + 1 => fun h x0 x1 x2 x3 x4 =>
    if x2 ≤ x4 then
      gd (x3 = 0 ∨ x3 = 1) <|
      some (x3, h)
    else
      if x3 = 0 then
        gd (kd (h.2 x0 19) = 16) <|
        gd (inr x4 (ln (h.2 x0 19)) = true) <|
        if (h.1 (h.2 x0 19) x4.toNatClampNeg) = x1 then
          f_X12_isAhead_5 fu h x0 x1 x2 (1 : Int32) (x4 + (1 : Int32))
        else
          f_X12_isAhead_5 fu h x0 x1 x2 (0 : Int32) (x4 + (1 : Int32))
      else
        f_X12_isAhead_5 fu h x0 x1 x2 (1 : Int32) (x4 + (1 : Int32))
def f_X12_isAhead (h : Hp) (x0 : Nat) (x1 : Int32) (x2 : Int32) : Option (Int32 × Hp) :=
  gd (kd x0 = 12) <|
  f_X12_isAhead_5 FU h x0 x1 x2 (0 : Int32) (0 : Int32)
def f_X12_layOrder_258 (k41 : Hp → Nat → Int32 → Int32 → Int32 → Option (Unit × Hp)) (h : Hp) (x0 : Nat) (x1 : Int32) (x2 : Int32) (x3 : Int32) (t0 : Nat) (t1 : Int32) (t2 : Int32) (t3 : Int32) : Option (Unit × Hp) :=
  gd (inr t1 (ln t0) = true) <|
  lt ((si h t0 t1.toNatClampNeg (t2 + t3))) <| fun h2 =>
  gd (kd (h2.2 x0 19) = 16) <|
  gd (inr (x3 + (1 : Int32)) (ln (h2.2 x0 19)) = true) <|
  lt ((si h2 (h2.2 x0 19) (x3 + (1 : Int32)).toNatClampNeg (-1 : Int32))) <| fun h6 =>
  k41 h6 x0 x1 x2 (x3 + (1 : Int32))
def f_X12_layOrder_233 (k41 : Hp → Nat → Int32 → Int32 → Int32 → Option (Unit × Hp)) (h : Hp) (x0 : Nat) (x1 : Int32) (x2 : Int32) (x3 : Int32) (x5 : Int32) (t0 : Nat) (t1 : Int32) (t2 : Int32) (t3 : Int32) : Option (Unit × Hp) :=
  gd (inr t1 (ln t0) = true) <|
  lt ((si h t0 t1.toNatClampNeg (t2 ||| t3))) <| fun h2 =>
  gd (kd (h2.2 x0 21) = 16) <|
  gd (kd (h2.2 x0 21) = 16) <|
  gd (inr x3 (ln (h2.2 x0 21)) = true) <|
  if x5 = 0 then
    f_X12_layOrder_258 k41 h2 x0 x1 x2 x3 (h2.2 x0 21) (x3 + (1 : Int32)) (h2.1 (h2.2 x0 21) x3.toNatClampNeg) (0 : Int32)
  else
    f_X12_layOrder_258 k41 h2 x0 x1 x2 x3 (h2.2 x0 21) (x3 + (1 : Int32)) (h2.1 (h2.2 x0 21) x3.toNatClampNeg) (1 : Int32)
def f_X12_layOrder_162 (k41 : Hp → Nat → Int32 → Int32 → Int32 → Option (Unit × Hp)) (h : Hp) (x0 : Nat) (x1 : Int32) (x2 : Int32) (x3 : Int32) (x4 : Int32) : Option (Unit × Hp) :=
  gd (kd (h.2 x0 19) = 16) <|
  gd (inr x3 (ln (h.2 x0 19)) = true) <|
  lt ((si h (h.2 x0 19) x3.toNatClampNeg x4)) <| fun h3 =>
  gd (kd (h3.2 x0 1) = 16) <|
  gd (inr (1 : Int32) (ln (h3.2 x0 1)) = true) <|
  if x4 = (h3.1 (h3.2 x0 1) (1 : Int32).toNatClampNeg) then
    k41 h3 x0 x1 x2 (x3 + (-1 : Int32))
  else
    gd (kd (h3.2 x0 20) = 16) <|
    gd (inr x3 (ln (h3.2 x0 20)) = true) <|
    gd (kd (h3.2 x0 1) = 16) <|
    gd (inr (2 : Int32) (ln (h3.2 x0 1)) = true) <|
    bd (f_X12_hasBest h3 x0 x4 (h3.1 (h3.2 x0 20) x3.toNatClampNeg) (h3.1 (h3.2 x0 1) (2 : Int32).toNatClampNeg)) <| fun r11 h12 =>
    gd (kd (h12.2 x0 20) = 16) <|
    gd (kd (h12.2 x0 20) = 16) <|
    gd (inr x3 (ln (h12.2 x0 20)) = true) <|
    if r11 = 0 then
      f_X12_layOrder_233 k41 h12 x0 x1 x2 x3 r11 (h12.2 x0 20) (x3 + (1 : Int32)) (h12.1 (h12.2 x0 20) x3.toNatClampNeg) (0 : Int32)
    else
      bd (f_X12_usedSet h12 x0) <| fun r17 h18 =>
      f_X12_layOrder_233 k41 h18 x0 x1 x2 x3 r11 (h12.2 x0 20) (x3 + (1 : Int32)) (h12.1 (h12.2 x0 20) x3.toNatClampNeg) r17
def f_X12_layOrder_126 (k41 : Hp → Nat → Int32 → Int32 → Int32 → Option (Unit × Hp)) : Nat → Hp → Nat → Int32 → Int32 → Int32 → Int32 → Option (Unit × Hp)
  | 0 => fun _ _ _ _ _ _ => none
  | fu + 1 => fun h x0 x1 x2 x3 x4 =>
    gd (kd (h.2 x0 1) = 16) <|
    gd (inr (1 : Int32) (ln (h.2 x0 1)) = true) <|
    if (h.1 (h.2 x0 1) (1 : Int32).toNatClampNeg) ≤ x4 then
      f_X12_layOrder_162 k41 h x0 x1 x2 x3 x4
    else
      bd (f_X12_has h x1 x4) <| fun r3 h4 =>
      if r3 = 0 then
        f_X12_layOrder_126 k41 fu h4 x0 x1 x2 x3 (x4 + (1 : Int32))
      else
        bd (f_X12_isAhead h4 x0 x4 x3) <| fun r6 h7 =>
        if r6 = 0 then
          f_X12_layOrder_162 k41 h7 x0 x1 x2 x3 x4
        else
          f_X12_layOrder_126 k41 fu h7 x0 x1 x2 x3 (x4 + (1 : Int32))
def f_X12_layOrder_84 (k41 : Hp → Nat → Int32 → Int32 → Int32 → Option (Unit × Hp)) : Nat → Hp → Nat → Int32 → Int32 → Int32 → Int32 → Option (Unit × Hp)
  | 0 => fun _ _ _ _ _ _ => none
  | fu + 1 => fun h x0 x1 x2 x3 x4 =>
    if x2 ≤ x4 then
      k41 h x0 x1 x2 (x3 + (-1 : Int32))
    else
      gd (kd (h.2 x0 22) = 16) <|
      gd (kd (h.2 x0 19) = 16) <|
      gd (inr x4 (ln (h.2 x0 19)) = true) <|
      gd (inr x4 (ln (h.2 x0 22)) = true) <|
      lt ((si h (h.2 x0 22) x4.toNatClampNeg (h.1 (h.2 x0 19) x4.toNatClampNeg))) <| fun h5 =>
      f_X12_layOrder_84 k41 fu h5 x0 x1 x2 x3 (x4 + (1 : Int32))
def f_X12_layOrder_41 : Nat → Hp → Nat → Int32 → Int32 → Int32 → Option (Unit × Hp)
  | 0 => fun _ _ _ _ _ => none
  | fu + 1 => fun h x0 x1 x2 x3 =>
    if x3 < 0 then
      some ((), h)
    else
      if x2 ≤ (h.1 x0 23) then
        some ((), h)
      else
        if x3 = x2 then
          gd (kd (h.2 x0 21) = 16) <|
          gd (inr x3 (ln (h.2 x0 21)) = true) <|
          if (h.1 (h.2 x0 21) x3.toNatClampNeg) ≤ (h.1 x0 23) then
            f_X12_layOrder_41 fu h x0 x1 x2 (x3 + (-1 : Int32))
          else
            gd (kd (h.2 x0 21) = 16) <|
            gd (inr x3 (ln (h.2 x0 21)) = true) <|
            lt ((si h x0 23 (h.1 (h.2 x0 21) x3.toNatClampNeg))) <| fun h7 =>
            f_X12_layOrder_84 (f_X12_layOrder_41 fu) FU h7 x0 x1 x2 x3 (0 : Int32)
        else
          gd (kd (h.2 x0 19) = 16) <|
          gd (inr x3 (ln (h.2 x0 19)) = true) <|
          f_X12_layOrder_126 (f_X12_layOrder_41 fu) FU h x0 x1 x2 x3 ((h.1 (h.2 x0 19) x3.toNatClampNeg) + (1 : Int32))
def f_X12_layOrder (h : Hp) (x0 : Nat) : Option (Unit × Hp) :=
  gd (kd x0 = 12) <|
  bd (f_X12_silent h x0) <| fun r1 h2 =>
  bd (f_X12_bits h2 r1) <| fun r4 h5 =>
  lt ((si h5 x0 23 (-1 : Int32))) <| fun h7 =>
  gd (kd (h7.2 x0 19) = 16) <|
  gd (inr (0 : Int32) (ln (h7.2 x0 19)) = true) <|
  lt ((si h7 (h7.2 x0 19) (0 : Int32).toNatClampNeg (-1 : Int32))) <| fun h11 =>
  gd (kd (h11.2 x0 20) = 16) <|
  bd (f_X12_taken h11 x0) <| fun r14 h15 =>
  gd (inr (0 : Int32) (ln (h11.2 x0 20)) = true) <|
  lt ((si h15 (h11.2 x0 20) (0 : Int32).toNatClampNeg r14)) <| fun h18 =>
  gd (kd (h18.2 x0 21) = 16) <|
  gd (inr (0 : Int32) (ln (h18.2 x0 21)) = true) <|
  lt ((si h18 (h18.2 x0 21) (0 : Int32).toNatClampNeg (0 : Int32))) <| fun h22 =>
  f_X12_layOrder_41 FU h22 x0 r1 r4 (0 : Int32)
def f_X12_order (h : Hp) (x0 : Nat) (x1 : Int32) : Option (Int32 × Hp) :=
  gd (kd x0 = 12) <|
  lt ((si h x0 0 (0 : Int32))) <| fun h1 =>
  bd (f_X12_in h1 x1.toInt64 (-1 : Int64) (5 : Int64)) <| fun r3 h4 =>
  if r3 = 0 then
    some ((-1 : Int32), h4)
  else
    bd (f_X12_layOrder h4 x0) <| fun r6 h7 =>
    if 0 ≤ x1 then
      bd (f_X12_silent h7 x0) <| fun r9 h10 =>
      bd (f_X12_bits h10 r9) <| fun r12 h13 =>
      if r12 ≤ x1 then
        some ((-4 : Int32), h13)
      else
        gd (kd (h13.2 x0 22) = 16) <|
        gd (inr x1 (ln (h13.2 x0 22)) = true) <|
        some ((h13.1 (h13.2 x0 22) x1.toNatClampNeg), h13)
    else
      some ((h7.1 x0 23), h7)
def f_X12_deny_184 (k50 : Hp → Nat → Int32 → Int32 → Int32 → Int32 → Int32 → Int32 → Int32 → Option (Int32 × Hp)) (k77 : Hp → Nat → Int32 → Int32 → Int32 → Int32 → Int32 → Int32 → Int32 → Int32 → Option (Int32 × Hp)) (h : Hp) (x0 : Nat) (x1 : Int32) (x2 : Int32) (x3 : Int32) (x4 : Int32) (x5 : Int32) (x7 : Int32) (x8 : Int32) (x9 : Int32) (t0 : Int32) : Option (Int32 × Hp) :=
  if x9 ≤ x4 then
    k77 h x0 x1 x2 x3 x4 x5 t0 x7 (x8 + (1 : Int32))
  else
    k77 h x0 x1 x2 x3 x9 x5 t0 x7 (x8 + (1 : Int32))
def f_X12_deny_168 (k50 : Hp → Nat → Int32 → Int32 → Int32 → Int32 → Int32 → Int32 → Int32 → Option (Int32 × Hp)) (k77 : Hp → Nat → Int32 → Int32 → Int32 → Int32 → Int32 → Int32 → Int32 → Int32 → Option (Int32 × Hp)) (h : Hp) (x0 : Nat) (x1 : Int32) (x2 : Int32) (x3 : Int32) (x4 : Int32) (x6 : Int32) (x7 : Int32) (x8 : Int32) (x9 : Int32) (t0 : Int32) : Option (Int32 × Hp) :=
  if x9 ≤ x4 then
    f_X12_deny_184 k50 k77 h x0 x1 x2 x3 x4 t0 x7 x8 x9 x6
  else
    f_X12_deny_184 k50 k77 h x0 x1 x2 x3 x4 t0 x7 x8 x9 x8
def f_X12_deny_95 (k50 : Hp → Nat → Int32 → Int32 → Int32 → Int32 → Int32 → Int32 → Int32 → Option (Int32 × Hp)) (k77 : Hp → Nat → Int32 → Int32 → Int32 → Int32 → Int32 → Int32 → Int32 → Int32 → Option (Int32 × Hp)) (h : Hp) (x0 : Nat) (x1 : Int32) (x2 : Int32) (x3 : Int32) (x4 : Int32) (x5 : Int32) (x6 : Int32) (x7 : Int32) (x8 : Int32) (t0 : Int32) (t1 : Int32) : Option (Int32 × Hp) :=
  if t1 < t0 then
    k50 h x0 x1 x2 x3 x4 x5 x6 (x7 + (1 : Int32))
  else
    bd (f_X12_has h x3 (x7 - (1 : Int32))) <| fun r1 h2 =>
    if r1 = 0 then
      bd (f_X12_has h2 x3 (x8 - (1 : Int32))) <| fun r4 h5 =>
      if r4 = 0 then
        bd (f_X12_silent h5 x0) <| fun r7 h8 =>
        gd (kd (h8.2 x0 1) = 16) <|
        gd (inr (2 : Int32) (ln (h8.2 x0 1)) = true) <|
        bd (f_X12_stuckOf h8 x0 r7 ((x3 ||| ((1 : Int32) <<< ((x7 - (1 : Int32)) &&& 31))) ||| ((1 : Int32) <<< ((x8 - (1 : Int32)) &&& 31))) (h8.1 (h8.2 x0 1) (2 : Int32).toNatClampNeg)) <| fun r12 h13 =>
        bd (f_X12_bits h13 r12) <| fun r15 h16 =>
        if r15 ≤ x4 then
          f_X12_deny_168 k50 k77 h16 x0 x1 x2 x3 x4 x6 x7 x8 r15 x5
        else
          f_X12_deny_168 k50 k77 h16 x0 x1 x2 x3 x4 x6 x7 x8 r15 x7
      else
        k77 h5 x0 x1 x2 x3 x4 x5 x6 x7 (x8 + (1 : Int32))
    else
      k77 h2 x0 x1 x2 x3 x4 x5 x6 x7 (x8 + (1 : Int32))
def f_X12_deny_77 (k50 : Hp → Nat → Int32 → Int32 → Int32 → Int32 → Int32 → Int32 → Int32 → Option (Int32 × Hp)) : Nat → Hp → Nat → Int32 → Int32 → Int32 → Int32 → Int32 → Int32 → Int32 → Int32 → Option (Int32 × Hp)
  | 0 => fun _ _ _ _ _ _ _ _ _ _ => none
  | fu + 1 => fun h x0 x1 x2 x3 x4 x5 x6 x7 x8 =>
    if x1 = (1 : Int32) then
      f_X12_deny_95 k50 (f_X12_deny_77 k50 fu) h x0 x1 x2 x3 x4 x5 x6 x7 x8 x8 x7
    else
      gd (kd (h.2 x0 1) = 16) <|
      gd (inr (0 : Int32) (ln (h.2 x0 1)) = true) <|
      f_X12_deny_95 k50 (f_X12_deny_77 k50 fu) h x0 x1 x2 x3 x4 x5 x6 x7 x8 x8 (h.1 (h.2 x0 1) (0 : Int32).toNatClampNeg)
def f_X12_deny_50 : Nat → Hp → Nat → Int32 → Int32 → Int32 → Int32 → Int32 → Int32 → Int32 → Option (Int32 × Hp)
  | 0 => fun _ _ _ _ _ _ _ _ _ => none
  | fu + 1 => fun h x0 x1 x2 x3 x4 x5 x6 x7 =>
    gd (kd (h.2 x0 1) = 16) <|
    gd (inr (0 : Int32) (ln (h.2 x0 1)) = true) <|
    if (h.1 (h.2 x0 1) (0 : Int32).toNatClampNeg) < x7 then
      if x5 = (-4 : Int32) then
        some ((-4 : Int32), h)
      else
        if x2 = 0 then
          some (x4, h)
        else
          if x2 = (1 : Int32) then
            some (x5, h)
          else
            some (x6, h)
    else
      if x1 = (1 : Int32) then
        f_X12_deny_77 (f_X12_deny_50 fu) FU h x0 x1 x2 x3 x4 x5 x6 x7 x7
      else
        f_X12_deny_77 (f_X12_deny_50 fu) FU h x0 x1 x2 x3 x4 x5 x6 x7 (x7 + (1 : Int32))
def f_X12_deny (h : Hp) (x0 : Nat) (x1 : Int32) (x2 : Int32) : Option (Int32 × Hp) :=
  gd (kd x0 = 12) <|
  lt ((si h x0 0 (0 : Int32))) <| fun h1 =>
  bd (f_X12_in h1 x1.toInt64 (1 : Int64) (2 : Int64)) <| fun r3 h4 =>
  if r3 = 0 then
    some ((-1 : Int32), h4)
  else
    bd (f_X12_in h4 x2.toInt64 (0 : Int64) (2 : Int64)) <| fun r6 h7 =>
    if r6 = 0 then
      some ((-1 : Int32), h7)
    else
      bd (f_X12_taken h7 x0) <| fun r9 h10 =>
      f_X12_deny_50 FU h10 x0 x1 x2 r9 (-1 : Int32) (-4 : Int32) (-4 : Int32) (1 : Int32)
def f_X12_guard_79 (k19 : Hp → Nat → Int32 → Int32 → Int32 → Int32 → Option (Int32 × Hp)) (h : Hp) (x0 : Nat) (x1 : Int32) (x3 : Int32) (x4 : Int32) (x5 : Int32) (t0 : Int32) : Option (Int32 × Hp) :=
  if x3 ≤ x5 then
    k19 h x0 x1 t0 x3 (x4 + (1 : Int32))
  else
    k19 h x0 x1 t0 x5 (x4 + (1 : Int32))
def f_X12_guard_19 : Nat → Hp → Nat → Int32 → Int32 → Int32 → Int32 → Option (Int32 × Hp)
  | 0 => fun _ _ _ _ _ _ => none
  | fu + 1 => fun h x0 x1 x2 x3 x4 =>
    gd (kd (h.2 x0 1) = 16) <|
    gd (inr (0 : Int32) (ln (h.2 x0 1)) = true) <|
    if (h.1 (h.2 x0 1) (0 : Int32).toNatClampNeg) < x4 then
      lt ((si h x0 12 (0 : Int32))) <| fun h3 =>
      some (x2, h3)
    else
      bd (f_X12_has h x1 (x4 - (1 : Int32))) <| fun r5 h6 =>
      if r5 = 0 then
        lt ((si h6 x0 12 x4)) <| fun h8 =>
        bd (f_X12_silent h8 x0) <| fun r10 h11 =>
        gd (kd (h11.2 x0 1) = 16) <|
        gd (inr (2 : Int32) (ln (h11.2 x0 1)) = true) <|
        bd (f_X12_stuckOf h11 x0 r10 x1 (h11.1 (h11.2 x0 1) (2 : Int32).toNatClampNeg)) <| fun r15 h16 =>
        bd (f_X12_bits h16 r15) <| fun r18 h19 =>
        if x3 ≤ r18 then
          f_X12_guard_79 (f_X12_guard_19 fu) h19 x0 x1 x3 x4 r18 x2
        else
          f_X12_guard_79 (f_X12_guard_19 fu) h19 x0 x1 x3 x4 r18 x4
      else
        f_X12_guard_19 fu h6 x0 x1 x2 x3 (x4 + (1 : Int32))
def f_X12_guard (h : Hp) (x0 : Nat) : Option (Int32 × Hp) :=
  gd (kd x0 = 12) <|
  lt ((si h x0 0 (0 : Int32))) <| fun h1 =>
  bd (f_X12_taken h1 x0) <| fun r3 h4 =>
  f_X12_guard_19 FU h4 x0 r3 (-4 : Int32) (99 : Int32) (1 : Int32)
def f_X12_value_38 : Nat → Hp → Nat → Int32 → Int32 → Int32 → Int32 → Option (Int32 × Hp)
  | 0 => fun _ _ _ _ _ _ => none
  | fu + 1 => fun h x0 x1 x2 x3 x4 =>
    gd (kd (h.2 x0 1) = 16) <|
    gd (inr (1 : Int32) (ln (h.2 x0 1)) = true) <|
    if (h.1 (h.2 x0 1) (1 : Int32).toNatClampNeg) ≤ x4 then
      some (x3, h)
    else
      gd (kd (h.2 x0 1) = 16) <|
      gd (inr (2 : Int32) (ln (h.2 x0 1)) = true) <|
      bd (f_X12_hasBest h x0 x4 x2 (h.1 (h.2 x0 1) (2 : Int32).toNatClampNeg)) <| fun r5 h6 =>
      if r5 = 0 then
        f_X12_value_38 fu h6 x0 x1 x2 (x3 + (0 : Int32)) (x4 + (1 : Int32))
      else
        gd (kd (h6.2 x0 1) = 16) <|
        gd (inr (2 : Int32) (ln (h6.2 x0 1)) = true) <|
        bd (f_X12_hasBest h6 x0 x4 (x2 ||| ((1 : Int32) <<< ((x1 - (1 : Int32)) &&& 31))) (h6.1 (h6.2 x0 1) (2 : Int32).toNatClampNeg)) <| fun r10 h11 =>
        if r10 = 0 then
          f_X12_value_38 fu h11 x0 x1 x2 (x3 + (1 : Int32)) (x4 + (1 : Int32))
        else
          f_X12_value_38 fu h11 x0 x1 x2 (x3 + (0 : Int32)) (x4 + (1 : Int32))
def f_X12_value (h : Hp) (x0 : Nat) (x1 : Int32) : Option (Int32 × Hp) :=
  gd (kd x0 = 12) <|
  lt ((si h x0 0 (0 : Int32))) <| fun h1 =>
  bd (f_X12_noNumber h1 x0 x1) <| fun r3 h4 =>
  if r3 = 0 then
    bd (f_X12_taken h4 x0) <| fun r6 h7 =>
    bd (f_X12_has h7 r6 (x1 - (1 : Int32))) <| fun r9 h10 =>
    if r9 = 0 then
      f_X12_value_38 FU h10 x0 x1 r6 (0 : Int32) (0 : Int32)
    else
      some ((-2 : Int32), h10)
  else
    some ((-1 : Int32), h4)
def f_X12_changed_46 (k12 : Hp → Nat → Int32 → Int32 → Int32 → Option (Int32 × Hp)) (h : Hp) (x0 : Nat) (x2 : Int32) (x3 : Int32) (x4 : Int32) (t0 : Int32) : Option (Int32 × Hp) :=
  if x2 ≤ x4 then
    k12 h x0 t0 x2 (x3 + (1 : Int32))
  else
    k12 h x0 t0 x4 (x3 + (1 : Int32))
def f_X12_changed_12 : Nat → Hp → Nat → Int32 → Int32 → Int32 → Option (Int32 × Hp)
  | 0 => fun _ _ _ _ _ => none
  | fu + 1 => fun h x0 x1 x2 x3 =>
    if (3 : Int32) < x3 then
      some (x1, h)
    else
      bd (f_X12_silent h x0) <| fun r1 h2 =>
      bd (f_X12_taken h2 x0) <| fun r4 h5 =>
      bd (f_X12_stuckOf h5 x0 r1 r4 x3) <| fun r7 h8 =>
      bd (f_X12_bits h8 r7) <| fun r10 h11 =>
      if x2 ≤ r10 then
        f_X12_changed_46 (f_X12_changed_12 fu) h11 x0 x2 x3 r10 x1
      else
        f_X12_changed_46 (f_X12_changed_12 fu) h11 x0 x2 x3 r10 x3
def f_X12_changed (h : Hp) (x0 : Nat) : Option (Int32 × Hp) :=
  gd (kd x0 = 12) <|
  lt ((si h x0 0 (0 : Int32))) <| fun h1 =>
  f_X12_changed_12 FU h1 x0 (0 : Int32) (99 : Int32) (0 : Int32)
def f_X12_waysOf_249 (k75 : Hp → Nat → Int32 → Int32 → Int32 → Int32 → Option (Int32 × Hp)) : Nat → Hp → Nat → Int32 → Int32 → Int32 → Int32 → Int32 → Option (Int32 × Hp)
  | 0 => fun _ _ _ _ _ _ _ => none
  | fu + 1 => fun h x0 x1 x2 x3 x4 x5 =>
    if (601 : Int32) ≤ x5 then
      k75 h x0 x1 x2 x3 (x4 + (1 : Int32))
    else
      gd (kd (h.2 x0 24) = 16) <|
      gd (kd (h.2 x0 25) = 16) <|
      gd (inr x5 (ln (h.2 x0 25)) = true) <|
      gd (inr x5 (ln (h.2 x0 24)) = true) <|
      lt ((si h (h.2 x0 24) x5.toNatClampNeg (h.1 (h.2 x0 25) x5.toNatClampNeg))) <| fun h5 =>
      f_X12_waysOf_249 k75 fu h5 x0 x1 x2 x3 x4 (x5 + (1 : Int32))
def f_X12_waysOf_228 (k75 : Hp → Nat → Int32 → Int32 → Int32 → Int32 → Option (Int32 × Hp)) (k100 : Hp → Nat → Int32 → Int32 → Int32 → Int32 → Int32 → Option (Int32 × Hp)) (h : Hp) (x0 : Nat) (x1 : Int32) (x2 : Int32) (x3 : Int32) (x4 : Int32) (x5 : Int32) (t0 : Int32) (t1 : Int32) : Option (Int32 × Hp) :=
  gd (kd (h.2 x0 25) = 16) <|
  gd (inr x5 (ln (h.2 x0 25)) = true) <|
  lt ((si h (h.2 x0 25) x5.toNatClampNeg (t0 + t1))) <| fun h3 =>
  k100 h3 x0 x1 x2 x3 x4 (x5 + (1 : Int32))
def f_X12_waysOf_227 (k75 : Hp → Nat → Int32 → Int32 → Int32 → Int32 → Option (Int32 × Hp)) (k100 : Hp → Nat → Int32 → Int32 → Int32 → Int32 → Int32 → Option (Int32 × Hp)) (h : Hp) (x0 : Nat) (x1 : Int32) (x2 : Int32) (x3 : Int32) (x4 : Int32) (x5 : Int32) (t0 : Int32) : Option (Int32 × Hp) :=
  f_X12_waysOf_228 k75 k100 h x0 x1 x2 x3 x4 x5 t0 (0 : Int32)
def f_X12_waysOf_177 (k75 : Hp → Nat → Int32 → Int32 → Int32 → Int32 → Option (Int32 × Hp)) (k100 : Hp → Nat → Int32 → Int32 → Int32 → Int32 → Int32 → Option (Int32 × Hp)) (h : Hp) (x0 : Nat) (x1 : Int32) (x2 : Int32) (x3 : Int32) (x4 : Int32) (x5 : Int32) (t0 : Int32) (t1 : Int32) : Option (Int32 × Hp) :=
  if x3 = (3 : Int32) then
    if (x4 - x4 / (2 : Int32) * (2 : Int32)) = 0 then
      bd (f_X12_in h (x5 - (x4 / (2 : Int32))).toInt64 (0 : Int64) (600 : Int64)) <| fun r1 h2 =>
      if r1 = 0 then
        f_X12_waysOf_227 k75 k100 h2 x0 x1 x2 x3 x4 x5 (t0 + t1)
      else
        gd (kd (h2.2 x0 24) = 16) <|
        gd (inr (x5 - (x4 / (2 : Int32))) (ln (h2.2 x0 24)) = true) <|
        f_X12_waysOf_228 k75 k100 h2 x0 x1 x2 x3 x4 x5 (t0 + t1) (h2.1 (h2.2 x0 24) (x5 - (x4 / (2 : Int32))).toNatClampNeg)
    else
      f_X12_waysOf_227 k75 k100 h x0 x1 x2 x3 x4 x5 (t0 + t1)
  else
    f_X12_waysOf_227 k75 k100 h x0 x1 x2 x3 x4 x5 (t0 + t1)
def f_X12_waysOf_176 (k75 : Hp → Nat → Int32 → Int32 → Int32 → Int32 → Option (Int32 × Hp)) (k100 : Hp → Nat → Int32 → Int32 → Int32 → Int32 → Int32 → Option (Int32 × Hp)) (h : Hp) (x0 : Nat) (x1 : Int32) (x2 : Int32) (x3 : Int32) (x4 : Int32) (x5 : Int32) (t0 : Int32) : Option (Int32 × Hp) :=
  f_X12_waysOf_177 k75 k100 h x0 x1 x2 x3 x4 x5 t0 (0 : Int32)
def f_X12_waysOf_138 (k75 : Hp → Nat → Int32 → Int32 → Int32 → Int32 → Option (Int32 × Hp)) (k100 : Hp → Nat → Int32 → Int32 → Int32 → Int32 → Int32 → Option (Int32 × Hp)) (h : Hp) (x0 : Nat) (x1 : Int32) (x2 : Int32) (x3 : Int32) (x4 : Int32) (x5 : Int32) (t0 : Int32) : Option (Int32 × Hp) :=
  if x3 < (2 : Int32) then
    f_X12_waysOf_176 k75 k100 h x0 x1 x2 x3 x4 x5 t0
  else
    bd (f_X12_in h (x5 + x4).toInt64 (0 : Int64) (600 : Int64)) <| fun r1 h2 =>
    if r1 = 0 then
      f_X12_waysOf_176 k75 k100 h2 x0 x1 x2 x3 x4 x5 t0
    else
      gd (kd (h2.2 x0 24) = 16) <|
      gd (inr (x5 + x4) (ln (h2.2 x0 24)) = true) <|
      f_X12_waysOf_177 k75 k100 h2 x0 x1 x2 x3 x4 x5 t0 (h2.1 (h2.2 x0 24) (x5 + x4).toNatClampNeg)
def f_X12_waysOf_100 (k75 : Hp → Nat → Int32 → Int32 → Int32 → Int32 → Option (Int32 × Hp)) : Nat → Hp → Nat → Int32 → Int32 → Int32 → Int32 → Int32 → Option (Int32 × Hp)
  | 0 => fun _ _ _ _ _ _ _ => none
  | fu + 1 => fun h x0 x1 x2 x3 x4 x5 =>
    if (601 : Int32) ≤ x5 then
      f_X12_waysOf_249 k75 FU h x0 x1 x2 x3 x4 (0 : Int32)
    else
      bd (f_X12_in h (x5 - x4).toInt64 (0 : Int64) (600 : Int64)) <| fun r1 h2 =>
      if r1 = 0 then
        f_X12_waysOf_138 k75 (f_X12_waysOf_100 k75 fu) h2 x0 x1 x2 x3 x4 x5 (0 : Int32)
      else
        gd (kd (h2.2 x0 24) = 16) <|
        gd (inr (x5 - x4) (ln (h2.2 x0 24)) = true) <|
        f_X12_waysOf_138 k75 (f_X12_waysOf_100 k75 fu) h2 x0 x1 x2 x3 x4 x5 (h2.1 (h2.2 x0 24) (x5 - x4).toNatClampNeg)
def f_X12_waysOf_75 : Nat → Hp → Nat → Int32 → Int32 → Int32 → Int32 → Option (Int32 × Hp)
  | 0 => fun _ _ _ _ _ _ => none
  | fu + 1 => fun h x0 x1 x2 x3 x4 =>
    gd (kd (h.2 x0 1) = 16) <|
    gd (inr (0 : Int32) (ln (h.2 x0 1)) = true) <|
    if (h.1 (h.2 x0 1) (0 : Int32).toNatClampNeg) < x4 then
      gd (kd (h.2 x0 24) = 16) <|
      gd (inr ((300 : Int32) + x2) (ln (h.2 x0 24)) = true) <|
      some ((h.1 (h.2 x0 24) ((300 : Int32) + x2).toNatClampNeg), h)
    else
      bd (f_X12_has h x1 (x4 - (1 : Int32))) <| fun r5 h6 =>
      if r5 = 0 then
        f_X12_waysOf_75 fu h6 x0 x1 x2 x3 (x4 + (1 : Int32))
      else
        f_X12_waysOf_100 (f_X12_waysOf_75 fu) FU h6 x0 x1 x2 x3 x4 (0 : Int32)
def f_X12_waysOf_65 (k38 : Hp → Nat → Int32 → Int32 → Int32 → Int32 → Option (Int32 × Hp)) (h : Hp) (x0 : Nat) (x1 : Int32) (x2 : Int32) (x3 : Int32) (x4 : Int32) (t0 : Nat) (t1 : Int32) (t2 : Int32) : Option (Int32 × Hp) :=
  gd (inr t1 (ln t0) = true) <|
  lt ((si h t0 t1.toNatClampNeg t2)) <| fun h2 =>
  k38 h2 x0 x1 x2 x3 (x4 + (1 : Int32))
def f_X12_waysOf_38 : Nat → Hp → Nat → Int32 → Int32 → Int32 → Int32 → Option (Int32 × Hp)
  | 0 => fun _ _ _ _ _ _ => none
  | fu + 1 => fun h x0 x1 x2 x3 x4 =>
    if (601 : Int32) ≤ x4 then
      f_X12_waysOf_75 FU h x0 x1 x2 x3 (1 : Int32)
    else
      gd (kd (h.2 x0 24) = 16) <|
      if x4 = (300 : Int32) then
        f_X12_waysOf_65 (f_X12_waysOf_38 fu) h x0 x1 x2 x3 x4 (h.2 x0 24) x4 (1 : Int32)
      else
        f_X12_waysOf_65 (f_X12_waysOf_38 fu) h x0 x1 x2 x3 x4 (h.2 x0 24) x4 (0 : Int32)
def f_X12_waysOf (h : Hp) (x0 : Nat) (x1 : Int32) (x2 : Int32) (x3 : Int32) : Option (Int32 × Hp) :=
  gd (kd x0 = 12) <|
  if x3 = 0 then
    gd (kd (h.2 x0 1) = 16) <|
    gd (inr (0 : Int32) (ln (h.2 x0 1)) = true) <|
    bd (f_X12_in h x2.toInt64 (1 : Int64) (h.1 (h.2 x0 1) (0 : Int32).toNatClampNeg).toInt64) <| fun r3 h4 =>
    if r3 = 0 then
      some ((0 : Int32), h4)
    else
      if x1 = ((1 : Int32) <<< ((x2 - (1 : Int32)) &&& 31)) then
        some ((1 : Int32), h4)
      else
        some ((0 : Int32), h4)
  else
    f_X12_waysOf_38 FU h x0 x1 x2 x3 (0 : Int32)
def f_X12_ways (h : Hp) (x0 : Nat) (x1 : Int32) (x2 : Int32) (x3 : Int32) : Option (Int32 × Hp) :=
  gd (kd x0 = 12) <|
  lt ((si h x0 0 (0 : Int32))) <| fun h1 =>
  bd (f_X12_noSet h1 x0 x1) <| fun r3 h4 =>
  if r3 = 0 then
    if x1 = 0 then
      some ((-1 : Int32), h4)
    else
      bd (f_X12_in h4 x2.toInt64 (0 : Int64) (99 : Int64)) <| fun r6 h7 =>
      if r6 = 0 then
        some ((-1 : Int32), h7)
      else
        bd (f_X12_in h7 x3.toInt64 (0 : Int64) (3 : Int64)) <| fun r9 h10 =>
        if r9 = 0 then
          some ((-1 : Int32), h10)
        else
          bd (f_X12_waysOf h10 x0 x1 x2 x3) <| fun r12 h13 =>
          some (r12, h13)
  else
    some ((-1 : Int32), h4)
def f_X12_lowest_17 : Nat → Hp → Nat → Int32 → Int32 → Option (Int32 × Hp)
  | 0 => fun _ _ _ _ => none
  | fu + 1 => fun h x0 x1 x2 =>
    if (100 : Int32) ≤ x2 then
      some ((-4 : Int32), h)
    else
      bd (f_X12_mayOf h x0 x1) <| fun r1 h2 =>
      gd (kd (h2.2 x0 1) = 16) <|
      gd (inr (2 : Int32) (ln (h2.2 x0 1)) = true) <|
      bd (f_X12_bestOf h2 x0 r1 x2 (h2.1 (h2.2 x0 1) (2 : Int32).toNatClampNeg)) <| fun r6 h7 =>
      if r6 = (-4 : Int32) then
        some (x2, h7)
      else
        f_X12_lowest_17 fu h7 x0 x1 (x2 + (1 : Int32))
def f_X12_lowest (h : Hp) (x0 : Nat) (x1 : Int32) : Option (Int32 × Hp) :=
  gd (kd x0 = 12) <|
  lt ((si h x0 0 (0 : Int32))) <| fun h1 =>
  bd (f_X12_noOne h1 x0 x1) <| fun r3 h4 =>
  if r3 = 0 then
    f_X12_lowest_17 FU h4 x0 x1 (1 : Int32)
  else
    some ((-1 : Int32), h4)
def f_X12_enter (h : Hp) (x0 : Nat) (x1 : Int32) : Option (Int32 × Hp) :=
  gd (kd x0 = 12) <|
  lt ((si h x0 0 (0 : Int32))) <| fun h1 =>
  bd (f_X12_noSet h1 x0 x1) <| fun r3 h4 =>
  if r3 = 0 then
    if x1 = 0 then
      some ((-1 : Int32), h4)
    else
      if (h4.1 x0 27) = (6 : Int32) then
        some ((-3 : Int32), h4)
      else
        gd (kd (h4.2 x0 26) = 16) <|
        gd (inr (h4.1 x0 27) (ln (h4.2 x0 26)) = true) <|
        lt ((si h4 (h4.2 x0 26) (h4.1 x0 27).toNatClampNeg x1)) <| fun h8 =>
        lt ((si h8 x0 27 ((h8.1 x0 27) + (1 : Int32)))) <| fun h10 =>
        some ((h10.1 x0 27), h10)
  else
    some ((-1 : Int32), h4)
def f_X12_close (h : Hp) (x0 : Nat) : Option (Int32 × Hp) :=
  gd (kd x0 = 12) <|
  lt ((si h x0 0 (0 : Int32))) <| fun h1 =>
  lt ((si h1 x0 27 (0 : Int32))) <| fun h3 =>
  some ((h1.1 x0 27), h3)
def f_X12_readingsBy_160 : Nat → Hp → Nat → Int32 → Int32 → Option (Int32 × Hp)
  | 0 => fun _ _ _ _ => none
  | fu + 1 => fun h x0 x3 x4 =>
    if (64 : Int32) ≤ x4 then
      some (x3, h)
    else
      gd (kd (h.2 x0 29) = 16) <|
      gd (inr x4 (ln (h.2 x0 29)) = true) <|
      f_X12_readingsBy_160 fu h x0 (x3 + (h.1 (h.2 x0 29) x4.toNatClampNeg)) (x4 + (1 : Int32))
def f_X12_readingsBy_78 (k31 : Hp → Nat → Int32 → Int32 → Int32 → Option (Int32 × Hp)) (k67 : Hp → Nat → Int32 → Int32 → Int32 → Int32 → Int32 → Option (Int32 × Hp)) : Nat → Hp → Nat → Int32 → Int32 → Int32 → Int32 → Int32 → Int32 → Int32 → Option (Int32 × Hp)
  | 0 => fun _ _ _ _ _ _ _ _ _ => none
  | fu + 1 => fun h x0 x1 x2 x3 x4 x5 x6 x7 =>
    if (6 : Int32) ≤ x7 then
      gd (kd (h.2 x0 29) = 16) <|
      gd (inr x5 (ln (h.2 x0 29)) = true) <|
      lt ((si h (h.2 x0 29) x5.toNatClampNeg x6)) <| fun h3 =>
      k67 h3 x0 x1 x2 x3 x4 (x5 + (-1 : Int32))
    else
      bd (f_X12_has h x5 x7) <| fun r5 h6 =>
      if r5 = 0 then
        f_X12_readingsBy_78 k31 k67 fu h6 x0 x1 x2 x3 x4 x5 (x6 + (0 : Int32)) (x7 + (1 : Int32))
      else
        bd (f_X12_has h6 x4 x7) <| fun r8 h9 =>
        if r8 = 0 then
          f_X12_readingsBy_78 k31 k67 fu h9 x0 x1 x2 x3 x4 x5 (x6 + (0 : Int32)) (x7 + (1 : Int32))
        else
          gd (kd (h9.2 x0 29) = 16) <|
          gd (inr (x5 &&& (((1 : Int32) <<< (x7 &&& 31)) ^^^ (-1 : Int32))) (ln (h9.2 x0 29)) = true) <|
          f_X12_readingsBy_78 k31 k67 fu h9 x0 x1 x2 x3 x4 x5 (x6 + (h9.1 (h9.2 x0 29) (x5 &&& (((1 : Int32) <<< (x7 &&& 31)) ^^^ (-1 : Int32))).toNatClampNeg)) (x7 + (1 : Int32))
def f_X12_readingsBy_67 (k31 : Hp → Nat → Int32 → Int32 → Int32 → Option (Int32 × Hp)) : Nat → Hp → Nat → Int32 → Int32 → Int32 → Int32 → Int32 → Option (Int32 × Hp)
  | 0 => fun _ _ _ _ _ _ _ => none
  | fu + 1 => fun h x0 x1 x2 x3 x4 x5 =>
    if x5 < 0 then
      k31 h x0 x1 x2 (x3 + (1 : Int32))
    else
      f_X12_readingsBy_78 k31 (f_X12_readingsBy_67 k31 fu) FU h x0 x1 x2 x3 x4 x5 (0 : Int32) (0 : Int32)
def f_X12_readingsBy_31 : Nat → Hp → Nat → Int32 → Int32 → Int32 → Option (Int32 × Hp)
  | 0 => fun _ _ _ _ _ => none
  | fu + 1 => fun h x0 x1 x2 x3 =>
    if (h.1 x0 27) ≤ x3 then
      f_X12_readingsBy_160 FU h x0 (0 : Int32) (0 : Int32)
    else
      if x3 = x1 then
        gd (kd (h.2 x0 28) = 16) <|
        gd (inr x3 (ln (h.2 x0 28)) = true) <|
        f_X12_readingsBy_67 (f_X12_readingsBy_31 fu) FU h x0 x1 x2 x3 ((h.1 (h.2 x0 28) x3.toNatClampNeg) &&& x2) (63 : Int32)
      else
        gd (kd (h.2 x0 28) = 16) <|
        gd (inr x3 (ln (h.2 x0 28)) = true) <|
        f_X12_readingsBy_67 (f_X12_readingsBy_31 fu) FU h x0 x1 x2 x3 (h.1 (h.2 x0 28) x3.toNatClampNeg) (63 : Int32)
def f_X12_readingsBy_22 (k2 : Hp → Nat → Int32 → Int32 → Int32 → Option (Int32 × Hp)) (h : Hp) (x0 : Nat) (x1 : Int32) (x2 : Int32) (x3 : Int32) (t0 : Nat) (t1 : Int32) (t2 : Int32) : Option (Int32 × Hp) :=
  gd (inr t1 (ln t0) = true) <|
  lt ((si h t0 t1.toNatClampNeg t2)) <| fun h2 =>
  k2 h2 x0 x1 x2 (x3 + (1 : Int32))
def f_X12_readingsBy_2 : Nat → Hp → Nat → Int32 → Int32 → Int32 → Option (Int32 × Hp)
  | 0 => fun _ _ _ _ _ => none
  | fu + 1 => fun h x0 x1 x2 x3 =>
    if (64 : Int32) ≤ x3 then
      f_X12_readingsBy_31 FU h x0 x1 x2 (0 : Int32)
    else
      gd (kd (h.2 x0 29) = 16) <|
      if x3 = 0 then
        f_X12_readingsBy_22 (f_X12_readingsBy_2 fu) h x0 x1 x2 x3 (h.2 x0 29) x3 (1 : Int32)
      else
        f_X12_readingsBy_22 (f_X12_readingsBy_2 fu) h x0 x1 x2 x3 (h.2 x0 29) x3 (0 : Int32)
def f_X12_readingsBy (h : Hp) (x0 : Nat) (x1 : Int32) (x2 : Int32) : Option (Int32 × Hp) :=
  gd (kd x0 = 12) <|
  f_X12_readingsBy_2 FU h x0 x1 x2 (0 : Int32)
def f_X12_book_126 : Nat → Hp → Nat → Int32 → Int32 → Int32 → Option (Int32 × Hp)
  | 0 => fun _ _ _ _ _ => none
  | fu + 1 => fun h x0 x1 x2 x3 =>
    gd (kd (h.2 x0 1) = 16) <|
    gd (inr (1 : Int32) (ln (h.2 x0 1)) = true) <|
    if (h.1 (h.2 x0 1) (1 : Int32).toNatClampNeg) ≤ x3 then
      some ((-4 : Int32), h)
    else
      if x2 ≤ 0 then
        some ((-4 : Int32), h)
      else
        bd (f_X12_readingsBy h x0 x1 ((1 : Int32) <<< (x3 &&& 31))) <| fun r3 h4 =>
        if r3 = x2 then
          some (x3, h4)
        else
          f_X12_book_126 fu h4 x0 x1 x2 (x3 + (1 : Int32))
def f_X12_book_96 (k27 : Hp → Nat → Int32 → Int32 → Option (Int32 × Hp)) (k44 : Hp → Nat → Int32 → Int32 → Int32 → Option (Int32 × Hp)) (h : Hp) (x0 : Nat) (x1 : Int32) (x2 : Int32) (x3 : Int32) (t0 : Nat) (t1 : Int32) (t2 : Int32) (t3 : Int32) : Option (Int32 × Hp) :=
  gd (inr t1 (ln t0) = true) <|
  lt ((si h t0 t1.toNatClampNeg (t2 ||| t3))) <| fun h2 =>
  k44 h2 x0 x1 x2 (x3 + (1 : Int32))
def f_X12_book_44 (k27 : Hp → Nat → Int32 → Int32 → Option (Int32 × Hp)) : Nat → Hp → Nat → Int32 → Int32 → Int32 → Option (Int32 × Hp)
  | 0 => fun _ _ _ _ _ => none
  | fu + 1 => fun h x0 x1 x2 x3 =>
    gd (kd (h.2 x0 1) = 16) <|
    gd (inr (1 : Int32) (ln (h.2 x0 1)) = true) <|
    if (h.1 (h.2 x0 1) (1 : Int32).toNatClampNeg) ≤ x3 then
      k27 h x0 x1 (x2 + (1 : Int32))
    else
      gd (kd (h.2 x0 28) = 16) <|
      gd (inr x2 (ln (h.2 x0 28)) = true) <|
      gd (kd (h.2 x0 26) = 16) <|
      gd (inr x2 (ln (h.2 x0 26)) = true) <|
      gd (kd (h.2 x0 1) = 16) <|
      gd (inr ((53 : Int32) + x3) (ln (h.2 x0 1)) = true) <|
      gd (kd (h.2 x0 1) = 16) <|
      gd (inr (2 : Int32) (ln (h.2 x0 1)) = true) <|
      bd (f_X12_waysOf h x0 (h.1 (h.2 x0 26) x2.toNatClampNeg) (h.1 (h.2 x0 1) ((53 : Int32) + x3).toNatClampNeg) (h.1 (h.2 x0 1) (2 : Int32).toNatClampNeg)) <| fun r11 h12 =>
      if r11 ≤ 0 then
        f_X12_book_96 k27 (f_X12_book_44 k27 fu) h12 x0 x1 x2 x3 (h.2 x0 28) x2 (h.1 (h.2 x0 28) x2.toNatClampNeg) (0 : Int32)
      else
        f_X12_book_96 k27 (f_X12_book_44 k27 fu) h12 x0 x1 x2 x3 (h.2 x0 28) x2 (h.1 (h.2 x0 28) x2.toNatClampNeg) ((1 : Int32) <<< (x3 &&& 31))
def f_X12_book_27 : Nat → Hp → Nat → Int32 → Int32 → Option (Int32 × Hp)
  | 0 => fun _ _ _ _ => none
  | fu + 1 => fun h x0 x1 x2 =>
    if (h.1 x0 27) ≤ x2 then
      bd (f_X12_readingsBy h x0 (-4 : Int32) (0 : Int32)) <| fun r1 h2 =>
      if 0 ≤ x1 then
        f_X12_book_126 FU h2 x0 x1 r1 (0 : Int32)
      else
        some (r1, h2)
    else
      gd (kd (h.2 x0 28) = 16) <|
      gd (inr x2 (ln (h.2 x0 28)) = true) <|
      lt ((si h (h.2 x0 28) x2.toNatClampNeg (0 : Int32))) <| fun h6 =>
      f_X12_book_44 (f_X12_book_27 fu) FU h6 x0 x1 x2 (0 : Int32)
def f_X12_book (h : Hp) (x0 : Nat) (x1 : Int32) : Option (Int32 × Hp) :=
  gd (kd x0 = 12) <|
  lt ((si h x0 0 (0 : Int32))) <| fun h1 =>
  bd (f_X12_in h1 x1.toInt64 (-1 : Int64) ((h1.1 x0 27) - (1 : Int32)).toInt64) <| fun r3 h4 =>
  if r3 = 0 then
    some ((-1 : Int32), h4)
  else
    f_X12_book_27 FU h4 x0 x1 (0 : Int32)
def f_X12_twice_21 (k7 : Hp → Nat → Int32 → Option (Int32 × Hp)) : Nat → Hp → Nat → Int32 → Int32 → Int32 → Option (Int32 × Hp)
  | 0 => fun _ _ _ _ _ => none
  | fu + 1 => fun h x0 x1 x2 x3 =>
    if (h.1 x0 27) ≤ x3 then
      if x2 ≤ (1 : Int32) then
        k7 h x0 (x1 + (1 : Int32))
      else
        some (x1, h)
    else
      gd (kd (h.2 x0 26) = 16) <|
      gd (inr x3 (ln (h.2 x0 26)) = true) <|
      f_X12_twice_21 k7 fu h x0 x1 (x2 + (((h.1 (h.2 x0 26) x3.toNatClampNeg) >>> ((x1 - (1 : Int32)) &&& 31)) &&& (1 : Int32))) (x3 + (1 : Int32))
def f_X12_twice_7 : Nat → Hp → Nat → Int32 → Option (Int32 × Hp)
  | 0 => fun _ _ _ => none
  | fu + 1 => fun h x0 x1 =>
    gd (kd (h.2 x0 1) = 16) <|
    gd (inr (0 : Int32) (ln (h.2 x0 1)) = true) <|
    if (h.1 (h.2 x0 1) (0 : Int32).toNatClampNeg) < x1 then
      some ((-4 : Int32), h)
    else
      f_X12_twice_21 (f_X12_twice_7 fu) FU h x0 x1 (0 : Int32) (0 : Int32)
def f_X12_twice (h : Hp) (x0 : Nat) : Option (Int32 × Hp) :=
  gd (kd x0 = 12) <|
  lt ((si h x0 0 (0 : Int32))) <| fun h1 =>
  f_X12_twice_7 FU h1 x0 (1 : Int32)
def f_X12_corner_126 (k50 : Hp → Nat → Int32 → Int32 → Int32 → Int32 → Int32 → Option (Int32 × Hp)) (h : Hp) (x0 : Nat) (x1 : Int32) (x2 : Int32) (x4 : Int32) (x5 : Int32) (x6 : Int32) (t0 : Int32) : Option (Int32 × Hp) :=
  if x6 ≤ x4 then
    k50 h x0 x1 x2 t0 x4 (x5 + (1 : Int32))
  else
    k50 h x0 x1 x2 t0 x6 (x5 + (1 : Int32))
def f_X12_corner_50 : Nat → Hp → Nat → Int32 → Int32 → Int32 → Int32 → Int32 → Option (Int32 × Hp)
  | 0 => fun _ _ _ _ _ _ _ => none
  | fu + 1 => fun h x0 x1 x2 x3 x4 x5 =>
    if (100 : Int32) ≤ x5 then
      if x3 = (-4 : Int32) then
        some (x3, h)
      else
        if x2 = 0 then
          some (x3, h)
        else
          some (x4, h)
    else
      bd (f_X12_mayOf h x0 x1) <| fun r1 h2 =>
      gd (kd (h2.2 x0 1) = 16) <|
      gd (inr (2 : Int32) (ln (h2.2 x0 1)) = true) <|
      bd (f_X12_bestOf h2 x0 r1 x5 (h2.1 (h2.2 x0 1) (2 : Int32).toNatClampNeg)) <| fun r6 h7 =>
      if r6 = (-4 : Int32) then
        f_X12_corner_50 fu h7 x0 x1 x2 x3 x4 (x5 + (1 : Int32))
      else
        bd (f_X12_silent h7 x0) <| fun r9 h10 =>
        bd (f_X12_taken h10 x0) <| fun r12 h13 =>
        bd (f_X12_usedSet h13 x0) <| fun r15 h16 =>
        gd (kd (h16.2 x0 1) = 16) <|
        gd (inr (2 : Int32) (ln (h16.2 x0 1)) = true) <|
        bd (f_X12_stuckOf h16 x0 (r9 &&& (((1 : Int32) <<< (x1 &&& 31)) ^^^ (-1 : Int32))) (r12 ||| r15) (h16.1 (h16.2 x0 1) (2 : Int32).toNatClampNeg)) <| fun r20 h21 =>
        bd (f_X12_bits h21 r20) <| fun r23 h24 =>
        if r23 ≤ x4 then
          f_X12_corner_126 (f_X12_corner_50 fu) h24 x0 x1 x2 x4 x5 r23 x3
        else
          f_X12_corner_126 (f_X12_corner_50 fu) h24 x0 x1 x2 x4 x5 r23 x5
def f_X12_corner (h : Hp) (x0 : Nat) (x1 : Int32) (x2 : Int32) : Option (Int32 × Hp) :=
  gd (kd x0 = 12) <|
  lt ((si h x0 0 (0 : Int32))) <| fun h1 =>
  bd (f_X12_noOne h1 x0 x1) <| fun r3 h4 =>
  if r3 = 0 then
    bd (f_X12_in h4 x2.toInt64 (0 : Int64) (1 : Int64)) <| fun r6 h7 =>
    if r6 = 0 then
      some ((-1 : Int32), h7)
    else
      gd (kd (h7.2 x0 3) = 16) <|
      gd (inr (2 : Int32) (ln (h7.2 x0 3)) = true) <|
      bd (f_X12_has h7 (h7.1 (h7.2 x0 3) (2 : Int32).toNatClampNeg) x1) <| fun r11 h12 =>
      if r11 = 0 then
        f_X12_corner_50 FU h12 x0 x1 x2 (-4 : Int32) (-1 : Int32) (1 : Int32)
      else
        some ((-2 : Int32), h12)
  else
    some ((-1 : Int32), h4)
def f_X12_year_234 (k50 : Hp → Nat → Int32 → Int32 → Int32 → Int32 → Int32 → Int32 → Option (Int32 × Hp)) (k65 : Hp → Nat → Int32 → Int32 → Int32 → Int32 → Int32 → Int32 → Int32 → Int32 → Int32 → Option (Int32 × Hp)) (h : Hp) (x0 : Nat) (x1 : Int32) (x2 : Int32) (x3 : Int32) (x4 : Int32) (x5 : Int32) (x6 : Int32) (x8 : Int32) (x9 : Int32) (x14 : Int32) (t0 : Int32) (t1 : Int32) : Option (Int32 × Hp) :=
  if x14 = 0 then
    k65 h x0 x1 x2 x3 x4 x5 x6 (t0 ||| t1) (x8 + (0 : Int32)) (x9 + (1 : Int32))
  else
    k65 h x0 x1 x2 x3 x4 x5 x6 (t0 ||| t1) (x8 + (1 : Int32)) (x9 + (1 : Int32))
def f_X12_year_217 (k50 : Hp → Nat → Int32 → Int32 → Int32 → Int32 → Int32 → Int32 → Option (Int32 × Hp)) (k65 : Hp → Nat → Int32 → Int32 → Int32 → Int32 → Int32 → Int32 → Int32 → Int32 → Int32 → Option (Int32 × Hp)) (h : Hp) (x0 : Nat) (x1 : Int32) (x2 : Int32) (x3 : Int32) (x4 : Int32) (x5 : Int32) (x6 : Int32) (x7 : Int32) (x8 : Int32) (x9 : Int32) (t0 : Int32) : Option (Int32 × Hp) :=
  if t0 = 0 then
    f_X12_year_234 k50 k65 h x0 x1 x2 x3 x4 x5 x6 x8 x9 t0 x7 (0 : Int32)
  else
    bd (f_X12_usedSet h x0) <| fun r1 h2 =>
    f_X12_year_234 k50 k65 h2 x0 x1 x2 x3 x4 x5 x6 x8 x9 t0 x7 r1
def f_X12_year_169 (k50 : Hp → Nat → Int32 → Int32 → Int32 → Int32 → Int32 → Int32 → Option (Int32 × Hp)) (k65 : Hp → Nat → Int32 → Int32 → Int32 → Int32 → Int32 → Int32 → Int32 → Int32 → Int32 → Option (Int32 × Hp)) (k126 : Hp → Nat → Int32 → Int32 → Int32 → Int32 → Int32 → Int32 → Int32 → Int32 → Int32 → Int32 → Int32 → Int32 → Option (Int32 × Hp)) (h : Hp) (x0 : Nat) (x1 : Int32) (x2 : Int32) (x3 : Int32) (x4 : Int32) (x5 : Int32) (x6 : Int32) (x7 : Int32) (x8 : Int32) (x9 : Int32) (x12 : Int32) (x14 : Int32) (t0 : Int32) : Option (Int32 × Hp) :=
  k126 h x0 x1 x2 x3 x4 x5 x6 x7 x8 x9 x12 (t0 ||| ((1 : Int32) <<< ((x14 - (1 : Int32)) &&& 31))) (x14 + (1 : Int32))
def f_X12_year_126 (k50 : Hp → Nat → Int32 → Int32 → Int32 → Int32 → Int32 → Int32 → Option (Int32 × Hp)) (k65 : Hp → Nat → Int32 → Int32 → Int32 → Int32 → Int32 → Int32 → Int32 → Int32 → Int32 → Option (Int32 × Hp)) : Nat → Hp → Nat → Int32 → Int32 → Int32 → Int32 → Int32 → Int32 → Int32 → Int32 → Int32 → Int32 → Int32 → Int32 → Option (Int32 × Hp)
  | 0 => fun _ _ _ _ _ _ _ _ _ _ _ _ _ _ => none
  | fu + 1 => fun h x0 x1 x2 x3 x4 x5 x6 x7 x8 x9 x12 x13 x14 =>
    gd (kd (h.2 x0 1) = 16) <|
    gd (inr (0 : Int32) (ln (h.2 x0 1)) = true) <|
    if (h.1 (h.2 x0 1) (0 : Int32).toNatClampNeg) < x14 then
      gd (kd (h.2 x0 1) = 16) <|
      gd (inr (2 : Int32) (ln (h.2 x0 1)) = true) <|
      bd (f_X12_bestOf h x0 (x13 &&& (x7 ^^^ (-1 : Int32))) x12 (h.1 (h.2 x0 1) (2 : Int32).toNatClampNeg)) <| fun r5 h6 =>
      if r5 = (-4 : Int32) then
        f_X12_year_217 k50 k65 h6 x0 x1 x2 x3 x4 x5 x6 x7 x8 x9 (0 : Int32)
      else
        f_X12_year_217 k50 k65 h6 x0 x1 x2 x3 x4 x5 x6 x7 x8 x9 (1 : Int32)
    else
      gd (kd (h.2 x0 1) = 16) <|
      gd (inr ((28 : Int32) + x14) (ln (h.2 x0 1)) = true) <|
      if (h.1 (h.2 x0 1) ((28 : Int32) + x14).toNatClampNeg) = (-4 : Int32) then
        f_X12_year_169 k50 k65 (f_X12_year_126 k50 k65 fu) h x0 x1 x2 x3 x4 x5 x6 x7 x8 x9 x12 x14 x13
      else
        gd (kd (h.2 x0 1) = 16) <|
        gd (inr ((28 : Int32) + x14) (ln (h.2 x0 1)) = true) <|
        if (h.1 (h.2 x0 1) ((28 : Int32) + x14).toNatClampNeg) = x9 then
          f_X12_year_169 k50 k65 (f_X12_year_126 k50 k65 fu) h x0 x1 x2 x3 x4 x5 x6 x7 x8 x9 x12 x14 x13
        else
          f_X12_year_126 k50 k65 fu h x0 x1 x2 x3 x4 x5 x6 x7 x8 x9 x12 (x13 ||| (0 : Int32)) (x14 + (1 : Int32))
def f_X12_year_65 (k50 : Hp → Nat → Int32 → Int32 → Int32 → Int32 → Int32 → Int32 → Option (Int32 × Hp)) : Nat → Hp → Nat → Int32 → Int32 → Int32 → Int32 → Int32 → Int32 → Int32 → Int32 → Int32 → Option (Int32 × Hp)
  | 0 => fun _ _ _ _ _ _ _ _ _ _ _ => none
  | fu + 1 => fun h x0 x1 x2 x3 x4 x5 x6 x7 x8 x9 =>
    gd (kd (h.2 x0 1) = 16) <|
    gd (inr (1 : Int32) (ln (h.2 x0 1)) = true) <|
    if (h.1 (h.2 x0 1) (1 : Int32).toNatClampNeg) ≤ x9 then
      gd (kd (h.2 x0 1) = 16) <|
      gd (inr (1 : Int32) (ln (h.2 x0 1)) = true) <|
      gd (kd (h.2 x0 1) = 16) <|
      gd (inr (1 : Int32) (ln (h.2 x0 1)) = true) <|
      if x8 = (h.1 (h.2 x0 1) (1 : Int32).toNatClampNeg) then
        k50 h x0 x1 x2 x3 (x4 + ((h.1 (h.2 x0 1) (1 : Int32).toNatClampNeg) - x8)) (x5 + (1 : Int32)) (x6 + (1 : Int32))
      else
        k50 h x0 x1 x2 x3 (x4 + ((h.1 (h.2 x0 1) (1 : Int32).toNatClampNeg) - x8)) (x5 + (0 : Int32)) (x6 + (1 : Int32))
    else
      f_X12_year_126 k50 (f_X12_year_65 k50 fu) FU h x0 x1 x2 x3 x4 x5 x6 x7 x8 x9 (((((((((7919 : Int64) * x1.toInt64) + ((6151 : Int64) * x6.toInt64)) + ((101 : Int64) * x9.toInt64)) + (1 : Int64)) * (((((7919 : Int64) * x1.toInt64) + ((6151 : Int64) * x6.toInt64)) + ((101 : Int64) * x9.toInt64)) + (1 : Int64))) - ((((((7919 : Int64) * x1.toInt64) + ((6151 : Int64) * x6.toInt64)) + ((101 : Int64) * x9.toInt64)) + (1 : Int64)) * (((((7919 : Int64) * x1.toInt64) + ((6151 : Int64) * x6.toInt64)) + ((101 : Int64) * x9.toInt64)) + (1 : Int64))) / (65521 : Int64) * (65521 : Int64)) - (((((((7919 : Int64) * x1.toInt64) + ((6151 : Int64) * x6.toInt64)) + ((101 : Int64) * x9.toInt64)) + (1 : Int64)) * (((((7919 : Int64) * x1.toInt64) + ((6151 : Int64) * x6.toInt64)) + ((101 : Int64) * x9.toInt64)) + (1 : Int64))) - ((((((7919 : Int64) * x1.toInt64) + ((6151 : Int64) * x6.toInt64)) + ((101 : Int64) * x9.toInt64)) + (1 : Int64)) * (((((7919 : Int64) * x1.toInt64) + ((6151 : Int64) * x6.toInt64)) + ((101 : Int64) * x9.toInt64)) + (1 : Int64))) / (65521 : Int64) * (65521 : Int64)) / (99 : Int64) * (99 : Int64)).toInt32 + (1 : Int32)) (0 : Int32) (1 : Int32)
def f_X12_year_50 : Nat → Hp → Nat → Int32 → Int32 → Int32 → Int32 → Int32 → Int32 → Option (Int32 × Hp)
  | 0 => fun _ _ _ _ _ _ _ _ => none
  | fu + 1 => fun h x0 x1 x2 x3 x4 x5 x6 =>
    if x2 ≤ x6 then
      if x3 = 0 then
        some (x4, h)
      else
        some (x5, h)
    else
      f_X12_year_65 (f_X12_year_50 fu) FU h x0 x1 x2 x3 x4 x5 x6 (0 : Int32) (0 : Int32) (0 : Int32)
def f_X12_year (h : Hp) (x0 : Nat) (x1 : Int32) (x2 : Int32) (x3 : Int32) : Option (Int32 × Hp) :=
  gd (kd x0 = 12) <|
  lt ((si h x0 0 (0 : Int32))) <| fun h1 =>
  bd (f_X12_in h1 x1.toInt64 (0 : Int64) (9999 : Int64)) <| fun r3 h4 =>
  if r3 = 0 then
    some ((-1 : Int32), h4)
  else
    bd (f_X12_in h4 x2.toInt64 (1 : Int64) (30 : Int64)) <| fun r6 h7 =>
    if r6 = 0 then
      some ((-1 : Int32), h7)
    else
      bd (f_X12_in h7 x3.toInt64 (0 : Int64) (1 : Int64)) <| fun r9 h10 =>
      if r9 = 0 then
        some ((-1 : Int32), h10)
      else
        f_X12_year_50 FU h10 x0 x1 x2 x3 (0 : Int32) (0 : Int32) (0 : Int32)
def f_X12_keep_18 : Nat → Hp → Nat → Int32 → Option (Int32 × Hp)
  | 0 => fun _ _ _ => none
  | fu + 1 => fun h x0 x1 =>
    if (51 : Int32) ≤ x1 then
      lt ((si h x0 7 ((h.1 x0 7) + (1 : Int32)))) <| fun h1 =>
      some ((h1.1 x0 7), h1)
    else
      gd (kd (h.2 x0 6) = 16) <|
      gd (kd (h.2 x0 3) = 16) <|
      gd (inr x1 (ln (h.2 x0 3)) = true) <|
      gd (inr (((51 : Int32) * (h.1 x0 7)) + x1) (ln (h.2 x0 6)) = true) <|
      lt ((si h (h.2 x0 6) (((51 : Int32) * (h.1 x0 7)) + x1).toNatClampNeg (h.1 (h.2 x0 3) x1.toNatClampNeg))) <| fun h7 =>
      f_X12_keep_18 fu h7 x0 (x1 + (1 : Int32))
def f_X12_keep (h : Hp) (x0 : Nat) : Option (Int32 × Hp) :=
  gd (kd x0 = 12) <|
  lt ((si h x0 0 (0 : Int32))) <| fun h1 =>
  if (h1.1 x0 7) = (2 : Int32) then
    some ((-3 : Int32), h1)
  else
    f_X12_keep_18 FU h1 x0 (0 : Int32)
def f_X12_back_27 : Nat → Hp → Nat → Int32 → Option (Int32 × Hp)
  | 0 => fun _ _ _ => none
  | fu + 1 => fun h x0 x1 =>
    if (51 : Int32) ≤ x1 then
      lt ((si h x0 5 (0 : Int32))) <| fun h1 =>
      some ((h1.1 x0 7), h1)
    else
      gd (kd (h.2 x0 3) = 16) <|
      gd (kd (h.2 x0 6) = 16) <|
      gd (inr (((51 : Int32) * (h.1 x0 7)) + x1) (ln (h.2 x0 6)) = true) <|
      gd (inr x1 (ln (h.2 x0 3)) = true) <|
      lt ((si h (h.2 x0 3) x1.toNatClampNeg (h.1 (h.2 x0 6) (((51 : Int32) * (h.1 x0 7)) + x1).toNatClampNeg))) <| fun h7 =>
      f_X12_back_27 fu h7 x0 (x1 + (1 : Int32))
def f_X12_back (h : Hp) (x0 : Nat) : Option (Int32 × Hp) :=
  gd (kd x0 = 12) <|
  lt ((si h x0 0 (0 : Int32))) <| fun h1 =>
  if (h1.1 x0 7) = 0 then
    some ((-2 : Int32), h1)
  else
    lt ((si h1 x0 7 ((h1.1 x0 7) - (1 : Int32)))) <| fun h3 =>
    f_X12_back_27 FU h3 x0 (0 : Int32)
def f_X12_count (h : Hp) (x0 : Nat) (x1 : Int32) : Option (Int32 × Hp) :=
  gd (kd x0 = 12) <|
  lt ((si h x0 0 (0 : Int32))) <| fun h1 =>
  if x1 = (0 : Int32) then
    gd (kd (h1.2 x0 1) = 16) <|
    gd (inr (0 : Int32) (ln (h1.2 x0 1)) = true) <|
    some ((h1.1 (h1.2 x0 1) (0 : Int32).toNatClampNeg), h1)
  else if x1 = (1 : Int32) then
    gd (kd (h1.2 x0 1) = 16) <|
    gd (inr (1 : Int32) (ln (h1.2 x0 1)) = true) <|
    some ((h1.1 (h1.2 x0 1) (1 : Int32).toNatClampNeg), h1)
  else if x1 = (2 : Int32) then
    bd (f_X12_taken h1 x0) <| fun r7 h8 =>
    bd (f_X12_bits h8 r7) <| fun r10 h11 =>
    some (r10, h11)
  else if x1 = (3 : Int32) then
    gd (kd (h1.2 x0 3) = 16) <|
    gd (inr (2 : Int32) (ln (h1.2 x0 3)) = true) <|
    bd (f_X12_bits h1 (h1.1 (h1.2 x0 3) (2 : Int32).toNatClampNeg)) <| fun r15 h16 =>
    some (r15, h16)
  else if x1 = (4 : Int32) then
    gd (kd (h1.2 x0 3) = 16) <|
    gd (inr (0 : Int32) (ln (h1.2 x0 3)) = true) <|
    some ((h1.1 (h1.2 x0 3) (0 : Int32).toNatClampNeg), h1)
  else if x1 = (5 : Int32) then
    gd (kd (h1.2 x0 3) = 16) <|
    gd (inr (1 : Int32) (ln (h1.2 x0 3)) = true) <|
    some ((h1.1 (h1.2 x0 3) (1 : Int32).toNatClampNeg), h1)
  else if x1 = (6 : Int32) then
    some ((h1.1 x0 14), h1)
  else if x1 = (7 : Int32) then
    some ((h1.1 x0 27), h1)
  else if x1 = (8 : Int32) then
    some ((h1.1 x0 5), h1)
  else if x1 = (9 : Int32) then
    some ((h1.1 x0 7), h1)
  else if x1 = (10 : Int32) then
    some ((h1.1 x0 9), h1)
  else 
    some ((-1 : Int32), h1)
