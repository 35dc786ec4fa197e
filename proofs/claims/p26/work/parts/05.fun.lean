/-- the rounds that a loop is given -/
abbrev FU : Nat := 200
def f_X7_levelAt (h : Hp) (a1 : Int32) (a2 : Int32) : Option (Int32 × Hp) :=
    some ((if 0 ≤ (((a2 + a1) - (a2 + a1) / (12 : Int32) * (12 : Int32)) - (6 : Int32)) then (((a2 + a1) - (a2 + a1) / (12 : Int32) * (12 : Int32)) - (6 : Int32)) else 0 - (((a2 + a1) - (a2 + a1) / (12 : Int32) * (12 : Int32)) - (6 : Int32))), h)
def f_X6_print_97 (k : Nat) (k1 : Nat) (K23 : Hp → Int32 → Int32 → Option (Hp)) (h : Hp) (x2 : Int32) (x3 : Int32) : Option (Hp) :=
    K23 h x2 (x3 + 1)
def f_X6_print_93 (k : Nat) (k1 : Nat) (K23 : Hp → Int32 → Int32 → Option (Hp)) (h : Hp) (x3 : Int32) : Option (Hp) :=
    f_X6_print_97 k k1 K23 h (x3 + (3 : Int32)) x3
def f_X6_print_54 (k : Nat) (k1 : Nat) (K23 : Hp → Int32 → Int32 → Option (Hp)) (h : Hp) (x2 : Int32) (x3 : Int32) (t0 : Int32) : Option (Hp) :=
    if t0 = 0 then
      f_X6_print_97 k k1 K23 h x2 x3
    else
      if (8 : Int32) ≤ (h k 1) then
        f_X6_print_97 k k1 K23 h x2 x3
      else
        if inb (h k 1) 8 = true then
          f_X6_print_93 k k1 K23 (hs (hs h (k + 1) (h k 1).toNatClampNeg x3) k 1 (((hs h (k + 1) (h k 1).toNatClampNeg x3) k 1) + (1 : Int32))) x3
        else none
def f_X6_print_53 (k : Nat) (k1 : Nat) (K23 : Hp → Int32 → Int32 → Option (Hp)) (h : Hp) (x2 : Int32) (x3 : Int32) : Option (Hp) :=
    f_X6_print_54 k k1 K23 h x2 x3 (0 : Int32)
def f_X6_print_23 (k : Nat) (k1 : Nat) : Nat → Hp → Int32 → Int32 → Option (Hp)
  | 0 => fun _ _ _ => none
  | n + 1 => fun h x2 x3 =>
    if (21 : Int32) < x3 then
      some h
    else
      if x3 < x2 then
        f_X6_print_53 k k1 (f_X6_print_23 k k1 n) h x2 x3
      else
        (f_X7_levelAt h (h k1 0) x3).bind (fun q1 =>
          if q1.1 < (q1.2 k1 1) then
            f_X6_print_53 k k1 (f_X6_print_23 k k1 n) q1.2 x2 x3
          else
            f_X6_print_54 k k1 (f_X6_print_23 k k1 n) q1.2 x2 x3 (1 : Int32))
theorem f_X6_print_23_s (k : Nat) (k1 : Nat) (n : Nat) (h : Hp) (x2 : Int32) (x3 : Int32) : f_X6_print_23 k k1 (n + 1) h x2 x3 =
    if (21 : Int32) < x3 then
      some h
    else
      if x3 < x2 then
        f_X6_print_53 k k1 (f_X6_print_23 k k1 n) h x2 x3
      else
        (f_X7_levelAt h (h k1 0) x3).bind (fun q1 =>
          if q1.1 < (q1.2 k1 1) then
            f_X6_print_53 k k1 (f_X6_print_23 k k1 n) q1.2 x2 x3
          else
            f_X6_print_54 k k1 (f_X6_print_23 k k1 n) q1.2 x2 x3 (1 : Int32)) := rfl
def f_X6_print_13 (k : Nat) (k1 : Nat) (h : Hp) : Option (Hp) :=
    f_X6_print_23 k k1 FU h (h k1 2) (h k1 2)
def f_X6_print (h : Hp) (k : Nat) (k1 : Nat) : Option (Hp) :=
    f_X6_print_13 k k1 (hs (hs h k 2 (h k1 3)) k 1 (0 : Int32))
def f_X6_has (h : Hp) (k : Nat) (a1 : Int32) : Option (Int32 × Hp) :=
    if a1 < 0 then
      some ((0 : Int32), h)
    else
      if (h k 1) ≤ a1 then
        some ((0 : Int32), h)
      else
        if (8 : Int32) ≤ a1 then
          some ((0 : Int32), h)
        else
          some ((1 : Int32), h)
def f_X6_hourOf (h : Hp) (k : Nat) (a1 : Int32) : Option (Int32 × Hp) :=
    (f_X6_has h k a1).bind (fun q1 =>
      if q1.1 = 0 then
        some ((-5 : Int32), q1.2)
      else
        if inb a1 8 = true then
          some ((q1.2 (k + 1) a1.toNatClampNeg), q1.2)
        else none)
def f_X6_pierOf (h : Hp) (k : Nat) (a1 : Int32) : Option (Int32 × Hp) :=
    some ((((h k 2) + a1) - ((h k 2) + a1) / (2 : Int32) * (2 : Int32)), h)
def f_X1_placeOf (h : Hp) (a1 : Int32) (a2 : Int32) : Option (Int32 × Hp) :=
    some (((a1 * (2 : Int32)) + a2), h)
def f_X1_noteUse (h : Hp) (a1 : Int32) (a2 : Int32) : Option (Hp) :=
    if a1 < 0 then
      some h
    else
      if (48 : Int32) ≤ a1 then
        some h
      else
        if inb a1 48 = true then
          if inb a1 48 = true then
            some (hs h 41 a1.toNatClampNeg ((h 41 a1.toNatClampNeg) ||| a2))
          else none
        else none
def f_X1_noteUses_2 (k1 : Nat) : Nat → Hp → Int32 → Int32 → Option (Hp)
  | 0 => fun _ _ _ => none
  | n + 1 => fun h x2 x3 =>
    if (h k1 1) ≤ x3 then
      some h
    else
      (f_X6_hourOf h k1 x3).bind (fun q1 =>
        (f_X6_pierOf q1.2 k1 x3).bind (fun q2 =>
          (f_X1_placeOf q2.2 q1.1 q2.1).bind (fun q3 =>
            (f_X1_noteUse q3.2 q3.1 x2).bind (fun q4 =>
              (f_X6_pierOf q4 k1 (x3 + (1 : Int32))).bind (fun q5 =>
                (f_X1_placeOf q5.2 (q1.1 + (2 : Int32)) q5.1).bind (fun q6 =>
                  (f_X1_noteUse q6.2 q6.1 x2).bind (fun q7 =>
                    f_X1_noteUses_2 k1 n q7 x2 (x3 + 1))))))))
theorem f_X1_noteUses_2_s (k1 : Nat) (n : Nat) (h : Hp) (x2 : Int32) (x3 : Int32) : f_X1_noteUses_2 k1 (n + 1) h x2 x3 =
    if (h k1 1) ≤ x3 then
      some h
    else
      (f_X6_hourOf h k1 x3).bind (fun q1 =>
        (f_X6_pierOf q1.2 k1 x3).bind (fun q2 =>
          (f_X1_placeOf q2.2 q1.1 q2.1).bind (fun q3 =>
            (f_X1_noteUse q3.2 q3.1 x2).bind (fun q4 =>
              (f_X6_pierOf q4 k1 (x3 + (1 : Int32))).bind (fun q5 =>
                (f_X1_placeOf q5.2 (q1.1 + (2 : Int32)) q5.1).bind (fun q6 =>
                  (f_X1_noteUse q6.2 q6.1 x2).bind (fun q7 =>
                    f_X1_noteUses_2 k1 n q7 x2 (x3 + 1)))))))) := rfl
def f_X1_noteUses (h : Hp) (k1 : Nat) (a2 : Int32) : Option (Hp) :=
    f_X1_noteUses_2 k1 FU h a2 (0 : Int32)
def f_X1_print_26 (k1 : Nat) : Nat → Hp → Int32 → Option (Hp)
  | 0 => fun _ _ => none
  | n + 1 => fun h x2 =>
    if (3 : Int32) ≤ x2 then
      some h
    else
      if inb x2 3 = true then
        if inb x2 3 = true then
          (f_X6_print h (42 + 2 * x2.toNatClampNeg) ((k1 + 1) + 1 + x2.toNatClampNeg)).bind (fun q3 =>
            if inb x2 3 = true then
              (f_X1_noteUses q3 (42 + 2 * x2.toNatClampNeg) ((1 : Int32) <<< (x2 &&& 31))).bind (fun q5 =>
                f_X1_print_26 k1 n q5 (x2 + 1))
            else none)
        else none
      else none
theorem f_X1_print_26_s (k1 : Nat) (n : Nat) (h : Hp) (x2 : Int32) : f_X1_print_26 k1 (n + 1) h x2 =
    if (3 : Int32) ≤ x2 then
      some h
    else
      if inb x2 3 = true then
        if inb x2 3 = true then
          (f_X6_print h (42 + 2 * x2.toNatClampNeg) ((k1 + 1) + 1 + x2.toNatClampNeg)).bind (fun q3 =>
            if inb x2 3 = true then
              (f_X1_noteUses q3 (42 + 2 * x2.toNatClampNeg) ((1 : Int32) <<< (x2 &&& 31))).bind (fun q5 =>
                f_X1_print_26 k1 n q5 (x2 + 1))
            else none)
        else none
      else none := rfl
def f_X1_print_2 (k1 : Nat) : Nat → Hp → Int32 → Option (Hp)
  | 0 => fun _ _ => none
  | n + 1 => fun h x2 =>
    if (48 : Int32) ≤ x2 then
      f_X1_print_26 k1 FU h (0 : Int32)
    else
      if inb x2 48 = true then
        f_X1_print_2 k1 n (hs h 41 x2.toNatClampNeg (0 : Int32)) (x2 + 1)
      else none
theorem f_X1_print_2_s (k1 : Nat) (n : Nat) (h : Hp) (x2 : Int32) : f_X1_print_2 k1 (n + 1) h x2 =
    if (48 : Int32) ≤ x2 then
      f_X1_print_26 k1 FU h (0 : Int32)
    else
      if inb x2 48 = true then
        f_X1_print_2 k1 n (hs h 41 x2.toNatClampNeg (0 : Int32)) (x2 + 1)
      else none := rfl
def f_X1_print (h : Hp) (k1 : Nat) : Option (Hp) :=
    f_X1_print_2 k1 FU h (0 : Int32)
def f_X1_usersAt (h : Hp) (a1 : Int32) : Option (Int32 × Hp) :=
    if a1 < 0 then
      some ((0 : Int32), h)
    else
      if (48 : Int32) ≤ a1 then
        some ((0 : Int32), h)
      else
        if inb a1 48 = true then
          some ((h 41 a1.toNatClampNeg), h)
        else none
def f_J6_bitCount_0f7a4 (h : Hp) (a1 : Int32) : Option (Int32 × Hp) :=
    some (((((((((a1 - (((a1.toUInt32 >>> ((1 : Int32).toUInt32 &&& Int32.toUInt32 31)).toInt32) &&& (1431655765 : Int32))) &&& (858993459 : Int32)) + ((((a1 - (((a1.toUInt32 >>> ((1 : Int32).toUInt32 &&& Int32.toUInt32 31)).toInt32) &&& (1431655765 : Int32))).toUInt32 >>> ((2 : Int32).toUInt32 &&& Int32.toUInt32 31)).toInt32) &&& (858993459 : Int32))) + (((((a1 - (((a1.toUInt32 >>> ((1 : Int32).toUInt32 &&& Int32.toUInt32 31)).toInt32) &&& (1431655765 : Int32))) &&& (858993459 : Int32)) + ((((a1 - (((a1.toUInt32 >>> ((1 : Int32).toUInt32 &&& Int32.toUInt32 31)).toInt32) &&& (1431655765 : Int32))).toUInt32 >>> ((2 : Int32).toUInt32 &&& Int32.toUInt32 31)).toInt32) &&& (858993459 : Int32))).toUInt32 >>> ((4 : Int32).toUInt32 &&& Int32.toUInt32 31)).toInt32)) &&& (252645135 : Int32)) + (((((((a1 - (((a1.toUInt32 >>> ((1 : Int32).toUInt32 &&& Int32.toUInt32 31)).toInt32) &&& (1431655765 : Int32))) &&& (858993459 : Int32)) + ((((a1 - (((a1.toUInt32 >>> ((1 : Int32).toUInt32 &&& Int32.toUInt32 31)).toInt32) &&& (1431655765 : Int32))).toUInt32 >>> ((2 : Int32).toUInt32 &&& Int32.toUInt32 31)).toInt32) &&& (858993459 : Int32))) + (((((a1 - (((a1.toUInt32 >>> ((1 : Int32).toUInt32 &&& Int32.toUInt32 31)).toInt32) &&& (1431655765 : Int32))) &&& (858993459 : Int32)) + ((((a1 - (((a1.toUInt32 >>> ((1 : Int32).toUInt32 &&& Int32.toUInt32 31)).toInt32) &&& (1431655765 : Int32))).toUInt32 >>> ((2 : Int32).toUInt32 &&& Int32.toUInt32 31)).toInt32) &&& (858993459 : Int32))).toUInt32 >>> ((4 : Int32).toUInt32 &&& Int32.toUInt32 31)).toInt32)) &&& (252645135 : Int32)).toUInt32 >>> ((8 : Int32).toUInt32 &&& Int32.toUInt32 31)).toInt32)) + ((((((((a1 - (((a1.toUInt32 >>> ((1 : Int32).toUInt32 &&& Int32.toUInt32 31)).toInt32) &&& (1431655765 : Int32))) &&& (858993459 : Int32)) + ((((a1 - (((a1.toUInt32 >>> ((1 : Int32).toUInt32 &&& Int32.toUInt32 31)).toInt32) &&& (1431655765 : Int32))).toUInt32 >>> ((2 : Int32).toUInt32 &&& Int32.toUInt32 31)).toInt32) &&& (858993459 : Int32))) + (((((a1 - (((a1.toUInt32 >>> ((1 : Int32).toUInt32 &&& Int32.toUInt32 31)).toInt32) &&& (1431655765 : Int32))) &&& (858993459 : Int32)) + ((((a1 - (((a1.toUInt32 >>> ((1 : Int32).toUInt32 &&& Int32.toUInt32 31)).toInt32) &&& (1431655765 : Int32))).toUInt32 >>> ((2 : Int32).toUInt32 &&& Int32.toUInt32 31)).toInt32) &&& (858993459 : Int32))).toUInt32 >>> ((4 : Int32).toUInt32 &&& Int32.toUInt32 31)).toInt32)) &&& (252645135 : Int32)) + (((((((a1 - (((a1.toUInt32 >>> ((1 : Int32).toUInt32 &&& Int32.toUInt32 31)).toInt32) &&& (1431655765 : Int32))) &&& (858993459 : Int32)) + ((((a1 - (((a1.toUInt32 >>> ((1 : Int32).toUInt32 &&& Int32.toUInt32 31)).toInt32) &&& (1431655765 : Int32))).toUInt32 >>> ((2 : Int32).toUInt32 &&& Int32.toUInt32 31)).toInt32) &&& (858993459 : Int32))) + (((((a1 - (((a1.toUInt32 >>> ((1 : Int32).toUInt32 &&& Int32.toUInt32 31)).toInt32) &&& (1431655765 : Int32))) &&& (858993459 : Int32)) + ((((a1 - (((a1.toUInt32 >>> ((1 : Int32).toUInt32 &&& Int32.toUInt32 31)).toInt32) &&& (1431655765 : Int32))).toUInt32 >>> ((2 : Int32).toUInt32 &&& Int32.toUInt32 31)).toInt32) &&& (858993459 : Int32))).toUInt32 >>> ((4 : Int32).toUInt32 &&& Int32.toUInt32 31)).toInt32)) &&& (252645135 : Int32)).toUInt32 >>> ((8 : Int32).toUInt32 &&& Int32.toUInt32 31)).toInt32)).toUInt32 >>> ((16 : Int32).toUInt32 &&& Int32.toUInt32 31)).toInt32)) &&& (63 : Int32)), h)
def f_X1_isClash (h : Hp) (a1 : Int32) : Option (Int32 × Hp) :=
    (f_X1_usersAt h a1).bind (fun q1 =>
      (f_J6_bitCount_0f7a4 q1.2 q1.1).bind (fun q2 =>
        if q2.1 < (2 : Int32) then
          some ((0 : Int32), q2.2)
        else
          some ((1 : Int32), q2.2)))
def f_X1_clashes_24 (K4 : Hp → Int32 → Int32 → Option (Int32 × Hp)) (h : Hp) (x1 : Int32) (x2 : Int32) : Option (Int32 × Hp) :=
    K4 h x1 (x2 + 1)
def f_X1_clashes_4 : Nat → Hp → Int32 → Int32 → Option (Int32 × Hp)
  | 0 => fun _ _ _ => none
  | n + 1 => fun h x1 x2 =>
    if (48 : Int32) ≤ x2 then
      some (x1, h)
    else
      (f_X1_isClash h x2).bind (fun q1 =>
        if q1.1 = 0 then
          f_X1_clashes_24 (f_X1_clashes_4 n) q1.2 x1 x2
        else
          f_X1_clashes_24 (f_X1_clashes_4 n) q1.2 (x1 + 1) x2)
theorem f_X1_clashes_4_s (n : Nat) (h : Hp) (x1 : Int32) (x2 : Int32) : f_X1_clashes_4 (n + 1) h x1 x2 =
    if (48 : Int32) ≤ x2 then
      some (x1, h)
    else
      (f_X1_isClash h x2).bind (fun q1 =>
        if q1.1 = 0 then
          f_X1_clashes_24 (f_X1_clashes_4 n) q1.2 x1 x2
        else
          f_X1_clashes_24 (f_X1_clashes_4 n) q1.2 (x1 + 1) x2) := rfl
def f_X1_clashes (h : Hp) : Option (Int32 × Hp) :=
    f_X1_clashes_4 FU h (0 : Int32) (0 : Int32)
def f_X1_crossings_13 : Nat → Hp → Int32 → Int32 → Int32 → Option (Int32 × Hp)
  | 0 => fun _ _ _ _ => none
  | n + 1 => fun h x1 x3 x4 =>
    if x3 ≤ x4 then
      some (x1, h)
    else
      if inb x4 3 = true then
        f_X1_crossings_13 n h (x1 + (h (42 + 2 * x4.toNatClampNeg) 1)) x3 (x4 + 1)
      else none
theorem f_X1_crossings_13_s (n : Nat) (h : Hp) (x1 : Int32) (x3 : Int32) (x4 : Int32) : f_X1_crossings_13 (n + 1) h x1 x3 x4 =
    if x3 ≤ x4 then
      some (x1, h)
    else
      if inb x4 3 = true then
        f_X1_crossings_13 n h (x1 + (h (42 + 2 * x4.toNatClampNeg) 1)) x3 (x4 + 1)
      else none := rfl
def f_X1_crossings (h : Hp) : Option (Int32 × Hp) :=
    f_X1_crossings_13 FU h (0 : Int32) (3 : Int32) (0 : Int32)
def f_X2_tell (h : Hp) (k : Nat) (a1 : Int32) : Option (Int32 × Hp) :=
    if a1 = 0 then
      some ((h k 0), h)
    else
    if a1 = 1 then
      some ((h k 1), h)
    else
    if a1 = 2 then
      some ((h k 2), h)
    else
    if a1 = 3 then
      some ((h k 3), h)
    else
    if a1 = 4 then
      some ((0 : Int32), h)
    else
    if a1 = 5 then
      some ((h k 4), h)
    else
    if a1 = 6 then
      some ((h k 5), h)
    else
    if a1 = 7 then
      some ((h k 6), h)
    else
    if a1 = 8 then
      some ((h k 7), h)
    else
    if a1 = 9 then
      some ((h k 8), h)
    else
    if a1 = 10 then
      some ((h k 9), h)
    else
    some ((0 : Int32), h)
def f_X5_sumOf_14 (k : Nat) : Nat → Hp → Int32 → Int32 → Int32 → Int32 → Option (Int32 × Hp)
  | 0 => fun _ _ _ _ _ => none
  | n + 1 => fun h x1 x2 x4 x5 =>
    if x4 ≤ x5 then
      some (x2, h)
    else
      if inb x5 3 = true then
        (f_X2_tell h ((k + 1) + 1 + x5.toNatClampNeg) x1).bind (fun q2 =>
          f_X5_sumOf_14 k n q2.2 x1 (x2 + q2.1) x4 (x5 + 1))
      else none
theorem f_X5_sumOf_14_s (k : Nat) (n : Nat) (h : Hp) (x1 : Int32) (x2 : Int32) (x4 : Int32) (x5 : Int32) : f_X5_sumOf_14 k (n + 1) h x1 x2 x4 x5 =
    if x4 ≤ x5 then
      some (x2, h)
    else
      if inb x5 3 = true then
        (f_X2_tell h ((k + 1) + 1 + x5.toNatClampNeg) x1).bind (fun q2 =>
          f_X5_sumOf_14 k n q2.2 x1 (x2 + q2.1) x4 (x5 + 1))
      else none := rfl
def f_X5_sumOf (h : Hp) (k : Nat) (a1 : Int32) : Option (Int32 × Hp) :=
    f_X5_sumOf_14 k FU h a1 (0 : Int32) (3 : Int32) (0 : Int32)
def f_X5_tellSetting (h : Hp) (k : Nat) (a1 : Int32) : Option (Int32 × Hp) :=
    if a1 = 0 then
      some ((h k 1), h)
    else
      some ((h k 2), h)
def f_X7_count (h : Hp) (a1 : Int32) : Option (Int32 × Hp) :=
    if a1 = 0 then
      some ((h 1 6), h)
    else
    if a1 = 1 then
      some ((h 1 3), h)
    else
    if a1 = 2 then
      some ((h 1 4), h)
    else
    if a1 = 3 then
      (f_X1_print h 1).bind (fun q1 =>
        (f_X1_clashes q1).bind (fun q2 =>
          some (q2.1, q2.2)))
    else
    if a1 = 4 then
      (f_X1_print h 1).bind (fun q3 =>
        (f_X1_crossings q3).bind (fun q4 =>
          some (q4.1, q4.2)))
    else
    if a1 = 5 then
      (f_X5_sumOf h 1 (5 : Int32)).bind (fun q5 =>
        some (q5.1, q5.2))
    else
    if a1 = 6 then
      (f_X5_sumOf h 1 (9 : Int32)).bind (fun q6 =>
        some (q6.1, q6.2))
    else
    if a1 = 7 then
      some ((h 1 5), h)
    else
    if a1 = 8 then
      (f_X5_sumOf h 1 (6 : Int32)).bind (fun q7 =>
        some (q7.1, q7.2))
    else
    if a1 = 9 then
      (f_X5_sumOf h 1 (7 : Int32)).bind (fun q8 =>
        some (q8.1, q8.2))
    else
    if a1 = 10 then
      some ((h 0 4), h)
    else
    if a1 = 11 then
      some ((h 37 1), h)
    else
    if a1 = 12 then
      (f_X5_tellSetting h 1 (0 : Int32)).bind (fun q9 =>
        some (q9.1, q9.2))
    else
    if a1 = 13 then
      (f_X5_tellSetting h 1 (1 : Int32)).bind (fun q10 =>
        some (q10.1, q10.2))
    else
    some ((-2 : Int32), h)
def f_X7_isCaptain (h : Hp) (a1 : Int32) : Option (Int32 × Hp) :=
    if a1 < 0 then
      some ((0 : Int32), h)
    else
      if (3 : Int32) ≤ a1 then
        some ((0 : Int32), h)
      else
        some ((1 : Int32), h)
def f_X7_timetableOf (h : Hp) (a1 : Int32) : Option (Nat × Hp) :=
    (f_X1_print h 1).bind (fun q1 =>
      if inb a1 3 = true then
        some ((42 + 2 * a1.toNatClampNeg), q1)
      else none)
def f_X7_captainOf (h : Hp) (a1 : Int32) (a2 : Int32) : Option (Int32 × Hp) :=
    (f_X7_isCaptain h a1).bind (fun q1 =>
      if q1.1 = 0 then
        some ((-1 : Int32), q1.2)
      else
        if a2 < 0 then
          some ((-2 : Int32), q1.2)
        else
          if a2 ≤ (10 : Int32) then
            if a2 = (4 : Int32) then
              (f_X7_timetableOf q1.2 a1).bind (fun q4 =>
                if isX6 q4.1 then
                  some ((q4.2 q4.1 1), q4.2)
                else none)
            else
              if inb a1 3 = true then
                (f_X2_tell q1.2 ((1 + 1) + 1 + a1.toNatClampNeg) a2).bind (fun q3 =>
                  some (q3.1, q3.2))
              else none
          else
            some ((-2 : Int32), q1.2))
def f_L_low (h : Hp) (a1 : Int32) (a2 : Int32) : Option (Int32 × Hp) :=
    if ¬ a2 = 0 then
      some (((a1 &&& (2147483647 : Int32)) - (a1 &&& (2147483647 : Int32)) / a2 * a2), h)
    else none
def f_X2_copyFrom_64 (k : Nat) (k1 : Nat) (h : Hp) : Option (Hp) :=
    some (hs (hs h k 8 (h k1 8)) k 9 ((hs h k 8 (h k1 8)) k1 9))
def f_X2_copyFrom_48 (k : Nat) (k1 : Nat) (h : Hp) : Option (Hp) :=
    f_X2_copyFrom_64 k k1 (hs (hs h k 6 (h k1 6)) k 7 ((hs h k 6 (h k1 6)) k1 7))
def f_X2_copyFrom_32 (k : Nat) (k1 : Nat) (h : Hp) : Option (Hp) :=
    f_X2_copyFrom_48 k k1 (hs (hs h k 4 (h k1 4)) k 5 ((hs h k 4 (h k1 4)) k1 5))
def f_X2_copyFrom_16 (k : Nat) (k1 : Nat) (h : Hp) : Option (Hp) :=
    f_X2_copyFrom_32 k k1 (hs (hs h k 2 (h k1 2)) k 3 ((hs h k 2 (h k1 2)) k1 3))
def f_X2_copyFrom (h : Hp) (k : Nat) (k1 : Nat) : Option (Hp) :=
    f_X2_copyFrom_16 k k1 (hs (hs h k 0 (h k1 0)) k 1 ((hs h k 0 (h k1 0)) k1 1))
def f_X5_copyFrom_60 (k : Nat) (k1 : Nat) (h : Hp) : Option (Hp) :=
    some (hs (hs h k 5 (h k1 5)) k 6 ((hs h k 5 (h k1 5)) k1 6))
def f_X5_copyFrom_44 (k : Nat) (k1 : Nat) (h : Hp) : Option (Hp) :=
    f_X5_copyFrom_60 k k1 (hs (hs h k 3 (h k1 3)) k 4 ((hs h k 3 (h k1 3)) k1 4))
def f_X5_copyFrom_2 (k : Nat) (k1 : Nat) : Nat → Hp → Int32 → Option (Hp)
  | 0 => fun _ _ => none
  | n + 1 => fun h x2 =>
    if (3 : Int32) ≤ x2 then
      f_X5_copyFrom_44 k k1 (hs (hs h k 1 (h k1 1)) k 2 ((hs h k 1 (h k1 1)) k1 2))
    else
      if inb x2 3 = true then
        if inb x2 3 = true then
          (f_X2_copyFrom h ((k + 1) + 1 + x2.toNatClampNeg) ((k1 + 1) + 1 + x2.toNatClampNeg)).bind (fun q3 =>
            f_X5_copyFrom_2 k k1 n q3 (x2 + 1))
        else none
      else none
theorem f_X5_copyFrom_2_s (k : Nat) (k1 : Nat) (n : Nat) (h : Hp) (x2 : Int32) : f_X5_copyFrom_2 k k1 (n + 1) h x2 =
    if (3 : Int32) ≤ x2 then
      f_X5_copyFrom_44 k k1 (hs (hs h k 1 (h k1 1)) k 2 ((hs h k 1 (h k1 1)) k1 2))
    else
      if inb x2 3 = true then
        if inb x2 3 = true then
          (f_X2_copyFrom h ((k + 1) + 1 + x2.toNatClampNeg) ((k1 + 1) + 1 + x2.toNatClampNeg)).bind (fun q3 =>
            f_X5_copyFrom_2 k k1 n q3 (x2 + 1))
        else none
      else none := rfl
def f_X5_copyFrom (h : Hp) (k : Nat) (k1 : Nat) : Option (Hp) :=
    f_X5_copyFrom_2 k k1 FU h (0 : Int32)
def f_X7_record_74 (h : Hp) : Option (Hp) :=
    if inb (h 0 4) 4 = true then
      if inb (h 36 (h 0 4).toNatClampNeg) 4 = true then
        (f_X5_copyFrom h (11 + 5 * (h 36 (h 0 4).toNatClampNeg).toNatClampNeg) 1).bind (fun q3 =>
          some (hs q3 0 4 ((q3 0 4) + (1 : Int32))))
      else none
    else none
def f_X7_record_63 (h : Hp) : Option (Hp) :=
    f_X7_record_74 (hs h 0 4 ((4 : Int32) - (1 : Int32)))
def f_X7_record_21 : Nat → Hp → Nat → Int32 → Option (Hp)
  | 0 => fun _ _ _ => none
  | n + 1 => fun h r1 x2 =>
    if (4 : Int32) ≤ x2 then
      if inb ((4 : Int32) - (1 : Int32)) 4 = true then
        if hiOk r1 then
          f_X7_record_63 (hs h 36 ((4 : Int32) - (1 : Int32)).toNatClampNeg (nI ((r1 - 11) / 5)))
        else none
      else none
    else
      if inb x2 4 = true then
        if inb (h 36 x2.toNatClampNeg) 4 = true then
          if inb (x2 - (1 : Int32)) 4 = true then
            f_X7_record_21 n (hs h 36 (x2 - (1 : Int32)).toNatClampNeg (h 36 x2.toNatClampNeg)) r1 (x2 + 1)
          else none
        else none
      else none
theorem f_X7_record_21_s (n : Nat) (h : Hp) (r1 : Nat) (x2 : Int32) : f_X7_record_21 (n + 1) h r1 x2 =
    if (4 : Int32) ≤ x2 then
      if inb ((4 : Int32) - (1 : Int32)) 4 = true then
        if hiOk r1 then
          f_X7_record_63 (hs h 36 ((4 : Int32) - (1 : Int32)).toNatClampNeg (nI ((r1 - 11) / 5)))
        else none
      else none
    else
      if inb x2 4 = true then
        if inb (h 36 x2.toNatClampNeg) 4 = true then
          if inb (x2 - (1 : Int32)) 4 = true then
            f_X7_record_21 n (hs h 36 (x2 - (1 : Int32)).toNatClampNeg (h 36 x2.toNatClampNeg)) r1 (x2 + 1)
          else none
        else none
      else none := rfl
def f_X7_record (h : Hp) : Option (Hp) :=
    if (h 0 4) < (4 : Int32) then
      f_X7_record_74 h
    else
      if inb (0 : Int32) 4 = true then
        if inb (h 36 (0 : Int32).toNatClampNeg) 4 = true then
          f_X7_record_21 FU h (11 + 5 * (h 36 (0 : Int32).toNatClampNeg).toNatClampNeg) (1 : Int32)
        else none
      else none
def f_X2_change_45 (k : Nat) (h : Hp) : Option (Hp) :=
    some h
def f_X2_change_61 (k : Nat) (h : Hp) : Option (Hp) :=
    some h
def f_X2_change (h : Hp) (k : Nat) (a1 : Int32) (a2 : Int32) : Option (Hp) :=
    if a1 = 0 then
      some (hs h k 0 a2)
    else
    if a1 = 1 then
      f_X2_change_45 k (hs h k 1 a2)
    else
    if a1 = 2 then
      some (hs h k 2 a2)
    else
    if a1 = 3 then
      f_X2_change_61 k (hs h k 3 a2)
    else
    some h
def f_X7_captain (h : Hp) (a1 : Int32) (a2 : Int32) (a3 : Int32) : Option (Int32 × Hp) :=
    (f_X7_isCaptain h a1).bind (fun q1 =>
      if q1.1 = 0 then
        some ((-1 : Int32), q1.2)
      else
        (f_X7_isValueOfCaptain q1.2 a2 a3).bind (fun q2 =>
          if q2.1 = 0 then
            some ((-2 : Int32), q2.2)
          else
            if inb a1 3 = true then
              (f_X2_tell q2.2 ((1 + 1) + 1 + a1.toNatClampNeg) a2).bind (fun q4 =>
                if q4.1 = a3 then
                  some ((-5 : Int32), q4.2)
                else
                  (f_X7_record q4.2).bind (fun q5 =>
                    if inb a1 3 = true then
                      (f_X2_change q5 ((1 + 1) + 1 + a1.toNatClampNeg) a2 a3).bind (fun q7 =>
                        some (q4.1, q7))
                    else none))
            else none))
def f_X7_truth (h : Hp) (a1 : Int32) : Option (Int32 × Hp) :=
    if a1 < 0 then
      some ((-2 : Int32), h)
    else
      if a1 < (12 : Int32) then
        if (h 1 3) = a1 then
          some ((-5 : Int32), h)
        else
          (f_X7_record h).bind (fun q1 =>
            some ((h 1 3), (hs q1 1 3 a1)))
      else
        some ((-2 : Int32), h)
def f_X5_changeSetting (h : Hp) (k : Nat) (a1 : Int32) (a2 : Int32) : Option (Hp) :=
    if a1 = 0 then
      some (hs h k 1 a2)
    else
      some (hs h k 2 a2)
def f_X7_set (h : Hp) (a1 : Int32) (a2 : Int32) : Option (Int32 × Hp) :=
    (f_X7_isValueOfSetting h a1 a2).bind (fun q1 =>
      if q1.1 = 0 then
        some ((-2 : Int32), q1.2)
      else
        (f_X5_tellSetting q1.2 1 a1).bind (fun q2 =>
          if q2.1 = a2 then
            some ((-5 : Int32), q2.2)
          else
            (f_X7_record q2.2).bind (fun q3 =>
              (f_X5_changeSetting q3 1 a1 a2).bind (fun q4 =>
                some (q2.1, q4)))))
def f_X7_lot (h : Hp) (a1 : Int32) : Option (Int32 × Hp) :=
    if a1 < 0 then
      some ((-2 : Int32), h)
    else
      if a1 < (65537 : Int32) then
        if (h 1 4) = a1 then
          some ((-5 : Int32), h)
        else
          (f_X7_record h).bind (fun q1 =>
            some ((h 1 4), (hs q1 1 4 a1)))
      else
        some ((-2 : Int32), h)
def f_X3_beginDay_44 (k : Nat) (k1 : Nat) (h : Hp) : Option (Hp) :=
    some (hs h k 10 (0 : Int32))
def f_X3_beginDay_34 (k : Nat) (k1 : Nat) (h : Hp) : Option (Hp) :=
    f_X3_beginDay_44 k k1 (hs (hs h k 8 (0 : Int32)) k 9 (0 : Int32))
def f_X3_beginDay_24 (k : Nat) (k1 : Nat) (h : Hp) : Option (Hp) :=
    f_X3_beginDay_34 k k1 (hs (hs h k 3 (0 : Int32)) k 7 (0 : Int32))
def f_X3_beginDay (h : Hp) (k : Nat) (k1 : Nat) : Option (Hp) :=
    (f_X6_print h (k + 1) k1).bind (fun q1 =>
      f_X3_beginDay_24 k k1 (hs (hs q1 k 1 (q1 k1 1)) k 2 ((hs q1 k 1 (q1 k1 1)) k1 3)))
def f_X3_beginHour_126 (k : Nat) (h : Hp) : Option (Hp) :=
    some (hs h k 6 (0 : Int32))
def f_X3_beginHour_98 (k : Nat) (h : Hp) (x2 : Int32) (t1 : Int32) : Option (Hp) :=
    if isb t1 = true then
      if ((hs h k 6 t1) k 6) = 0 then
        some (hs h k 6 t1)
      else
        if ((hs h k 6 t1) k 1) ≤ x2 then
          some (hs h k 6 t1)
        else
          f_X3_beginHour_126 k (hs (hs h k 6 t1) k 8 (((hs h k 6 t1) k 8) + (1 : Int32)))
    else none
def f_X3_beginHour_97 (k : Nat) (h : Hp) (x2 : Int32) : Option (Hp) :=
    f_X3_beginHour_98 k h x2 (0 : Int32)
def f_X3_beginHour_50 (k : Nat) (h : Hp) (x1 : Int32) (x2 : Int32) : Option (Hp) :=
    if (h k 3) = 0 then
      if (21 : Int32) < x1 then
        f_X3_beginHour_97 k h x2
      else
        (f_X6_has h (k + 1) (h k 7)).bind (fun q1 =>
          if q1.1 = 0 then
            f_X3_beginHour_97 k q1.2 x2
          else
            (f_X6_hourOf q1.2 (k + 1) (q1.2 k 7)).bind (fun q2 =>
              if x1 < q2.1 then
                f_X3_beginHour_97 k q2.2 x2
              else
                f_X3_beginHour_98 k q2.2 x2 (1 : Int32)))
    else
      f_X3_beginHour_97 k h x2
def f_X3_beginHour_38 (k : Nat) (h : Hp) (x1 : Int32) (x2 : Int32) : Option (Hp) :=
    f_X3_beginHour_50 k (hs h k 2 (((h k 2) + (1 : Int32)) - ((h k 2) + (1 : Int32)) / (2 : Int32) * (2 : Int32))) x1 x2
def f_X3_beginHour_23 (k : Nat) (h : Hp) (x1 : Int32) (x2 : Int32) (t1 : Int32) : Option (Hp) :=
    if isb t1 = true then
      if ((hs h k 5 t1) k 5) = 0 then
        f_X3_beginHour_50 k (hs h k 5 t1) x1 x2
      else
        f_X3_beginHour_38 k (hs (hs h k 5 t1) k 3 (0 : Int32)) x1 x2
    else none
def f_X3_beginHour_22 (k : Nat) (h : Hp) (x1 : Int32) (x2 : Int32) : Option (Hp) :=
    f_X3_beginHour_23 k h x1 x2 (0 : Int32)
def f_X3_beginHour (h : Hp) (k : Nat) (a1 : Int32) (a2 : Int32) : Option (Hp) :=
    if (h k 3) = 0 then
      f_X3_beginHour_22 k h a1 a2
    else
      if a1 = ((h k 4) + (2 : Int32)) then
        f_X3_beginHour_23 k h a1 a2 (1 : Int32)
      else
        f_X3_beginHour_22 k h a1 a2
def f_X3_wantsFrom (h : Hp) (k : Nat) (a1 : Int32) : Option (Int32 × Hp) :=
    if (h k 6) = 0 then
      some ((0 : Int32), h)
    else
      if (h k 2) = a1 then
        some ((1 : Int32), h)
      else
        some ((0 : Int32), h)
def f_X3_arrivedAt (h : Hp) (k : Nat) (a1 : Int32) : Option (Int32 × Hp) :=
    if (h k 5) = 0 then
      some ((0 : Int32), h)
    else
      if (h k 2) = a1 then
        some ((1 : Int32), h)
      else
        some ((0 : Int32), h)
def f_X4_drawLot_27 (h : Hp) (x1 : Int32) : Option (Int32 × Hp) :=
    if x1 ≤ 0 then
      some ((0 : Int32), h)
    else
      if ¬ x1 = 0 then
        some (((h 48 1) - (h 48 1) / x1 * x1), h)
      else none
def f_X4_drawLot (h : Hp) (a1 : Int32) : Option (Int32 × Hp) :=
    f_X4_drawLot_27 (hs (hs h 48 1 ((((75 : Int32) * (h 48 1)) + (74 : Int32)) - (((75 : Int32) * (h 48 1)) + (74 : Int32)) / (65537 : Int32) * (65537 : Int32))) 48 2 (((hs h 48 1 ((((75 : Int32) * (h 48 1)) + (74 : Int32)) - (((75 : Int32) * (h 48 1)) + (74 : Int32)) / (65537 : Int32) * (65537 : Int32))) 48 2) + (1 : Int32))) a1
def f_X3_depart_10 (k : Nat) (h : Hp) (x1 : Int32) : Option (Hp) :=
    some (hs (hs h k 4 x1) k 7 (((hs h k 4 x1) k 7) + (1 : Int32)))
def f_X3_depart (h : Hp) (k : Nat) (a1 : Int32) : Option (Hp) :=
    f_X3_depart_10 k (hs (hs h k 3 (1 : Int32)) k 6 (0 : Int32)) a1
def f_X3_stay (h : Hp) (k : Nat) (a1 : Int32) : Option (Hp) :=
    if a1 = 0 then
      some (hs h k 9 ((h k 9) + (1 : Int32)))
    else
      some (hs (hs h k 9 ((h k 9) + (1 : Int32))) k 10 (((hs h k 9 ((h k 9) + (1 : Int32))) k 10) + (1 : Int32)))
def f_X4_givePier_62 (K19 : Hp → Int32 → Int32 → Int32 → Int32 → Int32 → Int32 → Option (Hp)) (h : Hp) (x1 : Int32) (x2 : Int32) (x3 : Int32) (x4 : Int32) (x6 : Int32) (x7 : Int32) : Option (Hp) :=
    K19 h x1 x2 x3 x4 x6 (x7 + 1)
def f_X4_givePier_48 (K19 : Hp → Int32 → Int32 → Int32 → Int32 → Int32 → Int32 → Option (Hp)) (h : Hp) (x1 : Int32) (x2 : Int32) (x4 : Int32) (x6 : Int32) (x7 : Int32) (r8 : Nat) (t0 : Int32) (t1 : Int32) : Option (Hp) :=
    (f_X3_arrivedAt h r8 x1).bind (fun q1 =>
      if q1.1 = 0 then
        f_X4_givePier_62 K19 q1.2 x1 x2 (t0 + t1) x4 x6 x7
      else
        f_X4_givePier_62 K19 q1.2 x1 x2 (t0 + t1) (1 : Int32) x6 x7)
def f_X4_givePier_172 (K118 : Hp → Int32 → Int32 → Int32 → Int32 → Int32 → Int32 → Int32 → Int32 → Option (Hp)) (h : Hp) (x1 : Int32) (x2 : Int32) (x4 : Int32) (x5 : Int32) (x6 : Int32) (x7 : Int32) (x9 : Int32) (x10 : Int32) : Option (Hp) :=
    K118 h x1 x2 x4 x5 x6 x7 x9 (x10 + 1)
def f_X4_givePier_169 (K118 : Hp → Int32 → Int32 → Int32 → Int32 → Int32 → Int32 → Int32 → Int32 → Option (Hp)) (h : Hp) (x1 : Int32) (x2 : Int32) (x4 : Int32) (x5 : Int32) (x6 : Int32) (x7 : Int32) (x9 : Int32) (x10 : Int32) : Option (Hp) :=
    f_X4_givePier_172 K118 h x1 x2 x4 x5 x6 (x7 + 1) x9 x10
def f_X4_givePier_162 (K118 : Hp → Int32 → Int32 → Int32 → Int32 → Int32 → Int32 → Int32 → Int32 → Option (Hp)) (h : Hp) (x1 : Int32) (x2 : Int32) (x4 : Int32) (x5 : Int32) (x6 : Int32) (x7 : Int32) (x9 : Int32) (x10 : Int32) (r11 : Nat) : Option (Hp) :=
    (f_X3_stay h r11 x5).bind (fun q1 =>
      f_X4_givePier_169 K118 q1 x1 x2 x4 x5 x6 x7 x9 x10)
def f_X4_givePier_118 : Nat → Hp → Int32 → Int32 → Int32 → Int32 → Int32 → Int32 → Int32 → Int32 → Option (Hp)
  | 0 => fun _ _ _ _ _ _ _ _ _ => none
  | n + 1 => fun h x1 x2 x4 x5 x6 x7 x9 x10 =>
    if x9 ≤ x10 then
      some h
    else
      if inb x10 3 = true then
        (f_X3_wantsFrom h (50 + 3 * x10.toNatClampNeg) x1).bind (fun q2 =>
          if q2.1 = 0 then
            f_X4_givePier_172 (f_X4_givePier_118 n) q2.2 x1 x2 x4 x5 x6 x7 x9 x10
          else
            if x4 = 0 then
              if x7 = x6 then
                (f_X3_depart q2.2 (50 + 3 * x10.toNatClampNeg) x2).bind (fun q3 =>
                  f_X4_givePier_169 (f_X4_givePier_118 n) q3 x1 x2 x4 x5 x6 x7 x9 x10)
              else
                f_X4_givePier_162 (f_X4_givePier_118 n) q2.2 x1 x2 x4 x5 x6 x7 x9 x10 (50 + 3 * x10.toNatClampNeg)
            else
              f_X4_givePier_162 (f_X4_givePier_118 n) q2.2 x1 x2 x4 x5 x6 x7 x9 x10 (50 + 3 * x10.toNatClampNeg))
      else none
theorem f_X4_givePier_118_s (n : Nat) (h : Hp) (x1 : Int32) (x2 : Int32) (x4 : Int32) (x5 : Int32) (x6 : Int32) (x7 : Int32) (x9 : Int32) (x10 : Int32) : f_X4_givePier_118 (n + 1) h x1 x2 x4 x5 x6 x7 x9 x10 =
    if x9 ≤ x10 then
      some h
    else
      if inb x10 3 = true then
        (f_X3_wantsFrom h (50 + 3 * x10.toNatClampNeg) x1).bind (fun q2 =>
          if q2.1 = 0 then
            f_X4_givePier_172 (f_X4_givePier_118 n) q2.2 x1 x2 x4 x5 x6 x7 x9 x10
          else
            if x4 = 0 then
              if x7 = x6 then
                (f_X3_depart q2.2 (50 + 3 * x10.toNatClampNeg) x2).bind (fun q3 =>
                  f_X4_givePier_169 (f_X4_givePier_118 n) q3 x1 x2 x4 x5 x6 x7 x9 x10)
              else
                f_X4_givePier_162 (f_X4_givePier_118 n) q2.2 x1 x2 x4 x5 x6 x7 x9 x10 (50 + 3 * x10.toNatClampNeg)
            else
              f_X4_givePier_162 (f_X4_givePier_118 n) q2.2 x1 x2 x4 x5 x6 x7 x9 x10 (50 + 3 * x10.toNatClampNeg))
      else none := rfl
def f_X4_givePier_99 (h : Hp) (x1 : Int32) (x2 : Int32) (x4 : Int32) (x5 : Int32) (t0 : Int32) : Option (Hp) :=
    f_X4_givePier_118 FU h x1 x2 x4 x5 t0 (0 : Int32) (3 : Int32) (0 : Int32)
def f_X4_givePier_83 (h : Hp) (x1 : Int32) (x2 : Int32) (x3 : Int32) (x4 : Int32) (t0 : Int32) : Option (Hp) :=
    if t0 = 0 then
      f_X4_givePier_99 h x1 x2 x4 t0 (0 : Int32)
    else
      (f_X4_drawLot h x3).bind (fun q1 =>
        f_X4_givePier_99 q1.2 x1 x2 x4 t0 q1.1)
def f_X4_givePier_82 (h : Hp) (x1 : Int32) (x2 : Int32) (x3 : Int32) (x4 : Int32) : Option (Hp) :=
    f_X4_givePier_83 h x1 x2 x3 x4 (0 : Int32)
def f_X4_givePier_19 : Nat → Hp → Int32 → Int32 → Int32 → Int32 → Int32 → Int32 → Option (Hp)
  | 0 => fun _ _ _ _ _ _ _ => none
  | n + 1 => fun h x1 x2 x3 x4 x6 x7 =>
    if x6 ≤ x7 then
      if x4 = 0 then
        if x3 ≤ (1 : Int32) then
          f_X4_givePier_82 h x1 x2 x3 x4
        else
          f_X4_givePier_83 h x1 x2 x3 x4 (1 : Int32)
      else
        f_X4_givePier_82 h x1 x2 x3 x4
    else
      if inb x7 3 = true then
        (f_X3_wantsFrom h (50 + 3 * x7.toNatClampNeg) x1).bind (fun q2 =>
          if q2.1 = 0 then
            f_X4_givePier_48 (f_X4_givePier_19 n) q2.2 x1 x2 x4 x6 x7 (50 + 3 * x7.toNatClampNeg) x3 (0 : Int32)
          else
            f_X4_givePier_48 (f_X4_givePier_19 n) q2.2 x1 x2 x4 x6 x7 (50 + 3 * x7.toNatClampNeg) x3 (1 : Int32))
      else none
theorem f_X4_givePier_19_s (n : Nat) (h : Hp) (x1 : Int32) (x2 : Int32) (x3 : Int32) (x4 : Int32) (x6 : Int32) (x7 : Int32) : f_X4_givePier_19 (n + 1) h x1 x2 x3 x4 x6 x7 =
    if x6 ≤ x7 then
      if x4 = 0 then
        if x3 ≤ (1 : Int32) then
          f_X4_givePier_82 h x1 x2 x3 x4
        else
          f_X4_givePier_83 h x1 x2 x3 x4 (1 : Int32)
      else
        f_X4_givePier_82 h x1 x2 x3 x4
    else
      if inb x7 3 = true then
        (f_X3_wantsFrom h (50 + 3 * x7.toNatClampNeg) x1).bind (fun q2 =>
          if q2.1 = 0 then
            f_X4_givePier_48 (f_X4_givePier_19 n) q2.2 x1 x2 x4 x6 x7 (50 + 3 * x7.toNatClampNeg) x3 (0 : Int32)
          else
            f_X4_givePier_48 (f_X4_givePier_19 n) q2.2 x1 x2 x4 x6 x7 (50 + 3 * x7.toNatClampNeg) x3 (1 : Int32))
      else none := rfl
def f_X4_givePier (h : Hp) (a1 : Int32) (a2 : Int32) : Option (Hp) :=
    f_X4_givePier_19 FU h a1 a2 (0 : Int32) (0 : Int32) (3 : Int32) (0 : Int32)
def f_X4_run_102 (k1 : Nat) (K43 : Hp → Int32 → Option (Hp)) : Nat → Hp → Int32 → Int32 → Option (Hp)
  | 0 => fun _ _ _ => none
  | n + 1 => fun h x2 x4 =>
    if (2 : Int32) ≤ x4 then
      K43 h (x2 + 1)
    else
      (f_X4_givePier h x4 x2).bind (fun q1 =>
        f_X4_run_102 k1 K43 n q1 x2 (x4 + 1))
theorem f_X4_run_102_s (k1 : Nat) (K43 : Hp → Int32 → Option (Hp)) (n : Nat) (h : Hp) (x2 : Int32) (x4 : Int32) : f_X4_run_102 k1 K43 (n + 1) h x2 x4 =
    if (2 : Int32) ≤ x4 then
      K43 h (x2 + 1)
    else
      (f_X4_givePier h x4 x2).bind (fun q1 =>
        f_X4_run_102 k1 K43 n q1 x2 (x4 + 1)) := rfl
def f_X4_run_72 (k1 : Nat) (K43 : Hp → Int32 → Option (Hp)) : Nat → Hp → Int32 → Int32 → Int32 → Int32 → Option (Hp)
  | 0 => fun _ _ _ _ _ => none
  | n + 1 => fun h x2 x3 x5 x6 =>
    if x5 ≤ x6 then
      f_X4_run_102 k1 K43 FU h x2 (0 : Int32)
    else
      if inb x6 3 = true then
        (f_X3_beginHour h (50 + 3 * x6.toNatClampNeg) x2 x3).bind (fun q2 =>
          f_X4_run_72 k1 K43 n q2 x2 x3 x5 (x6 + 1))
      else none
theorem f_X4_run_72_s (k1 : Nat) (K43 : Hp → Int32 → Option (Hp)) (n : Nat) (h : Hp) (x2 : Int32) (x3 : Int32) (x5 : Int32) (x6 : Int32) : f_X4_run_72 k1 K43 (n + 1) h x2 x3 x5 x6 =
    if x5 ≤ x6 then
      f_X4_run_102 k1 K43 FU h x2 (0 : Int32)
    else
      if inb x6 3 = true then
        (f_X3_beginHour h (50 + 3 * x6.toNatClampNeg) x2 x3).bind (fun q2 =>
          f_X4_run_72 k1 K43 n q2 x2 x3 x5 (x6 + 1))
      else none := rfl
def f_X4_run_43 (k1 : Nat) : Nat → Hp → Int32 → Option (Hp)
  | 0 => fun _ _ => none
  | n + 1 => fun h x2 =>
    if (24 : Int32) ≤ x2 then
      some h
    else
      (f_X7_levelAt h (h k1 3) x2).bind (fun q1 =>
        f_X4_run_72 k1 (f_X4_run_43 k1 n) FU q1.2 x2 q1.1 (3 : Int32) (0 : Int32))
theorem f_X4_run_43_s (k1 : Nat) (n : Nat) (h : Hp) (x2 : Int32) : f_X4_run_43 k1 (n + 1) h x2 =
    if (24 : Int32) ≤ x2 then
      some h
    else
      (f_X7_levelAt h (h k1 3) x2).bind (fun q1 =>
        f_X4_run_72 k1 (f_X4_run_43 k1 n) FU q1.2 x2 q1.1 (3 : Int32) (0 : Int32)) := rfl
def f_X4_run_15 (k1 : Nat) : Nat → Hp → Int32 → Option (Hp)
  | 0 => fun _ _ => none
  | n + 1 => fun h x2 =>
    if (3 : Int32) ≤ x2 then
      f_X4_run_43 k1 FU h (0 : Int32)
    else
      if inb x2 3 = true then
        if inb x2 3 = true then
          (f_X3_beginDay h (50 + 3 * x2.toNatClampNeg) ((k1 + 1) + 1 + x2.toNatClampNeg)).bind (fun q3 =>
            f_X4_run_15 k1 n q3 (x2 + 1))
        else none
      else none
theorem f_X4_run_15_s (k1 : Nat) (n : Nat) (h : Hp) (x2 : Int32) : f_X4_run_15 k1 (n + 1) h x2 =
    if (3 : Int32) ≤ x2 then
      f_X4_run_43 k1 FU h (0 : Int32)
    else
      if inb x2 3 = true then
        if inb x2 3 = true then
          (f_X3_beginDay h (50 + 3 * x2.toNatClampNeg) ((k1 + 1) + 1 + x2.toNatClampNeg)).bind (fun q3 =>
            f_X4_run_15 k1 n q3 (x2 + 1))
        else none
      else none := rfl
def f_X4_run_13 (k1 : Nat) (h : Hp) : Option (Hp) :=
    f_X4_run_15 k1 FU h (0 : Int32)
def f_X4_run (h : Hp) (k1 : Nat) : Option (Hp) :=
    f_X4_run_13 k1 (hs (hs h 48 1 (h k1 4)) 48 2 (0 : Int32))
def f_X3_crossingsLeft (h : Hp) (k : Nat) : Option (Int32 × Hp) :=
    some (((h (k + 1) 1) - (h k 7)), h)
def f_X2_endDay_52 (k : Nat) (k1 : Nat) (h : Hp) : Option (Hp) :=
    (f_X3_crossingsLeft h k1).bind (fun q1 =>
      some (hs q1.2 k 8 ((h k 8) + q1.1)))
def f_X2_endDay_26 (k : Nat) (k1 : Nat) (h : Hp) : Option (Hp) :=
    f_X2_endDay_52 k k1 (hs (hs h k 6 ((h k 6) + (h k1 9))) k 7 (((hs h k 6 ((h k 6) + (h k1 9))) k 7) + ((hs h k 6 ((h k 6) + (h k1 9))) k1 10)))
def f_X2_endDay (h : Hp) (k : Nat) (k1 : Nat) : Option (Hp) :=
    f_X2_endDay_26 k k1 (hs (hs h k 4 ((h k 4) + (h k1 7))) k 5 (((hs h k 4 ((h k 4) + (h k1 7))) k 5) + ((hs h k 4 ((h k 4) + (h k1 7))) k1 8)))
def f_X3_isLesson (h : Hp) (k : Nat) (a1 : Int32) : Option (Int32 × Hp) :=
    if (h k 8) < a1 then
      some ((0 : Int32), h)
    else
      some ((1 : Int32), h)
def f_X2_learn (h : Hp) (k : Nat) (a1 : Int32) : Option (Hp) :=
    some (hs (hs h k 0 a1) k 9 (((hs h k 0 a1) k 9) + (1 : Int32)))
def f_X5_endDay_95 (k : Nat) (K49 : Hp → Int32 → Option (Hp)) (h : Hp) (x2 : Int32) : Option (Hp) :=
    K49 h (x2 + 1)
def f_X5_endDay_49 (k : Nat) : Nat → Hp → Int32 → Option (Hp)
  | 0 => fun _ _ => none
  | n + 1 => fun h x2 =>
    if (3 : Int32) ≤ x2 then
      some h
    else
      if inb x2 3 = true then
        if inb x2 3 = true then
          (f_X2_endDay h ((k + 1) + 1 + x2.toNatClampNeg) (50 + 3 * x2.toNatClampNeg)).bind (fun q3 =>
            (f_X3_isLesson q3 (50 + 3 * x2.toNatClampNeg) (q3 k 2)).bind (fun q4 =>
              if q4.1 = 0 then
                f_X5_endDay_95 k (f_X5_endDay_49 k n) q4.2 x2
              else
                if inb x2 3 = true then
                  (f_X2_learn q4.2 ((k + 1) + 1 + x2.toNatClampNeg) (q4.2 k 3)).bind (fun q6 =>
                    f_X5_endDay_95 k (f_X5_endDay_49 k n) q6 x2)
                else none))
        else none
      else none
theorem f_X5_endDay_49_s (k : Nat) (n : Nat) (h : Hp) (x2 : Int32) : f_X5_endDay_49 k (n + 1) h x2 =
    if (3 : Int32) ≤ x2 then
      some h
    else
      if inb x2 3 = true then
        if inb x2 3 = true then
          (f_X2_endDay h ((k + 1) + 1 + x2.toNatClampNeg) (50 + 3 * x2.toNatClampNeg)).bind (fun q3 =>
            (f_X3_isLesson q3 (50 + 3 * x2.toNatClampNeg) (q3 k 2)).bind (fun q4 =>
              if q4.1 = 0 then
                f_X5_endDay_95 k (f_X5_endDay_49 k n) q4.2 x2
              else
                if inb x2 3 = true then
                  (f_X2_learn q4.2 ((k + 1) + 1 + x2.toNatClampNeg) (q4.2 k 3)).bind (fun q6 =>
                    f_X5_endDay_95 k (f_X5_endDay_49 k n) q6 x2)
                else none))
        else none
      else none := rfl
def f_X5_endDay_47 (k : Nat) (h : Hp) : Option (Hp) :=
    f_X5_endDay_49 k FU h (0 : Int32)
def f_X5_endDay_18 (k : Nat) (h : Hp) : Option (Hp) :=
    f_X5_endDay_47 k (hs (hs h k 5 ((h k 5) + (h 48 2))) k 3 ((((hs h k 5 ((h k 5) + (h 48 2))) k 3) + ((hs h k 5 ((h k 5) + (h 48 2))) k 1)) - (((hs h k 5 ((h k 5) + (h 48 2))) k 3) + ((hs h k 5 ((h k 5) + (h 48 2))) k 1)) / (12 : Int32) * (12 : Int32)))
def f_X5_endDay (h : Hp) (k : Nat) : Option (Hp) :=
    f_X5_endDay_18 k (hs (hs h k 6 ((h k 6) + (1 : Int32))) k 4 ((hs h k 6 ((h k 6) + (1 : Int32))) 48 1))
def f_X3_tell (h : Hp) (k : Nat) (a1 : Int32) : Option (Int32 × Hp) :=
    if a1 = 5 then
      some ((h k 7), h)
    else
    if a1 = 6 then
      some ((h k 8), h)
    else
    if a1 = 7 then
      some ((h k 9), h)
    else
    if a1 = 8 then
      some ((0 : Int32), h)
    else
    if a1 = 9 then
      (f_X3_crossingsLeft h k).bind (fun q1 =>
        some (q1.1, q1.2))
    else
    some ((0 : Int32), h)
def f_X4_sumOf_14 : Nat → Hp → Int32 → Int32 → Int32 → Int32 → Option (Int32 × Hp)
  | 0 => fun _ _ _ _ _ => none
  | n + 1 => fun h x1 x2 x4 x5 =>
    if x4 ≤ x5 then
      some (x2, h)
    else
      if inb x5 3 = true then
        (f_X3_tell h (50 + 3 * x5.toNatClampNeg) x1).bind (fun q2 =>
          f_X4_sumOf_14 n q2.2 x1 (x2 + q2.1) x4 (x5 + 1))
      else none
theorem f_X4_sumOf_14_s (n : Nat) (h : Hp) (x1 : Int32) (x2 : Int32) (x4 : Int32) (x5 : Int32) : f_X4_sumOf_14 (n + 1) h x1 x2 x4 x5 =
    if x4 ≤ x5 then
      some (x2, h)
    else
      if inb x5 3 = true then
        (f_X3_tell h (50 + 3 * x5.toNatClampNeg) x1).bind (fun q2 =>
          f_X4_sumOf_14 n q2.2 x1 (x2 + q2.1) x4 (x5 + 1))
      else none := rfl
def f_X4_sumOf (h : Hp) (a1 : Int32) : Option (Int32 × Hp) :=
    f_X4_sumOf_14 FU h a1 (0 : Int32) (3 : Int32) (0 : Int32)
def f_X7_sail_40 : Nat → Hp → Int32 → Int32 → Int32 → Option (Int32 × Hp)
  | 0 => fun _ _ _ _ => none
  | n + 1 => fun h x1 x2 x3 =>
    if x1 ≤ x3 then
      some (x2, h)
    else
      (f_X4_run h 1).bind (fun q1 =>
        (f_X5_endDay q1 1).bind (fun q2 =>
          (f_X4_sumOf q2 (5 : Int32)).bind (fun q3 =>
            f_X7_sail_40 n q3.2 x1 (x2 + q3.1) (x3 + 1))))
theorem f_X7_sail_40_s (n : Nat) (h : Hp) (x1 : Int32) (x2 : Int32) (x3 : Int32) : f_X7_sail_40 (n + 1) h x1 x2 x3 =
    if x1 ≤ x3 then
      some (x2, h)
    else
      (f_X4_run h 1).bind (fun q1 =>
        (f_X5_endDay q1 1).bind (fun q2 =>
          (f_X4_sumOf q2 (5 : Int32)).bind (fun q3 =>
            f_X7_sail_40 n q3.2 x1 (x2 + q3.1) (x3 + 1)))) := rfl
def f_X7_sail (h : Hp) (a1 : Int32) : Option (Int32 × Hp) :=
    if a1 < (1 : Int32) then
      some ((-2 : Int32), h)
    else
      if a1 ≤ (30 : Int32) then
        if ((h 1 6) + a1) ≤ (9999 : Int32) then
          (f_X7_record h).bind (fun q1 =>
            f_X7_sail_40 FU q1 a1 (0 : Int32) (0 : Int32))
        else
          some ((-3 : Int32), h)
      else
        some ((-2 : Int32), h)
def f_L_act_58 (h : Hp) (t1 : Int32) (t2 : Int32) (t3 : Int32) (t4 : Int32) : Option (Int32 × Hp) :=
    (f_L_low h t3 t4).bind (fun q1 =>
      (f_X7_captain q1.2 t1 t2 q1.1).bind (fun q2 =>
        some (q2.1, q2.2)))
def f_L_act_159 (h : Hp) (t1 : Int32) (t2 : Int32) (t3 : Int32) : Option (Int32 × Hp) :=
    (f_L_low h t2 t3).bind (fun q1 =>
      (f_X7_sail q1.2 (t1 + q1.1)).bind (fun q2 =>
        some (q2.1, q2.2)))
def f_L_act (h : Hp) (a2 : Int32) (a3 : Int32) : Option (Int32 × Hp) :=
    (f_L_low h (a2 >>> ((3 : Int32) &&& 31)) (12 : Int32)).bind (fun q1 =>
      if (6 : Int32) ≤ q1.1 then
        if q1.1 = (6 : Int32) then
          (f_L_low q1.2 a3 (13 : Int32)).bind (fun q9 =>
            (f_X7_truth q9.2 q9.1).bind (fun q10 =>
              some (q10.1, q10.2)))
        else
          if q1.1 = (7 : Int32) then
            (f_L_low q1.2 a3 (2 : Int32)).bind (fun q4 =>
              if q4.1 = 0 then
                (f_L_low q4.2 (a3 >>> ((2 : Int32) &&& 31)) (3 : Int32)).bind (fun q7 =>
                  (f_X7_set q7.2 (0 : Int32) q7.1).bind (fun q8 =>
                    some (q8.1, q8.2)))
              else
                (f_L_low q4.2 (a3 >>> ((2 : Int32) &&& 31)) (10 : Int32)).bind (fun q5 =>
                  (f_X7_set q5.2 (1 : Int32) q5.1).bind (fun q6 =>
                    some (q6.1, q6.2))))
          else
            if q1.1 = (8 : Int32) then
              (f_L_low q1.2 a3 (65538 : Int32)).bind (fun q2 =>
                (f_X7_lot q2.2 q2.1).bind (fun q3 =>
                  some (q3.1, q3.2)))
            else
              if q1.1 = (11 : Int32) then
                f_L_act_159 q1.2 (1 : Int32) a3 (30 : Int32)
              else
                f_L_act_159 q1.2 (1 : Int32) a3 (3 : Int32)
      else
        (f_L_low q1.2 (a3 >>> ((2 : Int32) &&& 31)) (4 : Int32)).bind (fun q11 =>
          (f_L_low q11.2 a3 (3 : Int32)).bind (fun q12 =>
            if q11.1 = (2 : Int32) then
              f_L_act_58 q12.2 q12.1 q11.1 (a3 >>> ((4 : Int32) &&& 31)) (25 : Int32)
            else
              if q11.1 = (3 : Int32) then
                f_L_act_58 q12.2 q12.1 q11.1 (a3 >>> ((4 : Int32) &&& 31)) (3 : Int32)
              else
                f_L_act_58 q12.2 q12.1 q11.1 (a3 >>> ((4 : Int32) &&& 31)) (13 : Int32))))
def f_X7_undo (h : Hp) : Option (Int32 × Hp) :=
    if ((h 0 4) - (1 : Int32)) < 0 then
      some ((-5 : Int32), h)
    else
      if ((h 0 4) - (1 : Int32)) < (4 : Int32) then
        if inb ((h 0 4) - (1 : Int32)) 4 = true then
          if inb (h 36 ((h 0 4) - (1 : Int32)).toNatClampNeg) 4 = true then
            (f_X5_copyFrom h 1 (11 + 5 * (h 36 ((h 0 4) - (1 : Int32)).toNatClampNeg).toNatClampNeg)).bind (fun q3 =>
              some (((hs q3 0 4 ((h 0 4) - (1 : Int32))) 0 4), (hs q3 0 4 ((h 0 4) - (1 : Int32)))))
          else none
        else none
      else
        some ((-5 : Int32), h)
def f_X7_printed (h : Hp) (a1 : Int32) (a2 : Int32) (a3 : Int32) : Option (Int32 × Hp) :=
    (f_X7_isCaptain h a1).bind (fun q1 =>
      if q1.1 = 0 then
        some ((-1 : Int32), q1.2)
      else
        (f_X7_timetableOf q1.2 a1).bind (fun q2 =>
          if isX6 q2.1 then
            (f_X6_has q2.2 q2.1 a2).bind (fun q4 =>
              if q4.1 = 0 then
                some ((-1 : Int32), q4.2)
              else
                if a3 = 0 then
                  (f_X6_hourOf q4.2 q2.1 a2).bind (fun q5 =>
                    some (q5.1, q5.2))
                else
                if a3 = 1 then
                  (f_X6_pierOf q4.2 q2.1 a2).bind (fun q6 =>
                    some (q6.1, q6.2))
                else
                some ((-2 : Int32), q4.2))
          else none))
def f_X7_hoursWithWater_25 (K4 : Hp → Int32 → Int32 → Int32 → Int32 → Option (Int32 × Hp)) (h : Hp) (x0 : Int32) (x1 : Int32) (x2 : Int32) (x3 : Int32) : Option (Int32 × Hp) :=
    K4 h x0 x1 x2 (x3 + 1)
def f_X7_hoursWithWater_4 : Nat → Hp → Int32 → Int32 → Int32 → Int32 → Option (Int32 × Hp)
  | 0 => fun _ _ _ _ _ => none
  | n + 1 => fun h x0 x1 x2 x3 =>
    if (24 : Int32) ≤ x3 then
      some (x2, h)
    else
      (f_X7_levelAt h x0 x3).bind (fun q1 =>
        if q1.1 < x1 then
          f_X7_hoursWithWater_25 (f_X7_hoursWithWater_4 n) q1.2 x0 x1 x2 x3
        else
          f_X7_hoursWithWater_25 (f_X7_hoursWithWater_4 n) q1.2 x0 x1 (x2 ||| ((1 : Int32) <<< (x3 &&& 31))) x3)
theorem f_X7_hoursWithWater_4_s (n : Nat) (h : Hp) (x0 : Int32) (x1 : Int32) (x2 : Int32) (x3 : Int32) : f_X7_hoursWithWater_4 (n + 1) h x0 x1 x2 x3 =
    if (24 : Int32) ≤ x3 then
      some (x2, h)
    else
      (f_X7_levelAt h x0 x3).bind (fun q1 =>
        if q1.1 < x1 then
          f_X7_hoursWithWater_25 (f_X7_hoursWithWater_4 n) q1.2 x0 x1 x2 x3
        else
          f_X7_hoursWithWater_25 (f_X7_hoursWithWater_4 n) q1.2 x0 x1 (x2 ||| ((1 : Int32) <<< (x3 &&& 31))) x3) := rfl
def f_X7_hoursWithWater (h : Hp) (a1 : Int32) (a2 : Int32) : Option (Int32 × Hp) :=
    f_X7_hoursWithWater_4 FU h a1 a2 (0 : Int32) (0 : Int32)
def f_X7_hours (h : Hp) (a1 : Int32) (a2 : Int32) : Option (Int32 × Hp) :=
    (f_X7_isCaptain h a1).bind (fun q1 =>
      if q1.1 = 0 then
        some ((-1 : Int32), q1.2)
      else
        if inb a1 3 = true then
          (f_X7_hoursWithWater q1.2 (q1.2 ((1 + 1) + 1 + a1.toNatClampNeg) 0) (q1.2 ((1 + 1) + 1 + a1.toNatClampNeg) 1)).bind (fun q3 =>
            (f_X7_hoursWithWater q3.2 (q3.2 1 3) (q3.2 ((1 + 1) + 1 + a1.toNatClampNeg) 1)).bind (fun q4 =>
              if a2 = 0 then
                some (q3.1, q4.2)
              else
              if a2 = 1 then
                some (q4.1, q4.2)
              else
              if a2 = 2 then
                some ((q3.1 ^^^ q4.1), q4.2)
              else
              some ((-2 : Int32), q4.2)))
        else none)
def f_X7_uses (h : Hp) (a1 : Int32) (a2 : Int32) : Option (Int32 × Hp) :=
    if a1 < 0 then
      some ((-1 : Int32), h)
    else
      if (2 : Int32) ≤ a1 then
        some ((-1 : Int32), h)
      else
        if a2 < 0 then
          some ((-1 : Int32), h)
        else
          if a2 < (24 : Int32) then
            (f_X1_print h 1).bind (fun q1 =>
              (f_X1_placeOf q1 a2 a1).bind (fun q2 =>
                (f_X1_usersAt q2.2 q2.1).bind (fun q3 =>
                  some (q3.1, q3.2))))
          else
            some ((-1 : Int32), h)
def f_L_printed_106 (K4 : Hp → Int32 → Int32 → Option (Int32 × Hp)) (K23 : Hp → Int32 → Int32 → Int32 → Int32 → Option (Int32 × Hp)) (h : Hp) (x1 : Int32) (x2 : Int32) (x3 : Int32) (x4 : Int32) (x5 : Int32) (t0 : Int32) : Option (Int32 × Hp) :=
    if t0 = 0 then
      if (21 : Int32) < x5 then
        some ((0 : Int32), h)
      else
        (f_X7_hours h x2 (0 : Int32)).bind (fun q1 =>
          if ((q1.1 >>> (x5 &&& 31)) &&& (1 : Int32)) = 0 then
            some ((0 : Int32), q1.2)
          else
            (f_X7_printed q1.2 x2 x4 (1 : Int32)).bind (fun q2 =>
              (f_X7_uses q2.2 q2.1 x5).bind (fun q3 =>
                if ((q3.1 >>> (x2 &&& 31)) &&& (1 : Int32)) = 0 then
                  some ((0 : Int32), q3.2)
                else
                  (f_X7_printed q3.2 x2 x4 (1 : Int32)).bind (fun q4 =>
                    (f_X7_uses q4.2 ((1 : Int32) - q4.1) (x5 + (2 : Int32))).bind (fun q5 =>
                      if ((q5.1 >>> (x2 &&& 31)) &&& (1 : Int32)) = 0 then
                        some ((0 : Int32), q5.2)
                      else
                        K23 q5.2 x1 x2 x3 (x4 + 1))))))
    else
      some ((0 : Int32), h)
def f_L_printed_101 (K4 : Hp → Int32 → Int32 → Option (Int32 × Hp)) (K23 : Hp → Int32 → Int32 → Int32 → Int32 → Option (Int32 × Hp)) (h : Hp) (x1 : Int32) (x2 : Int32) (x3 : Int32) (x4 : Int32) (x5 : Int32) : Option (Int32 × Hp) :=
    f_L_printed_106 K4 K23 h x1 x2 x3 x4 x5 (1 : Int32)
def f_L_printed_213 (K4 : Hp → Int32 → Int32 → Option (Int32 × Hp)) (h : Hp) (x1 : Int32) (x2 : Int32) : Option (Int32 × Hp) :=
    K4 h x1 (x2 + 1)
def f_L_printed_23 (K4 : Hp → Int32 → Int32 → Option (Int32 × Hp)) : Nat → Hp → Int32 → Int32 → Int32 → Int32 → Option (Int32 × Hp)
  | 0 => fun _ _ _ _ _ => none
  | n + 1 => fun h x1 x2 x3 x4 =>
    if x3 ≤ x4 then
      (f_X7_captainOf h x2 (0 : Int32)).bind (fun q1 =>
        (f_X7_count q1.2 (1 : Int32)).bind (fun q2 =>
          if q1.1 = q2.1 then
            (f_X7_hours q2.2 x2 (2 : Int32)).bind (fun q3 =>
              if q3.1 = 0 then
                f_L_printed_213 K4 q3.2 x1 x2
              else
                some ((0 : Int32), q3.2))
          else
            f_L_printed_213 K4 q2.2 x1 x2))
    else
      (f_X7_printed h x2 x4 (0 : Int32)).bind (fun q4 =>
        if x4 = 0 then
          (f_X7_captainOf q4.2 x2 (2 : Int32)).bind (fun q8 =>
            if q8.1 ≤ q4.1 then
              f_L_printed_106 K4 (f_L_printed_23 K4 n) q8.2 x1 x2 x3 x4 q4.1 (0 : Int32)
            else
              f_L_printed_106 K4 (f_L_printed_23 K4 n) q8.2 x1 x2 x3 x4 q4.1 (1 : Int32))
        else
          (f_X7_printed q4.2 x2 (x4 - (1 : Int32)) (0 : Int32)).bind (fun q5 =>
            if q4.1 < (q5.1 + (3 : Int32)) then
              f_L_printed_101 K4 (f_L_printed_23 K4 n) q5.2 x1 x2 x3 x4 q4.1
            else
              (f_X7_printed q5.2 x2 x4 (1 : Int32)).bind (fun q6 =>
                (f_X7_printed q6.2 x2 (x4 - (1 : Int32)) (1 : Int32)).bind (fun q7 =>
                  if q6.1 = q7.1 then
                    f_L_printed_101 K4 (f_L_printed_23 K4 n) q7.2 x1 x2 x3 x4 q4.1
                  else
                    f_L_printed_106 K4 (f_L_printed_23 K4 n) q7.2 x1 x2 x3 x4 q4.1 (0 : Int32)))))
theorem f_L_printed_23_s (K4 : Hp → Int32 → Int32 → Option (Int32 × Hp)) (n : Nat) (h : Hp) (x1 : Int32) (x2 : Int32) (x3 : Int32) (x4 : Int32) : f_L_printed_23 K4 (n + 1) h x1 x2 x3 x4 =
    if x3 ≤ x4 then
      (f_X7_captainOf h x2 (0 : Int32)).bind (fun q1 =>
        (f_X7_count q1.2 (1 : Int32)).bind (fun q2 =>
          if q1.1 = q2.1 then
            (f_X7_hours q2.2 x2 (2 : Int32)).bind (fun q3 =>
              if q3.1 = 0 then
                f_L_printed_213 K4 q3.2 x1 x2
              else
                some ((0 : Int32), q3.2))
          else
            f_L_printed_213 K4 q2.2 x1 x2))
    else
      (f_X7_printed h x2 x4 (0 : Int32)).bind (fun q4 =>
        if x4 = 0 then
          (f_X7_captainOf q4.2 x2 (2 : Int32)).bind (fun q8 =>
            if q8.1 ≤ q4.1 then
              f_L_printed_106 K4 (f_L_printed_23 K4 n) q8.2 x1 x2 x3 x4 q4.1 (0 : Int32)
            else
              f_L_printed_106 K4 (f_L_printed_23 K4 n) q8.2 x1 x2 x3 x4 q4.1 (1 : Int32))
        else
          (f_X7_printed q4.2 x2 (x4 - (1 : Int32)) (0 : Int32)).bind (fun q5 =>
            if q4.1 < (q5.1 + (3 : Int32)) then
              f_L_printed_101 K4 (f_L_printed_23 K4 n) q5.2 x1 x2 x3 x4 q4.1
            else
              (f_X7_printed q5.2 x2 x4 (1 : Int32)).bind (fun q6 =>
                (f_X7_printed q6.2 x2 (x4 - (1 : Int32)) (1 : Int32)).bind (fun q7 =>
                  if q6.1 = q7.1 then
                    f_L_printed_101 K4 (f_L_printed_23 K4 n) q7.2 x1 x2 x3 x4 q4.1
                  else
                    f_L_printed_106 K4 (f_L_printed_23 K4 n) q7.2 x1 x2 x3 x4 q4.1 (0 : Int32))))) := rfl
def f_L_printed_4 : Nat → Hp → Int32 → Int32 → Option (Int32 × Hp)
  | 0 => fun _ _ _ => none
  | n + 1 => fun h x1 x2 =>
    if (3 : Int32) ≤ x2 then
      (f_X7_count h (4 : Int32)).bind (fun q1 =>
        if x1 = q1.1 then
          some ((1 : Int32), q1.2)
        else
          some ((0 : Int32), q1.2))
    else
      (f_X7_captainOf h x2 (4 : Int32)).bind (fun q2 =>
        f_L_printed_23 (f_L_printed_4 n) FU q2.2 (x1 + q2.1) x2 q2.1 (0 : Int32))
theorem f_L_printed_4_s (n : Nat) (h : Hp) (x1 : Int32) (x2 : Int32) : f_L_printed_4 (n + 1) h x1 x2 =
    if (3 : Int32) ≤ x2 then
      (f_X7_count h (4 : Int32)).bind (fun q1 =>
        if x1 = q1.1 then
          some ((1 : Int32), q1.2)
        else
          some ((0 : Int32), q1.2))
    else
      (f_X7_captainOf h x2 (4 : Int32)).bind (fun q2 =>
        f_L_printed_23 (f_L_printed_4 n) FU q2.2 (x1 + q2.1) x2 q2.1 (0 : Int32)) := rfl
def f_L_printed (h : Hp) : Option (Int32 × Hp) :=
    f_L_printed_4 FU h (0 : Int32) (0 : Int32)
def f_L_accounts_15 : Nat → Hp → Int32 → Int32 → Int32 → Int32 → Int32 → Int32 → Option (Int32 × Hp)
  | 0 => fun _ _ _ _ _ _ _ => none
  | n + 1 => fun h x1 x2 x3 x4 x5 x6 =>
    if (3 : Int32) ≤ x6 then
      (f_X7_count h (5 : Int32)).bind (fun q1 =>
        if x1 = q1.1 then
          (f_X7_count q1.2 (6 : Int32)).bind (fun q2 =>
            if x2 = q2.1 then
              (f_X7_count q2.2 (8 : Int32)).bind (fun q3 =>
                if x3 = q3.1 then
                  (f_X7_count q3.2 (9 : Int32)).bind (fun q4 =>
                    if x4 = q4.1 then
                      (f_X7_count q4.2 (7 : Int32)).bind (fun q5 =>
                        if x5 < q5.1 then
                          some ((0 : Int32), q5.2)
                        else
                          some ((1 : Int32), q5.2))
                    else
                      some ((0 : Int32), q4.2))
                else
                  some ((0 : Int32), q3.2))
            else
              some ((0 : Int32), q2.2))
        else
          some ((0 : Int32), q1.2))
    else
      (f_X7_captainOf h x6 (5 : Int32)).bind (fun q6 =>
        (f_X7_captainOf q6.2 x6 (6 : Int32)).bind (fun q7 =>
          (f_X7_captainOf q7.2 x6 (7 : Int32)).bind (fun q8 =>
            (f_X7_captainOf q8.2 x6 (8 : Int32)).bind (fun q9 =>
              (f_X7_captainOf q9.2 x6 (9 : Int32)).bind (fun q10 =>
                (f_X7_captainOf q10.2 x6 (8 : Int32)).bind (fun q11 =>
                  (f_X7_captainOf q11.2 x6 (7 : Int32)).bind (fun q12 =>
                    if q11.1 ≤ q12.1 then
                      f_L_accounts_15 n q12.2 (x1 + q6.1) (x2 + q10.1) (x3 + q7.1) (x4 + q8.1) (x5 + q9.1) (x6 + 1)
                    else
                      some ((0 : Int32), q12.2))))))))
theorem f_L_accounts_15_s (n : Nat) (h : Hp) (x1 : Int32) (x2 : Int32) (x3 : Int32) (x4 : Int32) (x5 : Int32) (x6 : Int32) : f_L_accounts_15 (n + 1) h x1 x2 x3 x4 x5 x6 =
    if (3 : Int32) ≤ x6 then
      (f_X7_count h (5 : Int32)).bind (fun q1 =>
        if x1 = q1.1 then
          (f_X7_count q1.2 (6 : Int32)).bind (fun q2 =>
            if x2 = q2.1 then
              (f_X7_count q2.2 (8 : Int32)).bind (fun q3 =>
                if x3 = q3.1 then
                  (f_X7_count q3.2 (9 : Int32)).bind (fun q4 =>
                    if x4 = q4.1 then
                      (f_X7_count q4.2 (7 : Int32)).bind (fun q5 =>
                        if x5 < q5.1 then
                          some ((0 : Int32), q5.2)
                        else
                          some ((1 : Int32), q5.2))
                    else
                      some ((0 : Int32), q4.2))
                else
                  some ((0 : Int32), q3.2))
            else
              some ((0 : Int32), q2.2))
        else
          some ((0 : Int32), q1.2))
    else
      (f_X7_captainOf h x6 (5 : Int32)).bind (fun q6 =>
        (f_X7_captainOf q6.2 x6 (6 : Int32)).bind (fun q7 =>
          (f_X7_captainOf q7.2 x6 (7 : Int32)).bind (fun q8 =>
            (f_X7_captainOf q8.2 x6 (8 : Int32)).bind (fun q9 =>
              (f_X7_captainOf q9.2 x6 (9 : Int32)).bind (fun q10 =>
                (f_X7_captainOf q10.2 x6 (8 : Int32)).bind (fun q11 =>
                  (f_X7_captainOf q11.2 x6 (7 : Int32)).bind (fun q12 =>
                    if q11.1 ≤ q12.1 then
                      f_L_accounts_15 n q12.2 (x1 + q6.1) (x2 + q10.1) (x3 + q7.1) (x4 + q8.1) (x5 + q9.1) (x6 + 1)
                    else
                      some ((0 : Int32), q12.2)))))))) := rfl
def f_L_accounts (h : Hp) : Option (Int32 × Hp) :=
    f_L_accounts_15 FU h (0 : Int32) (0 : Int32) (0 : Int32) (0 : Int32) (0 : Int32) (0 : Int32)
def f_X7_levelReached_56 (K21 : Hp → Int32 → Int32 → Int32 → Int32 → Option (Int32 × Hp)) (h : Hp) (x1 : Int32) (x2 : Int32) (x3 : Int32) (x4 : Int32) : Option (Int32 × Hp) :=
    K21 h x1 x2 x3 (x4 + 1)
def f_X7_levelReached_37 (K21 : Hp → Int32 → Int32 → Int32 → Int32 → Option (Int32 × Hp)) (h : Hp) (x1 : Int32) (x3 : Int32) (x4 : Int32) (t0 : Int32) (t1 : Int32) : Option (Int32 × Hp) :=
    if (t0 + t1) = 0 then
      f_X7_levelReached_56 K21 h x1 (t0 + t1) (0 : Int32) x4
    else
      if (t0 + t1) = (6 : Int32) then
        f_X7_levelReached_56 K21 h x1 (t0 + t1) (1 : Int32) x4
      else
        f_X7_levelReached_56 K21 h x1 (t0 + t1) x3 x4
def f_X7_levelReached_21 : Nat → Hp → Int32 → Int32 → Int32 → Int32 → Option (Int32 × Hp)
  | 0 => fun _ _ _ _ _ => none
  | n + 1 => fun h x1 x2 x3 x4 =>
    if x1 ≤ x4 then
      some (x2, h)
    else
      if x3 = 0 then
        f_X7_levelReached_37 (f_X7_levelReached_21 n) h x1 x3 x4 x2 (1 : Int32)
      else
        f_X7_levelReached_37 (f_X7_levelReached_21 n) h x1 x3 x4 x2 (-1 : Int32)
theorem f_X7_levelReached_21_s (n : Nat) (h : Hp) (x1 : Int32) (x2 : Int32) (x3 : Int32) (x4 : Int32) : f_X7_levelReached_21 (n + 1) h x1 x2 x3 x4 =
    if x1 ≤ x4 then
      some (x2, h)
    else
      if x3 = 0 then
        f_X7_levelReached_37 (f_X7_levelReached_21 n) h x1 x3 x4 x2 (1 : Int32)
      else
        f_X7_levelReached_37 (f_X7_levelReached_21 n) h x1 x3 x4 x2 (-1 : Int32) := rfl
def f_X7_levelReached_17 (h : Hp) (x1 : Int32) (x2 : Int32) (t0 : Int32) : Option (Int32 × Hp) :=
    f_X7_levelReached_21 FU h x1 x2 t0 (0 : Int32)
def f_X7_levelReached (h : Hp) (a1 : Int32) (a2 : Int32) : Option (Int32 × Hp) :=
    (f_X7_levelAt h a1 (0 : Int32)).bind (fun q1 =>
      if (6 : Int32) ≤ a1 then
        f_X7_levelReached_17 q1.2 a2 q1.1 (0 : Int32)
      else
        f_X7_levelReached_17 q1.2 a2 q1.1 (1 : Int32))
def f_X7_level_65 (h : Hp) (x2 : Int32) (x3 : Int32) (t0 : Int32) : Option (Int32 × Hp) :=
    if x3 = 0 then
      (f_X7_levelAt h t0 x2).bind (fun q1 =>
        some (q1.1, q1.2))
    else
    if x3 = 1 then
      (f_X7_levelReached h t0 x2).bind (fun q2 =>
        some (q2.1, q2.2))
    else
    some ((-2 : Int32), h)
def f_X7_level_17 (h : Hp) (x1 : Int32) (x2 : Int32) (x3 : Int32) (t0 : Int32) : Option (Int32 × Hp) :=
    if t0 = 0 then
      some ((-1 : Int32), h)
    else
      if x2 < 0 then
        some ((-1 : Int32), h)
      else
        if x2 < (24 : Int32) then
          (f_X7_isCaptain h x1).bind (fun q1 =>
            if q1.1 = 0 then
              f_X7_level_65 q1.2 x2 x3 (q1.2 1 3)
            else
              if inb x1 3 = true then
                f_X7_level_65 q1.2 x2 x3 (q1.2 ((1 + 1) + 1 + x1.toNatClampNeg) 0)
              else none)
        else
          some ((-1 : Int32), h)
def f_X7_level_12 (h : Hp) (x1 : Int32) (x2 : Int32) (x3 : Int32) : Option (Int32 × Hp) :=
    f_X7_level_17 h x1 x2 x3 (1 : Int32)
def f_X7_level (h : Hp) (a1 : Int32) (a2 : Int32) (a3 : Int32) : Option (Int32 × Hp) :=
    (f_X7_isCaptain h a1).bind (fun q1 =>
      if q1.1 = 0 then
        if a1 = (3 : Int32) then
          f_X7_level_12 q1.2 a1 a2 a3
        else
          f_X7_level_17 q1.2 a1 a2 a3 (0 : Int32)
      else
        f_X7_level_12 q1.2 a1 a2 a3)
def f_L_tides_82 (K2 : Hp → Int32 → Option (Int32 × Hp)) (K9 : Hp → Int32 → Int32 → Option (Int32 × Hp)) (h : Hp) (x1 : Int32) (x2 : Int32) : Option (Int32 × Hp) :=
    K9 h x1 (x2 + 1)
def f_L_tides_60 (K2 : Hp → Int32 → Option (Int32 × Hp)) (K9 : Hp → Int32 → Int32 → Option (Int32 × Hp)) (h : Hp) (x1 : Int32) (x2 : Int32) (x3 : Int32) : Option (Int32 × Hp) :=
    if (12 : Int32) ≤ x2 then
      f_L_tides_82 K2 K9 h x1 x2
    else
      (f_X7_level h x1 (x2 + (12 : Int32)) (0 : Int32)).bind (fun q1 =>
        if q1.1 = x3 then
          f_L_tides_82 K2 K9 q1.2 x1 x2
        else
          some ((0 : Int32), q1.2))
def f_L_tides_9 (K2 : Hp → Int32 → Option (Int32 × Hp)) : Nat → Hp → Int32 → Int32 → Option (Int32 × Hp)
  | 0 => fun _ _ _ => none
  | n + 1 => fun h x1 x2 =>
    if (23 : Int32) ≤ x2 then
      K2 h (x1 + 1)
    else
      (f_X7_level h x1 x2 (0 : Int32)).bind (fun q1 =>
        (f_X7_level q1.2 x1 (x2 + (1 : Int32)) (1 : Int32)).bind (fun q2 =>
          if q1.1 < 0 then
            some ((0 : Int32), q2.2)
          else
            if (6 : Int32) < q1.1 then
              some ((0 : Int32), q2.2)
            else
              if (q1.1 - q2.1) = (1 : Int32) then
                f_L_tides_60 K2 (f_L_tides_9 K2 n) q2.2 x1 x2 q1.1
              else
                if (q2.1 - q1.1) = (1 : Int32) then
                  f_L_tides_60 K2 (f_L_tides_9 K2 n) q2.2 x1 x2 q1.1
                else
                  some ((0 : Int32), q2.2)))
theorem f_L_tides_9_s (K2 : Hp → Int32 → Option (Int32 × Hp)) (n : Nat) (h : Hp) (x1 : Int32) (x2 : Int32) : f_L_tides_9 K2 (n + 1) h x1 x2 =
    if (23 : Int32) ≤ x2 then
      K2 h (x1 + 1)
    else
      (f_X7_level h x1 x2 (0 : Int32)).bind (fun q1 =>
        (f_X7_level q1.2 x1 (x2 + (1 : Int32)) (1 : Int32)).bind (fun q2 =>
          if q1.1 < 0 then
            some ((0 : Int32), q2.2)
          else
            if (6 : Int32) < q1.1 then
              some ((0 : Int32), q2.2)
            else
              if (q1.1 - q2.1) = (1 : Int32) then
                f_L_tides_60 K2 (f_L_tides_9 K2 n) q2.2 x1 x2 q1.1
              else
                if (q2.1 - q1.1) = (1 : Int32) then
                  f_L_tides_60 K2 (f_L_tides_9 K2 n) q2.2 x1 x2 q1.1
                else
                  some ((0 : Int32), q2.2))) := rfl
def f_L_tides_2 : Nat → Hp → Int32 → Option (Int32 × Hp)
  | 0 => fun _ _ => none
  | n + 1 => fun h x1 =>
    if (4 : Int32) ≤ x1 then
      some ((1 : Int32), h)
    else
      f_L_tides_9 (f_L_tides_2 n) FU h x1 (0 : Int32)
theorem f_L_tides_2_s (n : Nat) (h : Hp) (x1 : Int32) : f_L_tides_2 (n + 1) h x1 =
    if (4 : Int32) ≤ x1 then
      some ((1 : Int32), h)
    else
      f_L_tides_9 (f_L_tides_2 n) FU h x1 (0 : Int32) := rfl
def f_L_tides (h : Hp) : Option (Int32 × Hp) :=
    f_L_tides_2 FU h (0 : Int32)
def f_X4_learners_28 (K4 : Hp → Int32 → Int32 → Int32 → Option (Int32 × Hp)) (h : Hp) (x1 : Int32) (x2 : Int32) (x3 : Int32) : Option (Int32 × Hp) :=
    K4 h x1 x2 (x3 + 1)
def f_X4_learners_4 : Nat → Hp → Int32 → Int32 → Int32 → Option (Int32 × Hp)
  | 0 => fun _ _ _ _ => none
  | n + 1 => fun h x1 x2 x3 =>
    if (3 : Int32) ≤ x3 then
      some (x2, h)
    else
      if inb x3 3 = true then
        (f_X3_isLesson h (50 + 3 * x3.toNatClampNeg) x1).bind (fun q2 =>
          if q2.1 = 0 then
            f_X4_learners_28 (f_X4_learners_4 n) q2.2 x1 x2 x3
          else
            f_X4_learners_28 (f_X4_learners_4 n) q2.2 x1 (x2 ||| ((1 : Int32) <<< (x3 &&& 31))) x3)
      else none
theorem f_X4_learners_4_s (n : Nat) (h : Hp) (x1 : Int32) (x2 : Int32) (x3 : Int32) : f_X4_learners_4 (n + 1) h x1 x2 x3 =
    if (3 : Int32) ≤ x3 then
      some (x2, h)
    else
      if inb x3 3 = true then
        (f_X3_isLesson h (50 + 3 * x3.toNatClampNeg) x1).bind (fun q2 =>
          if q2.1 = 0 then
            f_X4_learners_28 (f_X4_learners_4 n) q2.2 x1 x2 x3
          else
            f_X4_learners_28 (f_X4_learners_4 n) q2.2 x1 (x2 ||| ((1 : Int32) <<< (x3 &&& 31))) x3)
      else none := rfl
def f_X4_learners (h : Hp) (a1 : Int32) : Option (Int32 × Hp) :=
    f_X4_learners_4 FU h a1 (0 : Int32) (0 : Int32)
def f_X7_ifSailed (h : Hp) (a1 : Int32) : Option (Int32 × Hp) :=
    (f_X4_run h 1).bind (fun q1 =>
      if a1 = 0 then
        (f_X4_sumOf q1 (5 : Int32)).bind (fun q2 =>
          some (q2.1, q2.2))
      else
      if a1 = 1 then
        (f_X4_sumOf q1 (9 : Int32)).bind (fun q3 =>
          some (q3.1, q3.2))
      else
      if a1 = 2 then
        (f_X4_sumOf q1 (6 : Int32)).bind (fun q4 =>
          some (q4.1, q4.2))
      else
      if a1 = 3 then
        (f_X4_sumOf q1 (7 : Int32)).bind (fun q5 =>
          some (q5.1, q5.2))
      else
      if a1 = 4 then
        some ((q1 48 2), q1)
      else
      if a1 = 5 then
        (f_X4_learners q1 (q1 1 2)).bind (fun q6 =>
          some (q6.1, q6.2))
      else
      some ((-2 : Int32), q1))
def f_X7_bestHour_115 (K31 : Hp → Int32 → Int32 → Int32 → Int32 → Int32 → Option (Int32 × Hp)) (h : Hp) (x1 : Int32) (x2 : Int32) (x3 : Int32) (x4 : Int32) (x5 : Int32) : Option (Int32 × Hp) :=
    K31 h x1 x2 x3 x4 (x5 + 1)
def f_X7_bestHour_105 (K31 : Hp → Int32 → Int32 → Int32 → Int32 → Int32 → Option (Int32 × Hp)) (h : Hp) (x1 : Int32) (x5 : Int32) (x6 : Int32) (x7 : Int32) : Option (Int32 × Hp) :=
    f_X7_bestHour_115 K31 h x1 x5 x6 x7 x5
def f_X7_bestHour_31 : Nat → Hp → Int32 → Int32 → Int32 → Int32 → Int32 → Option (Int32 × Hp)
  | 0 => fun _ _ _ _ _ _ => none
  | n + 1 => fun h x1 x2 x3 x4 x5 =>
    if (24 : Int32) ≤ x5 then
      some (x2, h)
    else
      if inb x1 3 = true then
        (f_X1_print (hs h ((31 + 1) + 1 + x1.toNatClampNeg) 2 x5) 31).bind (fun q2 =>
          (f_X1_clashes q2).bind (fun q3 =>
            if inb x1 3 = true then
              if q3.1 < x3 then
                f_X7_bestHour_105 (f_X7_bestHour_31 n) q3.2 x1 x5 q3.1 (q3.2 (42 + 2 * x1.toNatClampNeg) 1)
              else
                if q3.1 = x3 then
                  if (q3.2 (42 + 2 * x1.toNatClampNeg) 1) ≤ x4 then
                    f_X7_bestHour_115 (f_X7_bestHour_31 n) q3.2 x1 x2 x3 x4 x5
                  else
                    f_X7_bestHour_105 (f_X7_bestHour_31 n) q3.2 x1 x5 q3.1 (q3.2 (42 + 2 * x1.toNatClampNeg) 1)
                else
                  f_X7_bestHour_115 (f_X7_bestHour_31 n) q3.2 x1 x2 x3 x4 x5
            else none))
      else none
theorem f_X7_bestHour_31_s (n : Nat) (h : Hp) (x1 : Int32) (x2 : Int32) (x3 : Int32) (x4 : Int32) (x5 : Int32) : f_X7_bestHour_31 (n + 1) h x1 x2 x3 x4 x5 =
    if (24 : Int32) ≤ x5 then
      some (x2, h)
    else
      if inb x1 3 = true then
        (f_X1_print (hs h ((31 + 1) + 1 + x1.toNatClampNeg) 2 x5) 31).bind (fun q2 =>
          (f_X1_clashes q2).bind (fun q3 =>
            if inb x1 3 = true then
              if q3.1 < x3 then
                f_X7_bestHour_105 (f_X7_bestHour_31 n) q3.2 x1 x5 q3.1 (q3.2 (42 + 2 * x1.toNatClampNeg) 1)
              else
                if q3.1 = x3 then
                  if (q3.2 (42 + 2 * x1.toNatClampNeg) 1) ≤ x4 then
                    f_X7_bestHour_115 (f_X7_bestHour_31 n) q3.2 x1 x2 x3 x4 x5
                  else
                    f_X7_bestHour_105 (f_X7_bestHour_31 n) q3.2 x1 x5 q3.1 (q3.2 (42 + 2 * x1.toNatClampNeg) 1)
                else
                  f_X7_bestHour_115 (f_X7_bestHour_31 n) q3.2 x1 x2 x3 x4 x5
            else none))
      else none := rfl
def f_X7_bestHour (h : Hp) (a1 : Int32) : Option (Int32 × Hp) :=
    (f_X7_isCaptain h a1).bind (fun q1 =>
      if q1.1 = 0 then
        some ((-1 : Int32), q1.2)
      else
        (f_X5_copyFrom q1.2 31 1).bind (fun q2 =>
          f_X7_bestHour_31 FU q2 a1 (0 : Int32) (49 : Int32) (0 : Int32) (0 : Int32)))
