def f_X8_put (h : Hp) (a1 : Int32) (a2 : Int32) (a3 : Int32) : Option (Hp) :=
    if inb (((6 : Int32) + ((10 : Int32) * a1)) + a2) 36 = true then
      some (hs h 1 (((6 : Int32) + ((10 : Int32) * a1)) + a2).toNatClampNeg a3)
    else none
def f_X8_in (h : Hp) (a1 : Int32) (a2 : Int32) (a3 : Int32) : Option (Int32 × Hp) :=
    if a1 < a2 then
      some ((0 : Int32), h)
    else
      if a3 < a1 then
        some ((0 : Int32), h)
      else
        some ((1 : Int32), h)
def f_X8_isCaptain (h : Hp) (a1 : Int32) : Option (Int32 × Hp) :=
    (f_X8_in h a1 (0 : Int32) (2 : Int32)).bind (fun q1 =>
      if isb q1.1 = true then
        some (q1.1, q1.2)
      else none)
def f_X8_least (h : Hp) (a1 : Int32) : Option (Int32 × Hp) :=
    if a1 = (1 : Int32) then
      some ((1 : Int32), h)
    else
      some ((0 : Int32), h)
def f_X8_most (h : Hp) (a1 : Int32) : Option (Int32 × Hp) :=
    if a1 = 0 then
      some ((11 : Int32), h)
    else
      if a1 = (1 : Int32) then
        some ((6 : Int32), h)
      else
        if a1 = (2 : Int32) then
          some ((23 : Int32), h)
        else
          some ((1 : Int32), h)
def f_X8_of (h : Hp) (a1 : Int32) (a2 : Int32) : Option (Int32 × Hp) :=
    if inb (((6 : Int32) + ((10 : Int32) * a1)) + a2) 36 = true then
      some ((h 1 (((6 : Int32) + ((10 : Int32) * a1)) + a2).toNatClampNeg), h)
    else none
def f_X8_record_49 : Nat → Hp → Int32 → Option (Hp)
  | 0 => fun _ _ => none
  | n + 1 => fun h x1 =>
    if (36 : Int32) ≤ x1 then
      some (hs h 0 12 ((h 0 12) + (1 : Int32)))
    else
      if inb x1 36 = true then
        if inb (((36 : Int32) * (h 0 12)) + x1) 144 = true then
          f_X8_record_49 n (hs h 4 (((36 : Int32) * (h 0 12)) + x1).toNatClampNeg (h 1 x1.toNatClampNeg)) (x1 + 1)
        else none
      else none
theorem f_X8_record_49_s (n : Nat) (h : Hp) (x1 : Int32) : f_X8_record_49 (n + 1) h x1 =
    if (36 : Int32) ≤ x1 then
      some (hs h 0 12 ((h 0 12) + (1 : Int32)))
    else
      if inb x1 36 = true then
        if inb (((36 : Int32) * (h 0 12)) + x1) 144 = true then
          f_X8_record_49 n (hs h 4 (((36 : Int32) * (h 0 12)) + x1).toNatClampNeg (h 1 x1.toNatClampNeg)) (x1 + 1)
        else none
      else none := rfl
def f_X8_record_47 (h : Hp) : Option (Hp) :=
    f_X8_record_49 FU h (0 : Int32)
def f_X8_record_10 : Nat → Hp → Int32 → Option (Hp)
  | 0 => fun _ _ => none
  | n + 1 => fun h x1 =>
    if (108 : Int32) ≤ x1 then
      f_X8_record_47 (hs h 0 12 ((h 0 12) - (1 : Int32)))
    else
      if inb (x1 + (36 : Int32)) 144 = true then
        if inb x1 144 = true then
          f_X8_record_10 n (hs h 4 x1.toNatClampNeg (h 4 (x1 + (36 : Int32)).toNatClampNeg)) (x1 + 1)
        else none
      else none
theorem f_X8_record_10_s (n : Nat) (h : Hp) (x1 : Int32) : f_X8_record_10 (n + 1) h x1 =
    if (108 : Int32) ≤ x1 then
      f_X8_record_47 (hs h 0 12 ((h 0 12) - (1 : Int32)))
    else
      if inb (x1 + (36 : Int32)) 144 = true then
        if inb x1 144 = true then
          f_X8_record_10 n (hs h 4 x1.toNatClampNeg (h 4 (x1 + (36 : Int32)).toNatClampNeg)) (x1 + 1)
        else none
      else none := rfl
def f_X8_record (h : Hp) : Option (Hp) :=
    if (h 0 12) = (4 : Int32) then
      f_X8_record_10 FU h (0 : Int32)
    else
      f_X8_record_47 h
def f_X8_captain (h : Hp) (a1 : Int32) (a2 : Int32) (a3 : Int32) : Option (Int32 × Hp) :=
    (f_X8_isCaptain h a1).bind (fun q1 =>
      if q1.1 = 0 then
        some ((-1 : Int32), q1.2)
      else
        (f_X8_in q1.2 a2 (0 : Int32) (3 : Int32)).bind (fun q2 =>
          if q2.1 = 0 then
            some ((-2 : Int32), q2.2)
          else
            (f_X8_least q2.2 a2).bind (fun q3 =>
              (f_X8_most q3.2 a2).bind (fun q4 =>
                (f_X8_in q4.2 a3 q3.1 q4.1).bind (fun q5 =>
                  if q5.1 = 0 then
                    some ((-2 : Int32), q5.2)
                  else
                    (f_X8_of q5.2 a1 a2).bind (fun q6 =>
                      if q6.1 = a3 then
                        some ((-5 : Int32), q6.2)
                      else
                        (f_X8_record q6.2).bind (fun q7 =>
                          (f_X8_put q7 a1 a2 a3).bind (fun q8 =>
                            some (q6.1, q8)))))))))
def f_X8_isNext (h : Hp) (a1 : Int32) (a2 : Int32) : Option (Int32 × Hp) :=
    if (h 0 13) ≤ (h 0 11) then
      some ((0 : Int32), h)
    else
      if inb (h 0 11) 60 = true then
        (f_X8_in h (h 5 (h 0 11).toNatClampNeg) a1 a2).bind (fun q1 =>
          if q1.1 = 0 then
            some ((0 : Int32), q1.2)
          else
            some ((1 : Int32), q1.2))
      else none
def f_X8_number_52 : Nat → Hp → Int32 → Int32 → Option (Int32 × Hp)
  | 0 => fun _ _ _ => none
  | n + 1 => fun h x2 x3 =>
    if x3 ≤ 0 then
      some (x3, h)
    else
      (f_X8_isNext h (48 : Int32) (57 : Int32)).bind (fun q1 =>
        if q1.1 = 0 then
          some (x3, q1.2)
        else
          if inb (q1.2 0 11) 60 = true then
            if x2 < ((((10 : Int32) * x3) + (q1.2 5 (q1.2 0 11).toNatClampNeg)) - (48 : Int32)) then
              some (x3, q1.2)
            else
              if inb (q1.2 0 11) 60 = true then
                f_X8_number_52 n (hs q1.2 0 11 ((q1.2 0 11) + (1 : Int32))) x2 ((((10 : Int32) * x3) + (q1.2 5 (q1.2 0 11).toNatClampNeg)) - (48 : Int32))
              else none
          else none)
theorem f_X8_number_52_s (n : Nat) (h : Hp) (x2 : Int32) (x3 : Int32) : f_X8_number_52 (n + 1) h x2 x3 =
    if x3 ≤ 0 then
      some (x3, h)
    else
      (f_X8_isNext h (48 : Int32) (57 : Int32)).bind (fun q1 =>
        if q1.1 = 0 then
          some (x3, q1.2)
        else
          if inb (q1.2 0 11) 60 = true then
            if x2 < ((((10 : Int32) * x3) + (q1.2 5 (q1.2 0 11).toNatClampNeg)) - (48 : Int32)) then
              some (x3, q1.2)
            else
              if inb (q1.2 0 11) 60 = true then
                f_X8_number_52 n (hs q1.2 0 11 ((q1.2 0 11) + (1 : Int32))) x2 ((((10 : Int32) * x3) + (q1.2 5 (q1.2 0 11).toNatClampNeg)) - (48 : Int32))
              else none
          else none) := rfl
def f_X8_number_20 (h : Hp) (x2 : Int32) (t1 : Int32) (t2 : Int32) : Option (Int32 × Hp) :=
    (f_X8_isNext h t1 t2).bind (fun q1 =>
      if q1.1 = 0 then
        some ((-5 : Int32), q1.2)
      else
        if inb (q1.2 0 11) 60 = true then
          f_X8_number_52 FU (hs q1.2 0 11 ((q1.2 0 11) + (1 : Int32))) x2 ((q1.2 5 (q1.2 0 11).toNatClampNeg) - (48 : Int32))
        else none)
def f_X8_number (h : Hp) (a1 : Int32) (a2 : Int32) : Option (Int32 × Hp) :=
    if (9 : Int32) ≤ a2 then
      f_X8_number_20 h a2 ((48 : Int32) + a1) (57 : Int32)
    else
      f_X8_number_20 h a2 ((48 : Int32) + a1) ((48 : Int32) + a2)
def f_X8_sign_21 (h : Hp) (x2 : Int32) (t1 : Int32) (t2 : Int32) : Option (Int32 × Hp) :=
    if isb x2 = true then
      some (x2, (hs h 0 11 (t1 + t2)))
    else none
def f_X8_sign (h : Hp) (a1 : Int32) : Option (Int32 × Hp) :=
    (f_X8_isNext h a1 a1).bind (fun q1 =>
      if q1.1 = 0 then
        f_X8_sign_21 q1.2 q1.1 (q1.2 0 11) (0 : Int32)
      else
        f_X8_sign_21 q1.2 q1.1 (q1.2 0 11) (1 : Int32))
def f_X8_aboutOf (h : Hp) : Option (Int32 × Hp) :=
    (f_X8_sign h (112 : Int32)).bind (fun q1 =>
      if q1.1 = 0 then
        (f_X8_sign q1.2 (100 : Int32)).bind (fun q2 =>
          if q2.1 = 0 then
            (f_X8_sign q2.2 (102 : Int32)).bind (fun q3 =>
              if q3.1 = 0 then
                (f_X8_sign q3.2 (104 : Int32)).bind (fun q4 =>
                  if q4.1 = 0 then
                    some ((-5 : Int32), q4.2)
                  else
                    some ((3 : Int32), q4.2))
              else
                some ((2 : Int32), q3.2))
          else
            some ((1 : Int32), q2.2))
      else
        some ((0 : Int32), q1.2))
def f_X8_readPart_78 (K37 : Hp → Int32 → Int32 → Int32 → Option (Int32 × Hp)) (h : Hp) (x1 : Int32) (x2 : Int32) : Option (Int32 × Hp) :=
    (f_X8_aboutOf h).bind (fun q1 =>
      K37 q1.2 x1 x2 q1.1)
def f_X8_readPart_37 : Nat → Hp → Int32 → Int32 → Int32 → Option (Int32 × Hp)
  | 0 => fun _ _ _ _ => none
  | n + 1 => fun h x1 x2 x3 =>
    if x3 = (-5 : Int32) then
      some ((1 : Int32), h)
    else
      (f_X8_least h x3).bind (fun q1 =>
        (f_X8_most q1.2 x3).bind (fun q2 =>
          (f_X8_number q2.2 q1.1 q2.1).bind (fun q3 =>
            if q3.1 = (-5 : Int32) then
              some ((0 : Int32), q3.2)
            else
              if x1 = 0 then
                f_X8_readPart_78 (f_X8_readPart_37 n) q3.2 x1 x2
              else
                (f_X8_put q3.2 x2 x3 q3.1).bind (fun q4 =>
                  f_X8_readPart_78 (f_X8_readPart_37 n) q4 x1 x2))))
theorem f_X8_readPart_37_s (n : Nat) (h : Hp) (x1 : Int32) (x2 : Int32) (x3 : Int32) : f_X8_readPart_37 (n + 1) h x1 x2 x3 =
    if x3 = (-5 : Int32) then
      some ((1 : Int32), h)
    else
      (f_X8_least h x3).bind (fun q1 =>
        (f_X8_most q1.2 x3).bind (fun q2 =>
          (f_X8_number q2.2 q1.1 q2.1).bind (fun q3 =>
            if q3.1 = (-5 : Int32) then
              some ((0 : Int32), q3.2)
            else
              if x1 = 0 then
                f_X8_readPart_78 (f_X8_readPart_37 n) q3.2 x1 x2
              else
                (f_X8_put q3.2 x2 x3 q3.1).bind (fun q4 =>
                  f_X8_readPart_78 (f_X8_readPart_37 n) q4 x1 x2)))) := rfl
def f_X8_readPart (h : Hp) (a1 : Int32) : Option (Int32 × Hp) :=
    (f_X8_number h (0 : Int32) (2 : Int32)).bind (fun q1 =>
      if q1.1 = (-5 : Int32) then
        some ((0 : Int32), q1.2)
      else
        (f_X8_sign q1.2 (58 : Int32)).bind (fun q2 =>
          if q2.1 = 0 then
            some ((0 : Int32), q2.2)
          else
            (f_X8_aboutOf q2.2).bind (fun q3 =>
              if q3.1 = (-5 : Int32) then
                some ((0 : Int32), q3.2)
              else
                f_X8_readPart_37 FU q3.2 a1 q1.1 q3.1)))
def f_X8_readAll_9 : Nat → Hp → Int32 → Int32 → Option (Int32 × Hp)
  | 0 => fun _ _ _ => none
  | n + 1 => fun h x1 x2 =>
    if x2 = 0 then
      if (h 0 13) ≤ (h 0 11) then
        some (x1, h)
      else
        some (((-100 : Int32) - (h 0 11)), h)
    else
      (f_X8_readPart h (0 : Int32)).bind (fun q1 =>
        if q1.1 = 0 then
          some (((-100 : Int32) - (q1.2 0 11)), q1.2)
        else
          (f_X8_sign q1.2 (59 : Int32)).bind (fun q2 =>
            f_X8_readAll_9 n q2.2 (x1 + 1) q2.1))
theorem f_X8_readAll_9_s (n : Nat) (h : Hp) (x1 : Int32) (x2 : Int32) : f_X8_readAll_9 (n + 1) h x1 x2 =
    if x2 = 0 then
      if (h 0 13) ≤ (h 0 11) then
        some (x1, h)
      else
        some (((-100 : Int32) - (h 0 11)), h)
    else
      (f_X8_readPart h (0 : Int32)).bind (fun q1 =>
        if q1.1 = 0 then
          some (((-100 : Int32) - (q1.2 0 11)), q1.2)
        else
          (f_X8_sign q1.2 (59 : Int32)).bind (fun q2 =>
            f_X8_readAll_9 n q2.2 (x1 + 1) q2.1)) := rfl
def f_X8_readAll (h : Hp) : Option (Int32 × Hp) :=
    f_X8_readAll_9 FU (hs h 0 11 (0 : Int32)) (0 : Int32) (1 : Int32)
def f_X8_captains_22 : Nat → Hp → Int32 → Int32 → Option (Int32 × Hp)
  | 0 => fun _ _ _ => none
  | n + 1 => fun h x1 x2 =>
    if x1 ≤ x2 then
      some (x1, h)
    else
      (f_X8_readPart h (1 : Int32)).bind (fun q1 =>
        f_X8_captains_22 n (hs q1.2 0 11 ((q1.2 0 11) + (1 : Int32))) x1 (x2 + 1))
theorem f_X8_captains_22_s (n : Nat) (h : Hp) (x1 : Int32) (x2 : Int32) : f_X8_captains_22 (n + 1) h x1 x2 =
    if x1 ≤ x2 then
      some (x1, h)
    else
      (f_X8_readPart h (1 : Int32)).bind (fun q1 =>
        f_X8_captains_22 n (hs q1.2 0 11 ((q1.2 0 11) + (1 : Int32))) x1 (x2 + 1)) := rfl
def f_X8_captains (h : Hp) : Option (Int32 × Hp) :=
    (f_X8_readAll h).bind (fun q1 =>
      if 0 ≤ q1.1 then
        (f_X8_record q1.2).bind (fun q2 =>
          f_X8_captains_22 FU (hs q2 0 11 (0 : Int32)) q1.1 (0 : Int32))
      else
        some (q1.1, q1.2))
def f_X8_change (h : Hp) (a1 : Int32) (a2 : Int32) : Option (Int32 × Hp) :=
    if inb a1 36 = true then
      if (h 1 a1.toNatClampNeg) = a2 then
        some ((-5 : Int32), h)
      else
        (f_X8_record h).bind (fun q1 =>
          if inb a1 36 = true then
            some ((h 1 a1.toNatClampNeg), (hs q1 1 a1.toNatClampNeg a2))
          else none)
    else none
def f_X8_truth (h : Hp) (a1 : Int32) : Option (Int32 × Hp) :=
    (f_X8_in h a1 (0 : Int32) (11 : Int32)).bind (fun q1 =>
      if q1.1 = 0 then
        some ((-2 : Int32), q1.2)
      else
        (f_X8_change q1.2 (1 : Int32) a1).bind (fun q2 =>
          some (q2.1, q2.2)))
def f_X8_set_21 (h : Hp) (x1 : Int32) (x2 : Int32) (t0 : Int32) (t1 : Int32) (t2 : Int32) : Option (Int32 × Hp) :=
    (f_X8_in h t0 t1 t2).bind (fun q1 =>
      if q1.1 = 0 then
        some ((-2 : Int32), q1.2)
      else
        (f_X8_change q1.2 ((3 : Int32) + x1) x2).bind (fun q2 =>
          some (q2.1, q2.2)))
def f_X8_set (h : Hp) (a1 : Int32) (a2 : Int32) : Option (Int32 × Hp) :=
    (f_X8_in h a1 (0 : Int32) (1 : Int32)).bind (fun q1 =>
      if q1.1 = 0 then
        some ((-2 : Int32), q1.2)
      else
        if a1 = 0 then
          f_X8_set_21 q1.2 a1 a2 a2 a1 (1 : Int32)
        else
          f_X8_set_21 q1.2 a1 a2 a2 a1 (9 : Int32))
def f_X8_lot (h : Hp) (a1 : Int32) : Option (Int32 × Hp) :=
    (f_X8_in h a1 (0 : Int32) (65536 : Int32)).bind (fun q1 =>
      if q1.1 = 0 then
        some ((-2 : Int32), q1.2)
      else
        (f_X8_change q1.2 (2 : Int32) a1).bind (fun q2 =>
          some (q2.1, q2.2)))
def f_X8_sumOf (h : Hp) (a1 : Int32) : Option (Int32 × Hp) :=
    (f_X8_of h (0 : Int32) a1).bind (fun q1 =>
      (f_X8_of q1.2 (1 : Int32) a1).bind (fun q2 =>
        (f_X8_of q2.2 (2 : Int32) a1).bind (fun q3 =>
          some (((q1.1 + q2.1) + q3.1), q3.2))))
def f_X8_levelOf (h : Hp) (a1 : Int32) (a2 : Int32) : Option (Int32 × Hp) :=
    if 0 ≤ (((a2 + a1) - (a2 + a1) / (12 : Int32) * (12 : Int32)) - (6 : Int32)) then
      some ((((a2 + a1) - (a2 + a1) / (12 : Int32) * (12 : Int32)) - (6 : Int32)), h)
    else
      some ((-(((a2 + a1) - (a2 + a1) / (12 : Int32) * (12 : Int32)) - (6 : Int32))), h)
def f_X8_isEnough (h : Hp) (a1 : Int32) (a2 : Int32) (a3 : Int32) : Option (Int32 × Hp) :=
    (f_X8_levelOf h a2 a3).bind (fun q1 =>
      (f_X8_of q1.2 a1 (1 : Int32)).bind (fun q2 =>
        if q1.1 < q2.1 then
          some ((0 : Int32), q2.2)
        else
          some ((1 : Int32), q2.2)))
def f_X8_print_64 (K14 : Hp → Int32 → Int32 → Option (Hp)) (h : Hp) (x1 : Int32) (x2 : Int32) : Option (Hp) :=
    K14 h x1 (x2 + 3)
def f_X8_print_14 : Nat → Hp → Int32 → Int32 → Option (Hp)
  | 0 => fun _ _ _ => none
  | n + 1 => fun h x1 x2 =>
    if (23 : Int32) < (x2 + (2 : Int32)) then
      some h
    else
      (f_X8_of h x1 (0 : Int32)).bind (fun q1 =>
        (f_X8_isEnough q1.2 x1 q1.1 x2).bind (fun q2 =>
          if q2.1 = 0 then
            f_X8_print_14 n q2.2 x1 (x2 + 1)
          else
            if inb x1 3 = true then
              if inb (((8 : Int32) * x1) + (q2.2 7 x1.toNatClampNeg)) 24 = true then
                if inb x1 3 = true then
                  if inb x1 3 = true then
                    f_X8_print_64 (f_X8_print_14 n) (hs (hs q2.2 6 (((8 : Int32) * x1) + (q2.2 7 x1.toNatClampNeg)).toNatClampNeg x2) 7 x1.toNatClampNeg (((hs q2.2 6 (((8 : Int32) * x1) + (q2.2 7 x1.toNatClampNeg)).toNatClampNeg x2) 7 x1.toNatClampNeg) + (1 : Int32))) x1 x2
                  else none
                else none
              else none
            else none))
theorem f_X8_print_14_s (n : Nat) (h : Hp) (x1 : Int32) (x2 : Int32) : f_X8_print_14 (n + 1) h x1 x2 =
    if (23 : Int32) < (x2 + (2 : Int32)) then
      some h
    else
      (f_X8_of h x1 (0 : Int32)).bind (fun q1 =>
        (f_X8_isEnough q1.2 x1 q1.1 x2).bind (fun q2 =>
          if q2.1 = 0 then
            f_X8_print_14 n q2.2 x1 (x2 + 1)
          else
            if inb x1 3 = true then
              if inb (((8 : Int32) * x1) + (q2.2 7 x1.toNatClampNeg)) 24 = true then
                if inb x1 3 = true then
                  if inb x1 3 = true then
                    f_X8_print_64 (f_X8_print_14 n) (hs (hs q2.2 6 (((8 : Int32) * x1) + (q2.2 7 x1.toNatClampNeg)).toNatClampNeg x2) 7 x1.toNatClampNeg (((hs q2.2 6 (((8 : Int32) * x1) + (q2.2 7 x1.toNatClampNeg)).toNatClampNeg x2) 7 x1.toNatClampNeg) + (1 : Int32))) x1 x2
                  else none
                else none
              else none
            else none)) := rfl
def f_X8_print (h : Hp) (a1 : Int32) : Option (Hp) :=
    if inb a1 3 = true then
      (f_X8_of (hs h 7 a1.toNatClampNeg (0 : Int32)) a1 (2 : Int32)).bind (fun q1 =>
        f_X8_print_14 FU q1.2 a1 q1.1)
    else none
def f_X8_printAll_2 : Nat → Hp → Int32 → Option (Hp)
  | 0 => fun _ _ => none
  | n + 1 => fun h x1 =>
    if (3 : Int32) ≤ x1 then
      some h
    else
      (f_X8_print h x1).bind (fun q1 =>
        f_X8_printAll_2 n q1 (x1 + 1))
theorem f_X8_printAll_2_s (n : Nat) (h : Hp) (x1 : Int32) : f_X8_printAll_2 (n + 1) h x1 =
    if (3 : Int32) ≤ x1 then
      some h
    else
      (f_X8_print h x1).bind (fun q1 =>
        f_X8_printAll_2 n q1 (x1 + 1)) := rfl
def f_X8_printAll (h : Hp) : Option (Hp) :=
    f_X8_printAll_2 FU h (0 : Int32)
def f_X8_hourOf (h : Hp) (a1 : Int32) (a2 : Int32) : Option (Int32 × Hp) :=
    if inb (((8 : Int32) * a1) + a2) 24 = true then
      some ((h 6 (((8 : Int32) * a1) + a2).toNatClampNeg), h)
    else none
def f_X8_wants (h : Hp) (a1 : Int32) (a2 : Int32) : Option (Int32 × Hp) :=
    if inb a1 3 = true then
      if a2 < (h 9 a1.toNatClampNeg) then
        some ((0 : Int32), h)
      else
        if inb a1 3 = true then
          if inb a1 3 = true then
            if (h 7 a1.toNatClampNeg) ≤ (h 10 a1.toNatClampNeg) then
              some ((0 : Int32), h)
            else
              if inb a1 3 = true then
                (f_X8_hourOf h a1 (h 10 a1.toNatClampNeg)).bind (fun q1 =>
                  if a2 < q1.1 then
                    some ((0 : Int32), q1.2)
                  else
                    if (23 : Int32) < (a2 + (2 : Int32)) then
                      some ((0 : Int32), q1.2)
                    else
                      some ((1 : Int32), q1.2))
              else none
          else none
        else none
    else none
def f_X8_more (h : Hp) (a1 : Int32) (a2 : Int32) (a3 : Int32) : Option (Hp) :=
    (f_X8_of h a1 a2).bind (fun q1 =>
      (f_X8_put q1.2 a1 a2 (q1.1 + a3)).bind (fun q2 =>
        some q2))
def f_X8_isThere (h : Hp) (a1 : Int32) (a2 : Int32) (a3 : Int32) : Option (Int32 × Hp) :=
    if inb a1 3 = true then
      if (h 8 a1.toNatClampNeg) = a2 then
        if inb a1 3 = true then
          if a3 < (h 9 a1.toNatClampNeg) then
            some ((0 : Int32), h)
          else
            some ((1 : Int32), h)
        else none
      else
        some ((0 : Int32), h)
    else none
def f_X8_bits (h : Hp) (a1 : Int32) : Option (Int32 × Hp) :=
    some ((((a1 &&& (1 : Int32)) + ((a1 >>> ((1 : Int32) &&& 31)) &&& (1 : Int32))) + ((a1 >>> ((2 : Int32) &&& 31)) &&& (1 : Int32))), h)
def f_X8_draw_57 (K45 : Hp → Int32 → Int32 → Int32 → Option (Int32 × Hp)) (h : Hp) (x1 : Int32) (x2 : Int32) (x3 : Int32) : Option (Int32 × Hp) :=
    K45 h x1 (x2 - ((x1 >>> (x3 &&& 31)) &&& (1 : Int32))) (x3 + 1)
def f_X8_draw_45 : Nat → Hp → Int32 → Int32 → Int32 → Option (Int32 × Hp)
  | 0 => fun _ _ _ _ => none
  | n + 1 => fun h x1 x2 x3 =>
    if ((x1 >>> (x3 &&& 31)) &&& (1 : Int32)) = 0 then
      f_X8_draw_57 (f_X8_draw_45 n) h x1 x2 x3
    else
      if x2 ≤ 0 then
        some (x3, h)
      else
        f_X8_draw_57 (f_X8_draw_45 n) h x1 x2 x3
theorem f_X8_draw_45_s (n : Nat) (h : Hp) (x1 : Int32) (x2 : Int32) (x3 : Int32) : f_X8_draw_45 (n + 1) h x1 x2 x3 =
    if ((x1 >>> (x3 &&& 31)) &&& (1 : Int32)) = 0 then
      f_X8_draw_57 (f_X8_draw_45 n) h x1 x2 x3
    else
      if x2 ≤ 0 then
        some (x3, h)
      else
        f_X8_draw_57 (f_X8_draw_45 n) h x1 x2 x3 := rfl
def f_X8_draw_31 (h : Hp) (x1 : Int32) : Option (Int32 × Hp) :=
    if inb (2 : Int32) 36 = true then
      (f_X8_bits h x1).bind (fun q1 =>
        if ¬ q1.1 = 0 then
          f_X8_draw_45 FU q1.2 x1 ((h 1 (2 : Int32).toNatClampNeg) - (h 1 (2 : Int32).toNatClampNeg) / q1.1 * q1.1) (0 : Int32)
        else none)
    else none
def f_X8_draw (h : Hp) (a1 : Int32) : Option (Int32 × Hp) :=
    if inb (2 : Int32) 36 = true then
      if inb (2 : Int32) 36 = true then
        if inb (5 : Int32) 36 = true then
          if inb (5 : Int32) 36 = true then
            f_X8_draw_31 (hs (hs h 1 (2 : Int32).toNatClampNeg ((((75 : Int32) * (h 1 (2 : Int32).toNatClampNeg)) + (74 : Int32)) - (((75 : Int32) * (h 1 (2 : Int32).toNatClampNeg)) + (74 : Int32)) / (65537 : Int32) * (65537 : Int32))) 1 (5 : Int32).toNatClampNeg (((hs h 1 (2 : Int32).toNatClampNeg ((((75 : Int32) * (h 1 (2 : Int32).toNatClampNeg)) + (74 : Int32)) - (((75 : Int32) * (h 1 (2 : Int32).toNatClampNeg)) + (74 : Int32)) / (65537 : Int32) * (65537 : Int32))) 1 (5 : Int32).toNatClampNeg) + (1 : Int32))) a1
          else none
        else none
      else none
    else none
def f_X8_depart_23 (h : Hp) (x1 : Int32) : Option (Hp) :=
    if inb x1 3 = true then
      if inb x1 3 = true then
        (f_X8_more (hs h 10 x1.toNatClampNeg ((h 10 x1.toNatClampNeg) + (1 : Int32))) x1 (4 : Int32) (1 : Int32)).bind (fun q1 =>
          some q1)
      else none
    else none
def f_X8_depart (h : Hp) (a1 : Int32) (a2 : Int32) : Option (Hp) :=
    if inb a1 3 = true then
      if inb a1 3 = true then
        if inb a1 3 = true then
          f_X8_depart_23 (hs (hs h 8 a1.toNatClampNeg ((1 : Int32) - (h 8 a1.toNatClampNeg))) 9 a1.toNatClampNeg (a2 + (2 : Int32))) a1
        else none
      else none
    else none
def f_X8_givePier_115 (K53 : Hp → Int32 → Int32 → Int32 → Int32 → Int32 → Option (Hp)) (h : Hp) (x1 : Int32) (x3 : Int32) (x4 : Int32) (x5 : Int32) (x6 : Int32) : Option (Hp) :=
    K53 h x1 x3 x4 x5 (x6 + 1)
def f_X8_givePier_112 (K53 : Hp → Int32 → Int32 → Int32 → Int32 → Int32 → Option (Hp)) (h : Hp) (x1 : Int32) (x3 : Int32) (x4 : Int32) (x5 : Int32) (x6 : Int32) (t1 : Int32) (t2 : Int32) (t3 : Int32) : Option (Hp) :=
    (f_X8_more h t1 t2 t3).bind (fun q1 =>
      f_X8_givePier_115 K53 q1 x1 x3 x4 x5 x6)
def f_X8_givePier_53 : Nat → Hp → Int32 → Int32 → Int32 → Int32 → Int32 → Option (Hp)
  | 0 => fun _ _ _ _ _ _ => none
  | n + 1 => fun h x1 x3 x4 x5 x6 =>
    if (3 : Int32) ≤ x6 then
      some h
    else
      if ((x1 >>> (x6 &&& 31)) &&& (1 : Int32)) = 0 then
        f_X8_givePier_115 (f_X8_givePier_53 n) h x1 x3 x4 x5 x6
      else
        if x6 = x5 then
          (f_X8_depart h x6 x3).bind (fun q2 =>
            f_X8_givePier_115 (f_X8_givePier_53 n) q2 x1 x3 x4 x5 x6)
        else
          (f_X8_more h x6 (6 : Int32) (1 : Int32)).bind (fun q1 =>
            if x4 = 0 then
              f_X8_givePier_112 (f_X8_givePier_53 n) q1 x1 x3 x4 x5 x6 x6 (7 : Int32) (0 : Int32)
            else
              f_X8_givePier_112 (f_X8_givePier_53 n) q1 x1 x3 x4 x5 x6 x6 (7 : Int32) (1 : Int32))
theorem f_X8_givePier_53_s (n : Nat) (h : Hp) (x1 : Int32) (x3 : Int32) (x4 : Int32) (x5 : Int32) (x6 : Int32) : f_X8_givePier_53 (n + 1) h x1 x3 x4 x5 x6 =
    if (3 : Int32) ≤ x6 then
      some h
    else
      if ((x1 >>> (x6 &&& 31)) &&& (1 : Int32)) = 0 then
        f_X8_givePier_115 (f_X8_givePier_53 n) h x1 x3 x4 x5 x6
      else
        if x6 = x5 then
          (f_X8_depart h x6 x3).bind (fun q2 =>
            f_X8_givePier_115 (f_X8_givePier_53 n) q2 x1 x3 x4 x5 x6)
        else
          (f_X8_more h x6 (6 : Int32) (1 : Int32)).bind (fun q1 =>
            if x4 = 0 then
              f_X8_givePier_112 (f_X8_givePier_53 n) q1 x1 x3 x4 x5 x6 x6 (7 : Int32) (0 : Int32)
            else
              f_X8_givePier_112 (f_X8_givePier_53 n) q1 x1 x3 x4 x5 x6 x6 (7 : Int32) (1 : Int32)) := rfl
def f_X8_givePier_48 (h : Hp) (x1 : Int32) (x3 : Int32) (x4 : Int32) (t0 : Int32) : Option (Hp) :=
    f_X8_givePier_53 FU h x1 x3 x4 t0 (0 : Int32)
def f_X8_givePier_27 (h : Hp) (x1 : Int32) (x3 : Int32) (x4 : Int32) : Option (Hp) :=
    f_X8_givePier_48 h x1 x3 x4 (-5 : Int32)
def f_X8_givePier_17 (h : Hp) (x1 : Int32) (x2 : Int32) (x3 : Int32) (t0 : Int32) : Option (Hp) :=
    if x2 = 0 then
      if x1 = 0 then
        f_X8_givePier_27 h x1 x3 t0
      else
        if t0 = 0 then
          f_X8_givePier_48 h x1 x3 t0 (x1 / (2 : Int32))
        else
          (f_X8_draw h x1).bind (fun q1 =>
            f_X8_givePier_48 q1.2 x1 x3 t0 q1.1)
    else
      f_X8_givePier_27 h x1 x3 t0
def f_X8_givePier_16 (h : Hp) (x1 : Int32) (x2 : Int32) (x3 : Int32) : Option (Hp) :=
    f_X8_givePier_17 h x1 x2 x3 (0 : Int32)
def f_X8_givePier (h : Hp) (a1 : Int32) (a2 : Int32) (a3 : Int32) : Option (Hp) :=
    if a2 = 0 then
      (f_X8_bits h a1).bind (fun q1 =>
        if q1.1 ≤ (1 : Int32) then
          f_X8_givePier_16 q1.2 a1 a2 a3
        else
          f_X8_givePier_17 q1.2 a1 a2 a3 (1 : Int32))
    else
      f_X8_givePier_16 h a1 a2 a3
def f_X8_goOn_120 (K10 : Hp → Int32 → Int32 → Int32 → Int32 → Int32 → Option (Hp)) (h : Hp) (x1 : Int32) (x2 : Int32) (x3 : Int32) (x4 : Int32) (x5 : Int32) : Option (Hp) :=
    K10 h x1 x2 x3 x4 (x5 + 1)
def f_X8_goOn_41 (K10 : Hp → Int32 → Int32 → Int32 → Int32 → Int32 → Option (Hp)) (h : Hp) (x1 : Int32) (x2 : Int32) (x3 : Int32) (x4 : Int32) (x5 : Int32) : Option (Hp) :=
    (f_X8_wants h x5 x1).bind (fun q1 =>
      if q1.1 = 0 then
        f_X8_goOn_120 K10 q1.2 x1 x2 x3 x4 x5
      else
        if inb (1 : Int32) 36 = true then
          (f_X8_isEnough q1.2 x5 (q1.2 1 (1 : Int32).toNatClampNeg) x1).bind (fun q2 =>
            if q2.1 = 0 then
              (f_X8_more q2.2 x5 (5 : Int32) (1 : Int32)).bind (fun q4 =>
                if inb x5 3 = true then
                  if inb x5 3 = true then
                    f_X8_goOn_120 K10 (hs q4 11 x5.toNatClampNeg ((q4 11 x5.toNatClampNeg) + (1 : Int32))) x1 x2 x3 x4 x5
                  else none
                else none)
            else
              (f_X8_isThere q2.2 x5 (0 : Int32) x1).bind (fun q3 =>
                if q3.1 = 0 then
                  f_X8_goOn_120 K10 q3.2 x1 x2 (x3 ||| ((1 : Int32) <<< (x5 &&& 31))) x4 x5
                else
                  f_X8_goOn_120 K10 q3.2 x1 (x2 ||| ((1 : Int32) <<< (x5 &&& 31))) x3 x4 x5))
        else none)
def f_X8_goOn_160 (h : Hp) (x1 : Int32) (t1 : Int32) (t2 : Int32) : Option (Hp) :=
    (f_X8_givePier h t1 t2 x1).bind (fun q1 =>
      some q1)
def f_X8_goOn_141 (h : Hp) (x1 : Int32) (x3 : Int32) (x4 : Int32) (t1 : Int32) (t2 : Int32) : Option (Hp) :=
    (f_X8_givePier h t1 t2 x1).bind (fun q1 =>
      if (x4 &&& (2 : Int32)) = (2 : Int32) then
        f_X8_goOn_160 q1 x1 x3 (1 : Int32)
      else
        f_X8_goOn_160 q1 x1 x3 (0 : Int32))
def f_X8_goOn_10 : Nat → Hp → Int32 → Int32 → Int32 → Int32 → Int32 → Option (Hp)
  | 0 => fun _ _ _ _ _ _ => none
  | n + 1 => fun h x1 x2 x3 x4 x5 =>
    if (3 : Int32) ≤ x5 then
      if (x4 &&& (1 : Int32)) = (1 : Int32) then
        f_X8_goOn_141 h x1 x3 x4 x2 (1 : Int32)
      else
        f_X8_goOn_141 h x1 x3 x4 x2 (0 : Int32)
    else
      if inb x5 3 = true then
        if (h 9 x5.toNatClampNeg) = x1 then
          if inb x5 3 = true then
            f_X8_goOn_41 (f_X8_goOn_10 n) h x1 x2 x3 (x4 ||| ((1 : Int32) <<< ((h 8 x5.toNatClampNeg) &&& 31))) x5
          else none
        else
          f_X8_goOn_41 (f_X8_goOn_10 n) h x1 x2 x3 x4 x5
      else none
theorem f_X8_goOn_10_s (n : Nat) (h : Hp) (x1 : Int32) (x2 : Int32) (x3 : Int32) (x4 : Int32) (x5 : Int32) : f_X8_goOn_10 (n + 1) h x1 x2 x3 x4 x5 =
    if (3 : Int32) ≤ x5 then
      if (x4 &&& (1 : Int32)) = (1 : Int32) then
        f_X8_goOn_141 h x1 x3 x4 x2 (1 : Int32)
      else
        f_X8_goOn_141 h x1 x3 x4 x2 (0 : Int32)
    else
      if inb x5 3 = true then
        if (h 9 x5.toNatClampNeg) = x1 then
          if inb x5 3 = true then
            f_X8_goOn_41 (f_X8_goOn_10 n) h x1 x2 x3 (x4 ||| ((1 : Int32) <<< ((h 8 x5.toNatClampNeg) &&& 31))) x5
          else none
        else
          f_X8_goOn_41 (f_X8_goOn_10 n) h x1 x2 x3 x4 x5
      else none := rfl
def f_X8_goOn (h : Hp) (a1 : Int32) : Option (Hp) :=
    f_X8_goOn_10 FU h a1 (0 : Int32) (0 : Int32) (0 : Int32) (0 : Int32)
def f_X8_learn_71 (K24 : Hp → Int32 → Int32 → Option (Hp)) (h : Hp) (x1 : Int32) (x2 : Int32) : Option (Hp) :=
    K24 h x1 (x2 + 1)
def f_X8_learn_24 : Nat → Hp → Int32 → Int32 → Option (Hp)
  | 0 => fun _ _ _ => none
  | n + 1 => fun h x1 x2 =>
    if (3 : Int32) ≤ x2 then
      if inb (1 : Int32) 36 = true then
        some (hs h 1 (1 : Int32).toNatClampNeg x1)
      else none
    else
      if inb x2 3 = true then
        if inb (4 : Int32) 36 = true then
          if (h 11 x2.toNatClampNeg) < (h 1 (4 : Int32).toNatClampNeg) then
            f_X8_learn_71 (f_X8_learn_24 n) h x1 x2
          else
            (f_X8_put h x2 (0 : Int32) x1).bind (fun q1 =>
              (f_X8_more q1 x2 (9 : Int32) (1 : Int32)).bind (fun q2 =>
                f_X8_learn_71 (f_X8_learn_24 n) (hs q2 0 15 ((q2 0 15) ||| ((1 : Int32) <<< (x2 &&& 31)))) x1 x2))
        else none
      else none
theorem f_X8_learn_24_s (n : Nat) (h : Hp) (x1 : Int32) (x2 : Int32) : f_X8_learn_24 (n + 1) h x1 x2 =
    if (3 : Int32) ≤ x2 then
      if inb (1 : Int32) 36 = true then
        some (hs h 1 (1 : Int32).toNatClampNeg x1)
      else none
    else
      if inb x2 3 = true then
        if inb (4 : Int32) 36 = true then
          if (h 11 x2.toNatClampNeg) < (h 1 (4 : Int32).toNatClampNeg) then
            f_X8_learn_71 (f_X8_learn_24 n) h x1 x2
          else
            (f_X8_put h x2 (0 : Int32) x1).bind (fun q1 =>
              (f_X8_more q1 x2 (9 : Int32) (1 : Int32)).bind (fun q2 =>
                f_X8_learn_71 (f_X8_learn_24 n) (hs q2 0 15 ((q2 0 15) ||| ((1 : Int32) <<< (x2 &&& 31)))) x1 x2))
        else none
      else none := rfl
def f_X8_learn (h : Hp) : Option (Hp) :=
    if inb (1 : Int32) 36 = true then
      if inb (3 : Int32) 36 = true then
        f_X8_learn_24 FU (hs h 0 15 (0 : Int32)) (((h 1 (1 : Int32).toNatClampNeg) + (h 1 (3 : Int32).toNatClampNeg)) - ((h 1 (1 : Int32).toNatClampNeg) + (h 1 (3 : Int32).toNatClampNeg)) / (12 : Int32) * (12 : Int32)) (0 : Int32)
      else none
    else none
def f_X8_sailDay_44 (K6 : Hp → Int32 → Option (Hp)) (h : Hp) (x1 : Int32) : Option (Hp) :=
    K6 h (x1 + 1)
def f_X8_sailDay_30 (K6 : Hp → Int32 → Option (Hp)) (h : Hp) (x1 : Int32) : Option (Hp) :=
    if inb x1 3 = true then
      if inb x1 3 = true then
        f_X8_sailDay_44 K6 (hs (hs h 10 x1.toNatClampNeg (0 : Int32)) 11 x1.toNatClampNeg (0 : Int32)) x1
      else none
    else none
def f_X8_sailDay_71 : Nat → Hp → Int32 → Option (Hp)
  | 0 => fun _ _ => none
  | n + 1 => fun h x1 =>
    if (3 : Int32) ≤ x1 then
      (f_X8_learn h).bind (fun q1 =>
        if inb (0 : Int32) 36 = true then
          if inb (0 : Int32) 36 = true then
            some (hs q1 1 (0 : Int32).toNatClampNeg ((q1 1 (0 : Int32).toNatClampNeg) + (1 : Int32)))
          else none
        else none)
    else
      if inb x1 3 = true then
        if inb x1 3 = true then
          (f_X8_more h x1 (8 : Int32) ((h 7 x1.toNatClampNeg) - (h 10 x1.toNatClampNeg))).bind (fun q2 =>
            f_X8_sailDay_71 n q2 (x1 + 1))
        else none
      else none
theorem f_X8_sailDay_71_s (n : Nat) (h : Hp) (x1 : Int32) : f_X8_sailDay_71 (n + 1) h x1 =
    if (3 : Int32) ≤ x1 then
      (f_X8_learn h).bind (fun q1 =>
        if inb (0 : Int32) 36 = true then
          if inb (0 : Int32) 36 = true then
            some (hs q1 1 (0 : Int32).toNatClampNeg ((q1 1 (0 : Int32).toNatClampNeg) + (1 : Int32)))
          else none
        else none)
    else
      if inb x1 3 = true then
        if inb x1 3 = true then
          (f_X8_more h x1 (8 : Int32) ((h 7 x1.toNatClampNeg) - (h 10 x1.toNatClampNeg))).bind (fun q2 =>
            f_X8_sailDay_71 n q2 (x1 + 1))
        else none
      else none := rfl
def f_X8_sailDay_52 : Nat → Hp → Int32 → Option (Hp)
  | 0 => fun _ _ => none
  | n + 1 => fun h x1 =>
    if (24 : Int32) ≤ x1 then
      f_X8_sailDay_71 FU h (0 : Int32)
    else
      (f_X8_goOn h x1).bind (fun q1 =>
        f_X8_sailDay_52 n q1 (x1 + 1))
theorem f_X8_sailDay_52_s (n : Nat) (h : Hp) (x1 : Int32) : f_X8_sailDay_52 (n + 1) h x1 =
    if (24 : Int32) ≤ x1 then
      f_X8_sailDay_71 FU h (0 : Int32)
    else
      (f_X8_goOn h x1).bind (fun q1 =>
        f_X8_sailDay_52 n q1 (x1 + 1)) := rfl
def f_X8_sailDay_6 : Nat → Hp → Int32 → Option (Hp)
  | 0 => fun _ _ => none
  | n + 1 => fun h x1 =>
    if (3 : Int32) ≤ x1 then
      f_X8_sailDay_52 FU h (0 : Int32)
    else
      (f_X8_of h x1 (3 : Int32)).bind (fun q1 =>
        if inb x1 3 = true then
          if inb x1 3 = true then
            f_X8_sailDay_30 (f_X8_sailDay_6 n) (hs (hs q1.2 8 x1.toNatClampNeg q1.1) 9 x1.toNatClampNeg (-1 : Int32)) x1
          else none
        else none)
theorem f_X8_sailDay_6_s (n : Nat) (h : Hp) (x1 : Int32) : f_X8_sailDay_6 (n + 1) h x1 =
    if (3 : Int32) ≤ x1 then
      f_X8_sailDay_52 FU h (0 : Int32)
    else
      (f_X8_of h x1 (3 : Int32)).bind (fun q1 =>
        if inb x1 3 = true then
          if inb x1 3 = true then
            f_X8_sailDay_30 (f_X8_sailDay_6 n) (hs (hs q1.2 8 x1.toNatClampNeg q1.1) 9 x1.toNatClampNeg (-1 : Int32)) x1
          else none
        else none) := rfl
def f_X8_sailDay (h : Hp) : Option (Hp) :=
    (f_X8_printAll h).bind (fun q1 =>
      f_X8_sailDay_6 FU q1 (0 : Int32))
def f_X8_sail_42 : Nat → Hp → Int32 → Int32 → Int32 → Option (Int32 × Hp)
  | 0 => fun _ _ _ _ => none
  | n + 1 => fun h x1 x2 x3 =>
    if x1 ≤ x3 then
      (f_X8_sumOf h (4 : Int32)).bind (fun q1 =>
        some ((q1.1 - x2), q1.2))
    else
      (f_X8_sailDay h).bind (fun q2 =>
        f_X8_sail_42 n q2 x1 x2 (x3 + 1))
theorem f_X8_sail_42_s (n : Nat) (h : Hp) (x1 : Int32) (x2 : Int32) (x3 : Int32) : f_X8_sail_42 (n + 1) h x1 x2 x3 =
    if x1 ≤ x3 then
      (f_X8_sumOf h (4 : Int32)).bind (fun q1 =>
        some ((q1.1 - x2), q1.2))
    else
      (f_X8_sailDay h).bind (fun q2 =>
        f_X8_sail_42 n q2 x1 x2 (x3 + 1)) := rfl
def f_X8_sail (h : Hp) (a1 : Int32) : Option (Int32 × Hp) :=
    (f_X8_in h a1 (1 : Int32) (30 : Int32)).bind (fun q1 =>
      if q1.1 = 0 then
        some ((-2 : Int32), q1.2)
      else
        if inb (0 : Int32) 36 = true then
          if ((q1.2 1 (0 : Int32).toNatClampNeg) + a1) ≤ (9999 : Int32) then
            (f_X8_record q1.2).bind (fun q2 =>
              (f_X8_sumOf q2 (4 : Int32)).bind (fun q3 =>
                f_X8_sail_42 FU q3.2 a1 q3.1 (0 : Int32)))
          else
            some ((-3 : Int32), q1.2)
        else none)
def f_X8_type_32 (h : Hp) : Option (Int32 × Hp) :=
    some ((h 0 13), h)
def f_X8_type (h : Hp) (a1 : Int32) : Option (Int32 × Hp) :=
    if (h 0 13) = (60 : Int32) then
      some ((-3 : Int32), h)
    else
      if inb (h 0 13) 60 = true then
        f_X8_type_32 (hs (hs h 5 (h 0 13).toNatClampNeg a1) 0 13 (((hs h 5 (h 0 13).toNatClampNeg a1) 0 13) + (1 : Int32)))
      else none
def f_X8_clearText (h : Hp) : Option (Int32 × Hp) :=
    some ((h 0 13), (hs h 0 13 (0 : Int32)))
def f_X8_fault (h : Hp) : Option (Int32 × Hp) :=
    (f_X8_readAll h).bind (fun q1 =>
      if 0 ≤ q1.1 then
        some ((-5 : Int32), q1.2)
      else
        some (((-100 : Int32) - q1.1), q1.2))
def f_X8_undo_22 : Nat → Hp → Int32 → Option (Int32 × Hp)
  | 0 => fun _ _ => none
  | n + 1 => fun h x1 =>
    if (36 : Int32) ≤ x1 then
      some ((h 0 12), h)
    else
      if inb (((36 : Int32) * (h 0 12)) + x1) 144 = true then
        if inb x1 36 = true then
          f_X8_undo_22 n (hs h 1 x1.toNatClampNeg (h 4 (((36 : Int32) * (h 0 12)) + x1).toNatClampNeg)) (x1 + 1)
        else none
      else none
theorem f_X8_undo_22_s (n : Nat) (h : Hp) (x1 : Int32) : f_X8_undo_22 (n + 1) h x1 =
    if (36 : Int32) ≤ x1 then
      some ((h 0 12), h)
    else
      if inb (((36 : Int32) * (h 0 12)) + x1) 144 = true then
        if inb x1 36 = true then
          f_X8_undo_22 n (hs h 1 x1.toNatClampNeg (h 4 (((36 : Int32) * (h 0 12)) + x1).toNatClampNeg)) (x1 + 1)
        else none
      else none := rfl
def f_X8_undo (h : Hp) : Option (Int32 × Hp) :=
    if (h 0 12) = 0 then
      some ((-5 : Int32), h)
    else
      f_X8_undo_22 FU (hs h 0 12 ((h 0 12) - (1 : Int32))) (0 : Int32)
def f_X8_keep_31 (h : Hp) : Option (Int32 × Hp) :=
    if inb (0 : Int32) 36 = true then
      some ((h 1 (0 : Int32).toNatClampNeg), h)
    else none
def f_X8_keep_2 : Nat → Hp → Int32 → Option (Int32 × Hp)
  | 0 => fun _ _ => none
  | n + 1 => fun h x1 =>
    if (36 : Int32) ≤ x1 then
      f_X8_keep_31 (hs h 0 14 (1 : Int32))
    else
      if inb x1 36 = true then
        if inb x1 36 = true then
          f_X8_keep_2 n (hs h 2 x1.toNatClampNeg (h 1 x1.toNatClampNeg)) (x1 + 1)
        else none
      else none
theorem f_X8_keep_2_s (n : Nat) (h : Hp) (x1 : Int32) : f_X8_keep_2 (n + 1) h x1 =
    if (36 : Int32) ≤ x1 then
      f_X8_keep_31 (hs h 0 14 (1 : Int32))
    else
      if inb x1 36 = true then
        if inb x1 36 = true then
          f_X8_keep_2 n (hs h 2 x1.toNatClampNeg (h 1 x1.toNatClampNeg)) (x1 + 1)
        else none
      else none := rfl
def f_X8_keep (h : Hp) : Option (Int32 × Hp) :=
    f_X8_keep_2 FU h (0 : Int32)
def f_X8_restore_16 : Nat → Hp → Int32 → Option (Int32 × Hp)
  | 0 => fun _ _ => none
  | n + 1 => fun h x1 =>
    if (36 : Int32) ≤ x1 then
      if inb (0 : Int32) 36 = true then
        some ((h 1 (0 : Int32).toNatClampNeg), h)
      else none
    else
      if inb x1 36 = true then
        if inb x1 36 = true then
          f_X8_restore_16 n (hs h 1 x1.toNatClampNeg (h 2 x1.toNatClampNeg)) (x1 + 1)
        else none
      else none
theorem f_X8_restore_16_s (n : Nat) (h : Hp) (x1 : Int32) : f_X8_restore_16 (n + 1) h x1 =
    if (36 : Int32) ≤ x1 then
      if inb (0 : Int32) 36 = true then
        some ((h 1 (0 : Int32).toNatClampNeg), h)
      else none
    else
      if inb x1 36 = true then
        if inb x1 36 = true then
          f_X8_restore_16 n (hs h 1 x1.toNatClampNeg (h 2 x1.toNatClampNeg)) (x1 + 1)
        else none
      else none := rfl
def f_X8_restore (h : Hp) : Option (Int32 × Hp) :=
    if (h 0 14) = 0 then
      some ((-5 : Int32), h)
    else
      (f_X8_record h).bind (fun q1 =>
        f_X8_restore_16 FU q1 (0 : Int32))
def f_X8_captainOf (h : Hp) (a1 : Int32) (a2 : Int32) : Option (Int32 × Hp) :=
    (f_X8_isCaptain h a1).bind (fun q1 =>
      if q1.1 = 0 then
        some ((-1 : Int32), q1.2)
      else
        (f_X8_in q1.2 a2 (0 : Int32) (3 : Int32)).bind (fun q2 =>
          if q2.1 = 0 then
            if a2 = (4 : Int32) then
              (f_X8_print q2.2 a1).bind (fun q5 =>
                if inb a1 3 = true then
                  some ((q5 7 a1.toNatClampNeg), q5)
                else none)
            else
              (f_X8_in q2.2 a2 (5 : Int32) (10 : Int32)).bind (fun q3 =>
                if q3.1 = 0 then
                  some ((-2 : Int32), q3.2)
                else
                  (f_X8_of q3.2 a1 (((4 : Int32) + a2) - (5 : Int32))).bind (fun q4 =>
                    some (q4.1, q4.2)))
          else
            (f_X8_of q2.2 a1 a2).bind (fun q6 =>
              some (q6.1, q6.2))))
def f_X8_pierOf (h : Hp) (a1 : Int32) (a2 : Int32) : Option (Int32 × Hp) :=
    (f_X8_of h a1 (3 : Int32)).bind (fun q1 =>
      some (((q1.1 + a2) - (q1.1 + a2) / (2 : Int32) * (2 : Int32)), q1.2))
def f_X8_printed (h : Hp) (a1 : Int32) (a2 : Int32) (a3 : Int32) : Option (Int32 × Hp) :=
    (f_X8_isCaptain h a1).bind (fun q1 =>
      if q1.1 = 0 then
        some ((-1 : Int32), q1.2)
      else
        (f_X8_print q1.2 a1).bind (fun q2 =>
          if inb a1 3 = true then
            (f_X8_in q2 a2 (0 : Int32) ((q2 7 a1.toNatClampNeg) - (1 : Int32))).bind (fun q3 =>
              if q3.1 = 0 then
                some ((-1 : Int32), q3.2)
              else
                if a3 = 0 then
                  (f_X8_hourOf q3.2 a1 a2).bind (fun q5 =>
                    some (q5.1, q5.2))
                else
                  if a3 = (1 : Int32) then
                    (f_X8_pierOf q3.2 a1 a2).bind (fun q4 =>
                      some (q4.1, q4.2))
                  else
                    some ((-2 : Int32), q3.2))
          else none))
def f_X8_level_50 (h : Hp) (x2 : Int32) (t0 : Int32) : Option (Int32 × Hp) :=
    (f_X8_levelOf h t0 x2).bind (fun q1 =>
      some (q1.1, q1.2))
def f_X8_level (h : Hp) (a1 : Int32) (a2 : Int32) (a3 : Int32) : Option (Int32 × Hp) :=
    (f_X8_in h a1 (0 : Int32) (3 : Int32)).bind (fun q1 =>
      if q1.1 = 0 then
        some ((-1 : Int32), q1.2)
      else
        (f_X8_in q1.2 a2 (0 : Int32) (23 : Int32)).bind (fun q2 =>
          if q2.1 = 0 then
            some ((-1 : Int32), q2.2)
          else
            (f_X8_in q2.2 a3 (0 : Int32) (1 : Int32)).bind (fun q3 =>
              if q3.1 = 0 then
                some ((-2 : Int32), q3.2)
              else
                if a1 = (3 : Int32) then
                  if inb (1 : Int32) 36 = true then
                    f_X8_level_50 q3.2 a2 (q3.2 1 (1 : Int32).toNatClampNeg)
                  else none
                else
                  (f_X8_of q3.2 a1 (0 : Int32)).bind (fun q4 =>
                    f_X8_level_50 q4.2 a2 q4.1))))
def f_X8_usesPier_72 (K3 : Hp → Int32 → Int32 → Int32 → Int32 → Option (Int32 × Hp)) (h : Hp) (x1 : Int32) (x2 : Int32) (x3 : Int32) (x4 : Int32) (x5 : Int32) (t0 : Int32) : Option (Int32 × Hp) :=
    if x5 = 0 then
      if t0 = 0 then
        K3 h x1 x2 x3 (x4 + 1)
      else
        some ((1 : Int32), h)
    else
      some ((1 : Int32), h)
def f_X8_usesPier_71 (K3 : Hp → Int32 → Int32 → Int32 → Int32 → Option (Int32 × Hp)) (h : Hp) (x1 : Int32) (x2 : Int32) (x3 : Int32) (x4 : Int32) (x5 : Int32) : Option (Int32 × Hp) :=
    f_X8_usesPier_72 K3 h x1 x2 x3 x4 x5 (0 : Int32)
def f_X8_usesPier_41 (K3 : Hp → Int32 → Int32 → Int32 → Int32 → Option (Int32 × Hp)) (h : Hp) (x1 : Int32) (x2 : Int32) (x3 : Int32) (x4 : Int32) (t0 : Int32) : Option (Int32 × Hp) :=
    (f_X8_hourOf h x1 x4).bind (fun q1 =>
      if (q1.1 + (2 : Int32)) = x3 then
        (f_X8_pierOf q1.2 x1 x4).bind (fun q2 =>
          if q2.1 = x2 then
            f_X8_usesPier_71 K3 q2.2 x1 x2 x3 x4 t0
          else
            f_X8_usesPier_72 K3 q2.2 x1 x2 x3 x4 t0 (1 : Int32))
      else
        f_X8_usesPier_71 K3 q1.2 x1 x2 x3 x4 t0)
def f_X8_usesPier_40 (K3 : Hp → Int32 → Int32 → Int32 → Int32 → Option (Int32 × Hp)) (h : Hp) (x1 : Int32) (x2 : Int32) (x3 : Int32) (x4 : Int32) : Option (Int32 × Hp) :=
    f_X8_usesPier_41 K3 h x1 x2 x3 x4 (0 : Int32)
def f_X8_usesPier_3 : Nat → Hp → Int32 → Int32 → Int32 → Int32 → Option (Int32 × Hp)
  | 0 => fun _ _ _ _ _ => none
  | n + 1 => fun h x1 x2 x3 x4 =>
    if inb x1 3 = true then
      if (h 7 x1.toNatClampNeg) ≤ x4 then
        some ((0 : Int32), h)
      else
        (f_X8_hourOf h x1 x4).bind (fun q1 =>
          if q1.1 = x3 then
            (f_X8_pierOf q1.2 x1 x4).bind (fun q2 =>
              if q2.1 = x2 then
                f_X8_usesPier_41 (f_X8_usesPier_3 n) q2.2 x1 x2 x3 x4 (1 : Int32)
              else
                f_X8_usesPier_40 (f_X8_usesPier_3 n) q2.2 x1 x2 x3 x4)
          else
            f_X8_usesPier_40 (f_X8_usesPier_3 n) q1.2 x1 x2 x3 x4)
    else none
theorem f_X8_usesPier_3_s (n : Nat) (h : Hp) (x1 : Int32) (x2 : Int32) (x3 : Int32) (x4 : Int32) : f_X8_usesPier_3 (n + 1) h x1 x2 x3 x4 =
    if inb x1 3 = true then
      if (h 7 x1.toNatClampNeg) ≤ x4 then
        some ((0 : Int32), h)
      else
        (f_X8_hourOf h x1 x4).bind (fun q1 =>
          if q1.1 = x3 then
            (f_X8_pierOf q1.2 x1 x4).bind (fun q2 =>
              if q2.1 = x2 then
                f_X8_usesPier_41 (f_X8_usesPier_3 n) q2.2 x1 x2 x3 x4 (1 : Int32)
              else
                f_X8_usesPier_40 (f_X8_usesPier_3 n) q2.2 x1 x2 x3 x4)
          else
            f_X8_usesPier_40 (f_X8_usesPier_3 n) q1.2 x1 x2 x3 x4)
    else none := rfl
def f_X8_usesPier (h : Hp) (a1 : Int32) (a2 : Int32) (a3 : Int32) : Option (Int32 × Hp) :=
    f_X8_usesPier_3 FU h a1 a2 a3 (0 : Int32)
def f_X8_usesSet_31 (K5 : Hp → Int32 → Int32 → Int32 → Int32 → Option (Int32 × Hp)) (h : Hp) (x1 : Int32) (x2 : Int32) (x4 : Int32) (t0 : Int32) (t1 : Int32) : Option (Int32 × Hp) :=
    K5 h x1 x2 (t0 ||| t1) (x4 + 1)
def f_X8_usesSet_5 : Nat → Hp → Int32 → Int32 → Int32 → Int32 → Option (Int32 × Hp)
  | 0 => fun _ _ _ _ _ => none
  | n + 1 => fun h x1 x2 x3 x4 =>
    if (3 : Int32) ≤ x4 then
      some (x3, h)
    else
      (f_X8_usesPier h x4 x1 x2).bind (fun q1 =>
        if q1.1 = 0 then
          f_X8_usesSet_31 (f_X8_usesSet_5 n) q1.2 x1 x2 x4 x3 (0 : Int32)
        else
          f_X8_usesSet_31 (f_X8_usesSet_5 n) q1.2 x1 x2 x4 x3 ((1 : Int32) <<< (x4 &&& 31)))
theorem f_X8_usesSet_5_s (n : Nat) (h : Hp) (x1 : Int32) (x2 : Int32) (x3 : Int32) (x4 : Int32) : f_X8_usesSet_5 (n + 1) h x1 x2 x3 x4 =
    if (3 : Int32) ≤ x4 then
      some (x3, h)
    else
      (f_X8_usesPier h x4 x1 x2).bind (fun q1 =>
        if q1.1 = 0 then
          f_X8_usesSet_31 (f_X8_usesSet_5 n) q1.2 x1 x2 x4 x3 (0 : Int32)
        else
          f_X8_usesSet_31 (f_X8_usesSet_5 n) q1.2 x1 x2 x4 x3 ((1 : Int32) <<< (x4 &&& 31))) := rfl
def f_X8_usesSet (h : Hp) (a1 : Int32) (a2 : Int32) : Option (Int32 × Hp) :=
    f_X8_usesSet_5 FU h a1 a2 (0 : Int32) (0 : Int32)
def f_X8_uses (h : Hp) (a1 : Int32) (a2 : Int32) : Option (Int32 × Hp) :=
    (f_X8_in h a1 (0 : Int32) (1 : Int32)).bind (fun q1 =>
      if q1.1 = 0 then
        some ((-1 : Int32), q1.2)
      else
        (f_X8_in q1.2 a2 (0 : Int32) (23 : Int32)).bind (fun q2 =>
          if q2.1 = 0 then
            some ((-1 : Int32), q2.2)
          else
            (f_X8_printAll q2.2).bind (fun q3 =>
              (f_X8_usesSet q3 a1 a2).bind (fun q4 =>
                some (q4.1, q4.2)))))
def f_X8_clash_49 (K9 : Hp → Int32 → Int32 → Int32 → Option (Int32 × Hp)) (h : Hp) (x2 : Int32) (x4 : Int32) (x5 : Int32) (t0 : Int32) (t1 : Int32) : Option (Int32 × Hp) :=
    if 0 ≤ (t0 - t1) then
      K9 h x2 (t0 - t1) (x4 + 1)
    else
      if x2 = 0 then
        some ((x4 / (2 : Int32)), h)
      else
        if x2 = (1 : Int32) then
          some ((x4 - x4 / (2 : Int32) * (2 : Int32)), h)
        else
          if x2 = (2 : Int32) then
            some (x5, h)
          else
            some ((-2 : Int32), h)
def f_X8_clash_9 : Nat → Hp → Int32 → Int32 → Int32 → Option (Int32 × Hp)
  | 0 => fun _ _ _ _ => none
  | n + 1 => fun h x2 x3 x4 =>
    if (48 : Int32) ≤ x4 then
      some ((-1 : Int32), h)
    else
      if x3 < 0 then
        some ((-1 : Int32), h)
      else
        (f_X8_usesSet h (x4 - x4 / (2 : Int32) * (2 : Int32)) (x4 / (2 : Int32))).bind (fun q1 =>
          (f_X8_bits q1.2 q1.1).bind (fun q2 =>
            if q2.1 ≤ (1 : Int32) then
              f_X8_clash_49 (f_X8_clash_9 n) q2.2 x2 x4 q1.1 x3 (0 : Int32)
            else
              f_X8_clash_49 (f_X8_clash_9 n) q2.2 x2 x4 q1.1 x3 (1 : Int32)))
theorem f_X8_clash_9_s (n : Nat) (h : Hp) (x2 : Int32) (x3 : Int32) (x4 : Int32) : f_X8_clash_9 (n + 1) h x2 x3 x4 =
    if (48 : Int32) ≤ x4 then
      some ((-1 : Int32), h)
    else
      if x3 < 0 then
        some ((-1 : Int32), h)
      else
        (f_X8_usesSet h (x4 - x4 / (2 : Int32) * (2 : Int32)) (x4 / (2 : Int32))).bind (fun q1 =>
          (f_X8_bits q1.2 q1.1).bind (fun q2 =>
            if q2.1 ≤ (1 : Int32) then
              f_X8_clash_49 (f_X8_clash_9 n) q2.2 x2 x4 q1.1 x3 (0 : Int32)
            else
              f_X8_clash_49 (f_X8_clash_9 n) q2.2 x2 x4 q1.1 x3 (1 : Int32))) := rfl
def f_X8_clash (h : Hp) (a1 : Int32) (a2 : Int32) : Option (Int32 × Hp) :=
    (f_X8_printAll h).bind (fun q1 =>
      f_X8_clash_9 FU q1 a2 a1 (0 : Int32))
def f_X8_hours_89 (K29 : Hp → Int32 → Int32 → Int32 → Int32 → Int32 → Option (Int32 × Hp)) (h : Hp) (x1 : Int32) (x2 : Int32) (x3 : Int32) (x5 : Int32) (t0 : Int32) (t1 : Int32) : Option (Int32 × Hp) :=
    K29 h x1 x2 x3 (t0 ||| t1) (x5 + 1)
def f_X8_hours_61 (K29 : Hp → Int32 → Int32 → Int32 → Int32 → Int32 → Option (Int32 × Hp)) (h : Hp) (x1 : Int32) (x2 : Int32) (x4 : Int32) (x5 : Int32) (t0 : Int32) (t1 : Int32) : Option (Int32 × Hp) :=
    if inb (1 : Int32) 36 = true then
      (f_X8_isEnough h x1 (h 1 (1 : Int32).toNatClampNeg) x5).bind (fun q1 =>
        if q1.1 = 0 then
          f_X8_hours_89 K29 q1.2 x1 x2 (t0 ||| t1) x5 x4 (0 : Int32)
        else
          f_X8_hours_89 K29 q1.2 x1 x2 (t0 ||| t1) x5 x4 ((1 : Int32) <<< (x5 &&& 31)))
    else none
def f_X8_hours_29 : Nat → Hp → Int32 → Int32 → Int32 → Int32 → Int32 → Option (Int32 × Hp)
  | 0 => fun _ _ _ _ _ _ => none
  | n + 1 => fun h x1 x2 x3 x4 x5 =>
    if (24 : Int32) ≤ x5 then
      if x2 = 0 then
        some (x3, h)
      else
        if x2 = (1 : Int32) then
          some (x4, h)
        else
          some ((x3 ^^^ x4), h)
    else
      (f_X8_of h x1 (0 : Int32)).bind (fun q1 =>
        (f_X8_isEnough q1.2 x1 q1.1 x5).bind (fun q2 =>
          if q2.1 = 0 then
            f_X8_hours_61 (f_X8_hours_29 n) q2.2 x1 x2 x4 x5 x3 (0 : Int32)
          else
            f_X8_hours_61 (f_X8_hours_29 n) q2.2 x1 x2 x4 x5 x3 ((1 : Int32) <<< (x5 &&& 31))))
theorem f_X8_hours_29_s (n : Nat) (h : Hp) (x1 : Int32) (x2 : Int32) (x3 : Int32) (x4 : Int32) (x5 : Int32) : f_X8_hours_29 (n + 1) h x1 x2 x3 x4 x5 =
    if (24 : Int32) ≤ x5 then
      if x2 = 0 then
        some (x3, h)
      else
        if x2 = (1 : Int32) then
          some (x4, h)
        else
          some ((x3 ^^^ x4), h)
    else
      (f_X8_of h x1 (0 : Int32)).bind (fun q1 =>
        (f_X8_isEnough q1.2 x1 q1.1 x5).bind (fun q2 =>
          if q2.1 = 0 then
            f_X8_hours_61 (f_X8_hours_29 n) q2.2 x1 x2 x4 x5 x3 (0 : Int32)
          else
            f_X8_hours_61 (f_X8_hours_29 n) q2.2 x1 x2 x4 x5 x3 ((1 : Int32) <<< (x5 &&& 31)))) := rfl
def f_X8_hours (h : Hp) (a1 : Int32) (a2 : Int32) : Option (Int32 × Hp) :=
    (f_X8_isCaptain h a1).bind (fun q1 =>
      if q1.1 = 0 then
        some ((-1 : Int32), q1.2)
      else
        (f_X8_in q1.2 a2 (0 : Int32) (2 : Int32)).bind (fun q2 =>
          if q2.1 = 0 then
            some ((-2 : Int32), q2.2)
          else
            f_X8_hours_29 FU q2.2 a1 a2 (0 : Int32) (0 : Int32) (0 : Int32)))
def f_X8_clashes_33 (K4 : Hp → Int32 → Int32 → Option (Int32 × Hp)) (h : Hp) (x2 : Int32) (t0 : Int32) (t1 : Int32) : Option (Int32 × Hp) :=
    K4 h (t0 + t1) (x2 + 1)
def f_X8_clashes_4 : Nat → Hp → Int32 → Int32 → Option (Int32 × Hp)
  | 0 => fun _ _ _ => none
  | n + 1 => fun h x1 x2 =>
    if (48 : Int32) ≤ x2 then
      some (x1, h)
    else
      (f_X8_usesSet h (x2 - x2 / (2 : Int32) * (2 : Int32)) (x2 / (2 : Int32))).bind (fun q1 =>
        (f_X8_bits q1.2 q1.1).bind (fun q2 =>
          if q2.1 ≤ (1 : Int32) then
            f_X8_clashes_33 (f_X8_clashes_4 n) q2.2 x2 x1 (0 : Int32)
          else
            f_X8_clashes_33 (f_X8_clashes_4 n) q2.2 x2 x1 (1 : Int32)))
theorem f_X8_clashes_4_s (n : Nat) (h : Hp) (x1 : Int32) (x2 : Int32) : f_X8_clashes_4 (n + 1) h x1 x2 =
    if (48 : Int32) ≤ x2 then
      some (x1, h)
    else
      (f_X8_usesSet h (x2 - x2 / (2 : Int32) * (2 : Int32)) (x2 / (2 : Int32))).bind (fun q1 =>
        (f_X8_bits q1.2 q1.1).bind (fun q2 =>
          if q2.1 ≤ (1 : Int32) then
            f_X8_clashes_33 (f_X8_clashes_4 n) q2.2 x2 x1 (0 : Int32)
          else
            f_X8_clashes_33 (f_X8_clashes_4 n) q2.2 x2 x1 (1 : Int32))) := rfl
def f_X8_clashes (h : Hp) : Option (Int32 × Hp) :=
    f_X8_clashes_4 FU h (0 : Int32) (0 : Int32)
def f_X8_count_166 (h : Hp) (x1 : Int32) : Option (Int32 × Hp) :=
    if inb (((3 : Int32) + x1) - (12 : Int32)) 36 = true then
      some ((h 1 (((3 : Int32) + x1) - (12 : Int32)).toNatClampNeg), h)
    else none
def f_X8_count (h : Hp) (a1 : Int32) : Option (Int32 × Hp) :=
    (f_X8_printAll h).bind (fun q1 =>
      if a1 = 0 then
        if inb (0 : Int32) 36 = true then
          some ((q1 1 (0 : Int32).toNatClampNeg), q1)
        else none
      else
      if a1 = 1 then
        if inb (1 : Int32) 36 = true then
          some ((q1 1 (1 : Int32).toNatClampNeg), q1)
        else none
      else
      if a1 = 2 then
        if inb (2 : Int32) 36 = true then
          some ((q1 1 (2 : Int32).toNatClampNeg), q1)
        else none
      else
      if a1 = 3 then
        (f_X8_clashes q1).bind (fun q2 =>
          some (q2.1, q2.2))
      else
      if a1 = 4 then
        if inb (0 : Int32) 3 = true then
          if inb (1 : Int32) 3 = true then
            if inb (2 : Int32) 3 = true then
              some ((((q1 7 (0 : Int32).toNatClampNeg) + (q1 7 (1 : Int32).toNatClampNeg)) + (q1 7 (2 : Int32).toNatClampNeg)), q1)
            else none
          else none
        else none
      else
      if a1 = 5 then
        (f_X8_sumOf q1 (4 : Int32)).bind (fun q3 =>
          some (q3.1, q3.2))
      else
      if a1 = 6 then
        (f_X8_sumOf q1 (8 : Int32)).bind (fun q4 =>
          some (q4.1, q4.2))
      else
      if a1 = 7 then
        if inb (5 : Int32) 36 = true then
          some ((q1 1 (5 : Int32).toNatClampNeg), q1)
        else none
      else
      if a1 = 8 then
        (f_X8_sumOf q1 (5 : Int32)).bind (fun q5 =>
          some (q5.1, q5.2))
      else
      if a1 = 9 then
        (f_X8_sumOf q1 (6 : Int32)).bind (fun q6 =>
          some (q6.1, q6.2))
      else
      if a1 = 10 then
        some ((q1 0 12), q1)
      else
      if a1 = 11 then
        some ((q1 0 13), q1)
      else
      if a1 = 12 then
        f_X8_count_166 q1 a1
      else
      if a1 = 13 then
        f_X8_count_166 q1 a1
      else
      some ((-2 : Int32), q1))
def f_X8_made (h : Hp) : Option (UInt32 × Hp) :=
    (f_X8_sumOf h (4 : Int32)).bind (fun q1 =>
      (f_X8_sumOf q1.2 (8 : Int32)).bind (fun q2 =>
        if (q1.1 + q2.1) = 0 then
          some (FP.fconst1, q2.2)
        else
          (f_X8_sumOf q2.2 (4 : Int32)).bind (fun q3 =>
            if ¬ (q1.1 + q2.1) = 0 then
              some ((FP.fdiv (FP.i2f q3.1) (FP.i2f (q1.1 + q2.1))), q3.2)
            else none)))
def f_X8_lay_2 : Nat → Hp → Int32 → Option (Hp)
  | 0 => fun _ _ => none
  | n + 1 => fun h x1 =>
    if (36 : Int32) ≤ x1 then
      some h
    else
      if inb x1 36 = true then
        if inb x1 36 = true then
          f_X8_lay_2 n (hs h 3 x1.toNatClampNeg (h 1 x1.toNatClampNeg)) (x1 + 1)
        else none
      else none
theorem f_X8_lay_2_s (n : Nat) (h : Hp) (x1 : Int32) : f_X8_lay_2 (n + 1) h x1 =
    if (36 : Int32) ≤ x1 then
      some h
    else
      if inb x1 36 = true then
        if inb x1 36 = true then
          f_X8_lay_2 n (hs h 3 x1.toNatClampNeg (h 1 x1.toNatClampNeg)) (x1 + 1)
        else none
      else none := rfl
def f_X8_lay (h : Hp) : Option (Hp) :=
    f_X8_lay_2 FU h (0 : Int32)
def f_X8_told (h : Hp) (a1 : Int32) : Option (Int32 × Hp) :=
    if a1 = 0 then
      (f_X8_sumOf h (4 : Int32)).bind (fun q4 =>
        some (q4.1, q4.2))
    else
      if a1 = (1 : Int32) then
        (f_X8_sumOf h (8 : Int32)).bind (fun q3 =>
          some (q3.1, q3.2))
      else
        if a1 = (2 : Int32) then
          (f_X8_sumOf h (5 : Int32)).bind (fun q2 =>
            some (q2.1, q2.2))
        else
          if a1 = (3 : Int32) then
            (f_X8_sumOf h (6 : Int32)).bind (fun q1 =>
              some (q1.1, q1.2))
          else
            if inb (5 : Int32) 36 = true then
              some ((h 1 (5 : Int32).toNatClampNeg), h)
            else none
def f_X8_takeBack_2 : Nat → Hp → Int32 → Option (Hp)
  | 0 => fun _ _ => none
  | n + 1 => fun h x1 =>
    if (36 : Int32) ≤ x1 then
      some h
    else
      if inb x1 36 = true then
        if inb x1 36 = true then
          f_X8_takeBack_2 n (hs h 1 x1.toNatClampNeg (h 3 x1.toNatClampNeg)) (x1 + 1)
        else none
      else none
theorem f_X8_takeBack_2_s (n : Nat) (h : Hp) (x1 : Int32) : f_X8_takeBack_2 (n + 1) h x1 =
    if (36 : Int32) ≤ x1 then
      some h
    else
      if inb x1 36 = true then
        if inb x1 36 = true then
          f_X8_takeBack_2 n (hs h 1 x1.toNatClampNeg (h 3 x1.toNatClampNeg)) (x1 + 1)
        else none
      else none := rfl
def f_X8_takeBack (h : Hp) : Option (Hp) :=
    f_X8_takeBack_2 FU h (0 : Int32)
def f_X8_ifSailed_45 (h : Hp) (t0 : Int32) : Option (Int32 × Hp) :=
    (f_X8_takeBack h).bind (fun q1 =>
      some (t0, q1))
def f_X8_ifSailed (h : Hp) (a1 : Int32) : Option (Int32 × Hp) :=
    (f_X8_in h a1 (0 : Int32) (5 : Int32)).bind (fun q1 =>
      if q1.1 = 0 then
        some ((-2 : Int32), q1.2)
      else
        (f_X8_lay q1.2).bind (fun q2 =>
          (f_X8_told q2 a1).bind (fun q3 =>
            (f_X8_sailDay q3.2).bind (fun q4 =>
              if a1 = (5 : Int32) then
                f_X8_ifSailed_45 q4 (q4 0 15)
              else
                (f_X8_told q4 a1).bind (fun q5 =>
                  f_X8_ifSailed_45 q5.2 (q5.1 - q3.1))))))
def f_X8_bestHour_104 (K32 : Hp → Int32 → Int32 → Int32 → Int32 → Int32 → Int32 → Option (Int32 × Hp)) (h : Hp) (x1 : Int32) (x2 : Int32) (x3 : Int32) (x4 : Int32) (x5 : Int32) (x6 : Int32) : Option (Int32 × Hp) :=
    K32 h x1 x2 x3 x4 x5 (x6 + 1)
def f_X8_bestHour_89 (K32 : Hp → Int32 → Int32 → Int32 → Int32 → Int32 → Int32 → Option (Int32 × Hp)) (h : Hp) (x1 : Int32) (x2 : Int32) (x6 : Int32) (x7 : Int32) : Option (Int32 × Hp) :=
    if inb x1 3 = true then
      f_X8_bestHour_104 K32 h x1 x2 x6 x7 (h 7 x1.toNatClampNeg) x6
    else none
def f_X8_bestHour_32 : Nat → Hp → Int32 → Int32 → Int32 → Int32 → Int32 → Int32 → Option (Int32 × Hp)
  | 0 => fun _ _ _ _ _ _ _ => none
  | n + 1 => fun h x1 x2 x3 x4 x5 x6 =>
    if (24 : Int32) ≤ x6 then
      (f_X8_put h x1 (2 : Int32) x2).bind (fun q1 =>
        some (x3, q1))
    else
      (f_X8_put h x1 (2 : Int32) x6).bind (fun q2 =>
        (f_X8_print q2 x1).bind (fun q3 =>
          (f_X8_clashes q3).bind (fun q4 =>
            if x3 = (-5 : Int32) then
              f_X8_bestHour_89 (f_X8_bestHour_32 n) q4.2 x1 x2 x6 q4.1
            else
              if q4.1 < x4 then
                f_X8_bestHour_89 (f_X8_bestHour_32 n) q4.2 x1 x2 x6 q4.1
              else
                if q4.1 = x4 then
                  if inb x1 3 = true then
                    if (q4.2 7 x1.toNatClampNeg) ≤ x5 then
                      f_X8_bestHour_104 (f_X8_bestHour_32 n) q4.2 x1 x2 x3 x4 x5 x6
                    else
                      f_X8_bestHour_89 (f_X8_bestHour_32 n) q4.2 x1 x2 x6 q4.1
                  else none
                else
                  f_X8_bestHour_104 (f_X8_bestHour_32 n) q4.2 x1 x2 x3 x4 x5 x6)))
theorem f_X8_bestHour_32_s (n : Nat) (h : Hp) (x1 : Int32) (x2 : Int32) (x3 : Int32) (x4 : Int32) (x5 : Int32) (x6 : Int32) : f_X8_bestHour_32 (n + 1) h x1 x2 x3 x4 x5 x6 =
    if (24 : Int32) ≤ x6 then
      (f_X8_put h x1 (2 : Int32) x2).bind (fun q1 =>
        some (x3, q1))
    else
      (f_X8_put h x1 (2 : Int32) x6).bind (fun q2 =>
        (f_X8_print q2 x1).bind (fun q3 =>
          (f_X8_clashes q3).bind (fun q4 =>
            if x3 = (-5 : Int32) then
              f_X8_bestHour_89 (f_X8_bestHour_32 n) q4.2 x1 x2 x6 q4.1
            else
              if q4.1 < x4 then
                f_X8_bestHour_89 (f_X8_bestHour_32 n) q4.2 x1 x2 x6 q4.1
              else
                if q4.1 = x4 then
                  if inb x1 3 = true then
                    if (q4.2 7 x1.toNatClampNeg) ≤ x5 then
                      f_X8_bestHour_104 (f_X8_bestHour_32 n) q4.2 x1 x2 x3 x4 x5 x6
                    else
                      f_X8_bestHour_89 (f_X8_bestHour_32 n) q4.2 x1 x2 x6 q4.1
                  else none
                else
                  f_X8_bestHour_104 (f_X8_bestHour_32 n) q4.2 x1 x2 x3 x4 x5 x6))) := rfl
def f_X8_bestHour (h : Hp) (a1 : Int32) : Option (Int32 × Hp) :=
    (f_X8_isCaptain h a1).bind (fun q1 =>
      if q1.1 = 0 then
        some ((-1 : Int32), q1.2)
      else
        (f_X8_of q1.2 a1 (2 : Int32)).bind (fun q2 =>
          (f_X8_printAll q2.2).bind (fun q3 =>
            f_X8_bestHour_32 FU q3 a1 q2.1 (-5 : Int32) (0 : Int32) (0 : Int32) (0 : Int32))))
def f_X8_bestPhase_75 (K21 : Hp → Int32 → Int32 → Int32 → Int32 → Option (Int32 × Hp)) (h : Hp) (x1 : Int32) (x2 : Int32) (x3 : Int32) (x4 : Int32) : Option (Int32 × Hp) :=
    (f_X8_takeBack h).bind (fun q1 =>
      K21 q1 x1 x2 x3 (x4 + 1))
def f_X8_bestPhase_69 (K21 : Hp → Int32 → Int32 → Int32 → Int32 → Option (Int32 × Hp)) (h : Hp) (x1 : Int32) (x4 : Int32) (x6 : Int32) : Option (Int32 × Hp) :=
    f_X8_bestPhase_75 K21 h x1 x4 x6 x4
def f_X8_bestPhase_21 : Nat → Hp → Int32 → Int32 → Int32 → Int32 → Option (Int32 × Hp)
  | 0 => fun _ _ _ _ _ => none
  | n + 1 => fun h x1 x2 x3 x4 =>
    if (12 : Int32) ≤ x4 then
      some (x2, h)
    else
      (f_X8_put h x1 (0 : Int32) x4).bind (fun q1 =>
        (f_X8_sumOf q1 (4 : Int32)).bind (fun q2 =>
          (f_X8_sailDay q2.2).bind (fun q3 =>
            (f_X8_sumOf q3 (4 : Int32)).bind (fun q4 =>
              if x2 = (-5 : Int32) then
                f_X8_bestPhase_69 (f_X8_bestPhase_21 n) q4.2 x1 x4 (q4.1 - q2.1)
              else
                if (q4.1 - q2.1) ≤ x3 then
                  f_X8_bestPhase_75 (f_X8_bestPhase_21 n) q4.2 x1 x2 x3 x4
                else
                  f_X8_bestPhase_69 (f_X8_bestPhase_21 n) q4.2 x1 x4 (q4.1 - q2.1)))))
theorem f_X8_bestPhase_21_s (n : Nat) (h : Hp) (x1 : Int32) (x2 : Int32) (x3 : Int32) (x4 : Int32) : f_X8_bestPhase_21 (n + 1) h x1 x2 x3 x4 =
    if (12 : Int32) ≤ x4 then
      some (x2, h)
    else
      (f_X8_put h x1 (0 : Int32) x4).bind (fun q1 =>
        (f_X8_sumOf q1 (4 : Int32)).bind (fun q2 =>
          (f_X8_sailDay q2.2).bind (fun q3 =>
            (f_X8_sumOf q3 (4 : Int32)).bind (fun q4 =>
              if x2 = (-5 : Int32) then
                f_X8_bestPhase_69 (f_X8_bestPhase_21 n) q4.2 x1 x4 (q4.1 - q2.1)
              else
                if (q4.1 - q2.1) ≤ x3 then
                  f_X8_bestPhase_75 (f_X8_bestPhase_21 n) q4.2 x1 x2 x3 x4
                else
                  f_X8_bestPhase_69 (f_X8_bestPhase_21 n) q4.2 x1 x4 (q4.1 - q2.1))))) := rfl
def f_X8_bestPhase (h : Hp) (a1 : Int32) : Option (Int32 × Hp) :=
    (f_X8_isCaptain h a1).bind (fun q1 =>
      if q1.1 = 0 then
        some ((-1 : Int32), q1.2)
      else
        (f_X8_lay q1.2).bind (fun q2 =>
          f_X8_bestPhase_21 FU q2 a1 (-5 : Int32) (0 : Int32) (0 : Int32)))
