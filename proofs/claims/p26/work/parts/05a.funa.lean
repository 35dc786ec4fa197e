def f_L_same_2 : Nat → Hp → Int32 → Option (Int32 × Hp)
  | 0 => fun _ _ => none
  | n + 1 => fun h x2 =>
    if (45 : Int32) ≤ x2 then
      some ((1 : Int32), h)
    else
      if inb x2 48 = true then
        if inb x2 48 = true then
          if (h 0 x2.toNatClampNeg) = (h 1 x2.toNatClampNeg) then
            f_L_same_2 n h (x2 + 1)
          else
            some ((0 : Int32), h)
        else none
      else none
theorem f_L_same_2_s (n : Nat) (h : Hp) (x2 : Int32) : f_L_same_2 (n + 1) h x2 =
    if (45 : Int32) ≤ x2 then
      some ((1 : Int32), h)
    else
      if inb x2 48 = true then
        if inb x2 48 = true then
          if (h 0 x2.toNatClampNeg) = (h 1 x2.toNatClampNeg) then
            f_L_same_2 n h (x2 + 1)
          else
            some ((0 : Int32), h)
        else none
      else none := rfl
def f_L_same (h : Hp) : Option (Int32 × Hp) :=
    f_L_same_2 FU h (0 : Int32)
