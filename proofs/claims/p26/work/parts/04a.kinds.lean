/-! WHICH CELL IS WHAT. The class: 0 the object; 1+5i the state i (0 now, 1 the snapshot, 2..5 the history's, 6 trial), its row of captains behind it, its three captains behind that; 36 the history; 37 the text, 38 its signs; 39 the board, 40 its timetables, 41 users, 42 44 46 timetables with their hours behind them; 48 the sailed day, 49 its ferries, 50 53 56 a ferry, its timetable, its hours. The reference: 0 the object, 1..11 its rows. -/
abbrev isX5 (k : Nat) : Prop := k < 36 ∧ k % 5 = 1
abbrev isaCap (k : Nat) : Prop := k < 36 ∧ k % 5 = 2
abbrev isX2 (k : Nat) : Prop := 3 ≤ k ∧ k < 36 ∧ (k % 5 = 3 ∨ k % 5 = 4 ∨ k % 5 = 0)
abbrev isX6 (k : Nat) : Prop := k = 42 ∨ k = 44 ∨ k = 46 ∨ k = 51 ∨ k = 54 ∨ k = 57
abbrev isaHr (k : Nat) : Prop := k = 43 ∨ k = 45 ∨ k = 47 ∨ k = 52 ∨ k = 55 ∨ k = 58
abbrev isX3 (k : Nat) : Prop := k = 50 ∨ k = 53 ∨ k = 56
abbrev hiOk (k : Nat) : Prop := k = 11 ∨ k = 16 ∨ k = 21 ∨ k = 26
def rfX7 (ad : Nat → Nat) : Nat → Option Nat := fun j => match j with
  | 0 => some (ad 1)
  | 1 => some (ad 6)
  | 3 => some (ad 36)
  | 5 => some (ad 37)
  | 6 => some (ad 31)
  | 7 => some (ad 39)
  | 8 => some (ad 48)
  | _ => none
def rf0 : Nat → Option Nat := fun _ => none
/-- one reference, in the slot 0 -/
def rf1 (a : Nat) : Nat → Option Nat := fun j => match j with
  | 0 => some a
  | _ => none
def rf2 (a b : Nat) : Nat → Option Nat := fun j => match j with
  | 0 => some a
  | _ => some b
def cEC (ids : Nat → ClassId) (ad : Nat → Nat) (k : Nat) (r : Nat → Int32) : va_E :=
  if k < 36 then
    if k = 0 then ob 7 (rfX7 ad) 9 r
    else if k % 5 = 1 then ob 5 (rf1 (ad (k + 1))) 7 r
    else if k % 5 = 2 then .inl (ids 2, 3, .inr (.inr (.inr (.inr (fun i => some (ad (k + 1 + i)))))))
    else ob 2 rf0 10 r
  else if k < 42 then
    if k = 36 then .inl (ids 4, 4, .inr (.inr (.inr (.inr (fun i => some (ad (11 + 5 * (r i).toNatClampNeg)))))))
    else if k = 37 then ob 0 (rf1 (ad 38)) 7 r
    else if k = 38 then .inl (ids 0, 60, .inl r)
    else if k = 39 then ob 1 (rf2 (ad 40) (ad 41)) 2 r
    else if k = 40 then .inl (ids 5, 3, .inr (.inr (.inr (.inr (fun i => some (ad (42 + 2 * i)))))))
    else .inl (ids 1, 48, .inl r)
  else if k = 42 ∨ k = 44 ∨ k = 46 ∨ k = 51 ∨ k = 54 ∨ k = 57 then ob 6 (rf1 (ad (k + 1))) 3 r
  else if k = 43 ∨ k = 45 ∨ k = 47 ∨ k = 52 ∨ k = 55 ∨ k = 58 then .inl (ids 1, 8, .inl r)
  else if k = 48 then ob 4 (rf1 (ad 49)) 3 r
  else if k = 49 then .inl (ids 3, 3, .inr (.inr (.inr (.inr (fun i => some (ad (50 + 3 * i)))))))
  else ob 3 (rf1 (ad (k + 1))) 11 r
def rfX8 (ad : Nat → Nat) : Nat → Option Nat := fun j => if j < 11 then some (ad (j + 1)) else none
def szM (k : Nat) : Nat := match k with
  | 1 => 36
  | 2 => 36
  | 3 => 36
  | 4 => 144
  | 5 => 60
  | 6 => 24
  | _ => 3
def cEM (ids : Nat → ClassId) (ad : Nat → Nat) (k : Nat) (r : Nat → Int32) : va_E := if k = 0 then ob 8 (rfX8 ad) 16 r else .inl (ids 1, szM k, .inl r)
section KINDS
variable {ids : Nat → ClassId} {ad : Nat → Nat} {k : Nat}
theorem cE_X7 (r : Nat → Int32) : cEC ids ad 0 r = ob 7 (rfX7 ad) 9 r := rfl
theorem cE_aSt (r : Nat → Int32) : cEC ids ad 36 r = .inl (ids 4, 4, .inr (.inr (.inr (.inr (fun i => some (ad (11 + 5 * (r i).toNatClampNeg))))))) := rfl
theorem cE_X0 (r : Nat → Int32) : cEC ids ad 37 r = ob 0 (rf1 (ad 38)) 7 r := rfl
theorem cE_aC (r : Nat → Int32) : cEC ids ad 38 r = .inl (ids 0, 60, .inl r) := rfl
theorem cE_X1 (r : Nat → Int32) : cEC ids ad 39 r = ob 1 (rf2 (ad 40) (ad 41)) 2 r := rfl
theorem cE_aTt (r : Nat → Int32) : cEC ids ad 40 r = .inl (ids 5, 3, .inr (.inr (.inr (.inr (fun i => some (ad (42 + 2 * i))))))) := rfl
theorem cE_aU (r : Nat → Int32) : cEC ids ad 41 r = .inl (ids 1, 48, .inl r) := rfl
theorem cE_X4 (r : Nat → Int32) : cEC ids ad 48 r = ob 4 (rf1 (ad 49)) 3 r := rfl
theorem cE_aFe (r : Nat → Int32) : cEC ids ad 49 r = .inl (ids 3, 3, .inr (.inr (.inr (.inr (fun i => some (ad (50 + 3 * i))))))) := rfl
theorem cE_X5 (hk : isX5 k) (r : Nat → Int32) : cEC ids ad k r = ob 5 (rf1 (ad (k + 1))) 7 r := by
  unfold cEC
  rw [if_pos hk.1, if_neg (by omega), if_pos hk.2]
theorem cE_aCap (hk : isaCap k) (r : Nat → Int32) : cEC ids ad k r = .inl (ids 2, 3, .inr (.inr (.inr (.inr (fun i => some (ad (k + 1 + i))))))) := by
  unfold cEC
  rw [if_pos hk.1, if_neg (by omega), if_neg (by omega), if_pos hk.2]
theorem cE_X2 (hk : isX2 k) (r : Nat → Int32) : cEC ids ad k r = ob 2 rf0 10 r := by
  unfold cEC
  rw [if_pos hk.2.1, if_neg (by omega), if_neg (by omega), if_neg (by omega)]
theorem cE_X6 (hk : isX6 k) (r : Nat → Int32) : cEC ids ad k r = ob 6 (rf1 (ad (k + 1))) 3 r := by
  unfold cEC
  rw [if_neg (by omega), if_neg (by omega), if_pos hk]
theorem cE_aHr (hk : isaHr k) (r : Nat → Int32) : cEC ids ad k r = .inl (ids 1, 8, .inl r) := by
  unfold cEC
  rw [if_neg (by omega), if_neg (by omega), if_neg (by omega), if_pos hk]
theorem cE_X3 (hk : isX3 k) (r : Nat → Int32) : cEC ids ad k r = ob 3 (rf1 (ad (k + 1))) 11 r := by
  unfold cEC
  rw [if_neg (by omega), if_neg (by omega), if_neg (by omega), if_neg (by omega), if_neg (by omega), if_neg (by omega)]
theorem cE_X8 (r : Nat → Int32) : cEM ids ad 0 r = ob 8 (rfX8 ad) 16 r := rfl
theorem cE_m1 (r : Nat → Int32) : cEM ids ad 1 r = .inl (ids 1, 36, .inl r) := rfl
theorem cE_m2 (r : Nat → Int32) : cEM ids ad 2 r = .inl (ids 1, 36, .inl r) := rfl
theorem cE_m3 (r : Nat → Int32) : cEM ids ad 3 r = .inl (ids 1, 36, .inl r) := rfl
theorem cE_m4 (r : Nat → Int32) : cEM ids ad 4 r = .inl (ids 1, 144, .inl r) := rfl
theorem cE_m5 (r : Nat → Int32) : cEM ids ad 5 r = .inl (ids 1, 60, .inl r) := rfl
theorem cE_m6 (r : Nat → Int32) : cEM ids ad 6 r = .inl (ids 1, 24, .inl r) := rfl
theorem cE_m7 (r : Nat → Int32) : cEM ids ad 7 r = .inl (ids 1, 3, .inl r) := rfl
theorem cE_m8 (r : Nat → Int32) : cEM ids ad 8 r = .inl (ids 1, 3, .inl r) := rfl
theorem cE_m9 (r : Nat → Int32) : cEM ids ad 9 r = .inl (ids 1, 3, .inl r) := rfl
theorem cE_m10 (r : Nat → Int32) : cEM ids ad 10 r = .inl (ids 1, 3, .inl r) := rfl
theorem cE_m11 (r : Nat → Int32) : cEM ids ad 11 r = .inl (ids 1, 3, .inl r) := rfl
end KINDS
theorem lt_X5 {k : Nat} (hk : isX5 k) : k < 59 := by omega
theorem lt_aCap {k : Nat} (hk : isaCap k) : k < 59 := by omega
theorem lt_X2 {k : Nat} (hk : isX2 k) : k < 59 := by omega
theorem lt_X6 {k : Nat} (hk : isX6 k) : k < 59 := by omega
theorem lt_aHr {k : Nat} (hk : isaHr k) : k < 59 := by omega
theorem lt_X3 {k : Nat} (hk : isX3 k) : k < 59 := by omega
theorem inb_nat {i : Int32} {n : Nat} (hg : inb i n = true) (hn : n < 2 ^ 31) : i.toNatClampNeg < n := by
  obtain ⟨j, hj, rfl⟩ := vp_in_of (inb_in hg) hn
  rw [nI_clamp (by omega)]
  exact hj
theorem cap_of {k : Nat} (hk : isX5 k) : isaCap (k + 1) := by omega
theorem hr_of {k : Nat} (hk : isX6 k) : isaHr (k + 1) := by omega
theorem tt_of {k : Nat} (hk : isX3 k) : isX6 (k + 1) := by omega
theorem cp_el {k : Nat} {i : Int32} (hk : isaCap k) (hg : inb i 3 = true) : isX2 (k + 1 + i.toNatClampNeg) := by
  have h := inb_nat hg (by decide)
  omega
theorem tt_el {i : Int32} (hg : inb i 3 = true) : isX6 (42 + 2 * i.toNatClampNeg) := by
  have h := inb_nat hg (by decide)
  omega
theorem fe_el {i : Int32} (hg : inb i 3 = true) : isX3 (50 + 3 * i.toNatClampNeg) := by
  have h := inb_nat hg (by decide)
  omega
theorem hi_el {u : Int32} (hg : inb u 4 = true) : isX5 (11 + 5 * u.toNatClampNeg) := by
  have h := inb_nat hg (by decide)
  omega
theorem pX5_1 : isX5 1 := by decide
theorem pX5_6 : isX5 6 := by decide
theorem pX5_31 : isX5 31 := by decide
/-- the four tables of the class -/
def sL0 : Nat → Int32 := fun j => if j = 1 then 1 else 0
def sG0 : Nat → Int32 := fun j => if j = 0 then 11 else if j = 1 then 6 else if j = 2 then 23 else 1
def sL1 : Nat → Int32 := fun j => if j = 1 then 1 else 0
def sG1 : Nat → Int32 := fun j => if j = 1 then 9 else 1
def f_within (N : Nat) (f g : Nat → Int32) (a1 a2 : Int32) : Int32 := if a1 < 0 then 0 else if Int32.ofNat N ≤ a1 then 0 else if a2 < f a1.toNatClampNeg then 0 else if g a1.toNatClampNeg < a2 then 0 else 1
def f_X7_isValueOfCaptain (h : Hp) (a1 a2 : Int32) : Option (Int32 × Hp) := some (f_within 4 sL0 sG0 a1 a2, h)
def f_X7_isValueOfSetting (h : Hp) (a1 a2 : Int32) : Option (Int32 × Hp) := some (f_within 2 sL1 sG1 a1 a2, h)
