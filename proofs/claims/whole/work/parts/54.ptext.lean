/-! texts: the reference reads -/
def AT (g : Hp) (i : Nat) : Hp := hs g 0 11 (nI i)
theorem AT_AT (g : Hp) (i j : Nat) : hs (AT g i) 0 11 (nI j) = AT g j := by
  funext a b
  by_cases ha : a = 0
  · by_cases hb : b = 11
    · subst ha; subst hb; simp [AT, hs]
    · simp [AT, hs, hb]
  · simp [AT, hs, ha]
theorem AT_11 (g : Hp) (i : Nat) : AT g i 0 11 = nI i := hs_at _ _ _ _
theorem AT_o {g : Hp} {i j : Nat} (h : j ≠ 11) : AT g i 0 j = g 0 j := hs_j h
theorem AT_k {g : Hp} {i a : Nat} (h : a ≠ 0) : AT g i a = g a := hs_r h
/-- the text: signs s, ln of them -/
def TX (g : Hp) (s : Nat → Int32) (ln : Nat) : Prop := ln ≤ 60 ∧ g 0 13 = nI ln ∧ ∀ i, i < ln → g 5 i = s i
theorem AT_TX {g : Hp} {s : Nat → Int32} {ln i : Nat} (t : TX g s ln) : TX (AT g i) s ln :=
  ⟨t.1, by rw [AT_o (by decide)]; exact t.2.1, fun j hj => by rw [AT_k (by decide)]; exact t.2.2 j hj⟩
/-- is a sign between a and b next -/
def nxt (s : Nat → Int32) (ln : Nat) (a b : Int32) (i : Nat) : Bool := decide (i < ln) && (!decide (s i < a) && !decide (b < s i))
theorem M_isNext {g : Hp} {s : Nat → Int32} {ln i : Nat} (t : TX g s ln) (hi : i < 2 ^ 31) (a b : Int32) : f_X8_isNext (AT g i) a b = some (b2i (nxt s ln a b i), AT g i) := by
  unfold f_X8_isNext nxt
  obtain ⟨t1, t2, t3⟩ := t
  rw [AT_11, AT_o (by decide), t2]
  by_cases e : i < ln
  · rw [if_neg (fun z => by have := (le_iff (by omega) hi).mp z; omega), if_pos (inb_nI (by omega) (by decide)), nc hi, AT_k (by decide), t3 i e, M_in, ob_s, decide_eq_true e]
    simp only []
    by_cases e1 : s i < a
    · rw [if_pos e1, if_pos z00, decide_eq_true e1]
      rfl
    · rw [if_neg e1, decide_eq_false e1]
      by_cases e2 : b < s i
      · rw [if_pos e2, if_pos z00, decide_eq_true e2]
        rfl
      · rw [if_neg e2, if_neg n10, decide_eq_false e2]
        rfl
  · rw [if_pos ((le_iff (by omega) hi).mpr (by omega)), decide_eq_false e]
    rfl
def isS (s : Nat → Int32) (ln : Nat) (a : Int32) (i : Nat) : Bool := decide (i < ln) && decide (s i = a)
theorem nxt_self (s : Nat → Int32) (ln : Nat) (a : Int32) (i : Nat) : nxt s ln a a i = isS s ln a i := by
  unfold nxt isS
  congr 1
  by_cases e : s i = a
  · rw [e, decide_eq_false (Int32.lt_irrefl), decide_eq_true rfl]
    rfl
  · rw [decide_eq_false e]
    by_cases h : s i < a
    · rw [decide_eq_true h]
      rfl
    · have h2 : a < s i := by
        rcases Int32.lt_or_eq_of_le (Int32.not_lt.mp h) with q | q
        · exact q
        · exact absurd q.symm e
      rw [decide_eq_true h2]
      simp
theorem b2i_isb (b : Bool) : isb (b2i b) = true := by cases b <;> decide
theorem M_sign {g : Hp} {s : Nat → Int32} {ln i : Nat} (t : TX g s ln) (hi : i < 2 ^ 30) (a : Int32) : f_X8_sign (AT g i) a = some (b2i (isS s ln a i), AT g (if isS s ln a i = true then i + 1 else i)) := by
  unfold f_X8_sign f_X8_sign_21
  rw [M_isNext t (by omega), nxt_self, ob_s]
  simp only []
  rw [if_pos (b2i_isb _), if_pos (b2i_isb _), AT_11]
  cases isS s ln a i
  · rw [if_pos b2f, i_add0, AT_AT]
    rfl
  · rw [if_neg b2t, nI_1, AT_AT]
    rfl
/-- which letter -/
def ltr (s : Nat → Int32) (ln i : Nat) : Option Nat := if isS s ln 112 i = true then some 0 else if isS s ln 100 i = true then some 1 else if isS s ln 102 i = true then some 2 else if isS s ln 104 i = true then some 3 else none
theorem M_aboutOf {g : Hp} {s : Nat → Int32} {ln i : Nat} (t : TX g s ln) (hi : i < 2 ^ 30) : f_X8_aboutOf (AT g i) = some (match ltr s ln i with | none => (-5, AT g i) | some w => (nI w, AT g (i + 1))) := by
  unfold f_X8_aboutOf ltr
  rw [M_sign t hi, ob_s]
  simp only []
  cases isS s ln 112 i
  · simp only [Bool.false_eq_true, if_false]
    rw [if_pos b2f, M_sign t hi, ob_s]
    simp only []
    cases isS s ln 100 i
    · simp only [Bool.false_eq_true, if_false]
      rw [if_pos b2f, M_sign t hi, ob_s]
      simp only []
      cases isS s ln 102 i
      · simp only [Bool.false_eq_true, if_false]
        rw [if_pos b2f, M_sign t hi, ob_s]
        simp only []
        cases isS s ln 104 i
        · simp only [Bool.false_eq_true, if_false]
          rw [if_pos b2f]
        · simp only [if_true]
          rw [if_neg b2t]
          rfl
      · simp only [if_true]
        rw [if_neg b2t]
        rfl
    · simp only [if_true]
      rw [if_neg b2t]
      rfl
  · simp only [if_true]
    rw [if_neg b2t]
    rfl
