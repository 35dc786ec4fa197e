theorem C_whatOf {s : Nat → Int32} {ln i : Nat} (h : Hp) (hi : i < ln) : f_X0_whatOf h (s i) = some (match ltr s ln i with | none => -5 | some w => nI w, h) := by
  unfold f_X0_whatOf ltr isS
  rw [decide_eq_true hi]
  simp only [Bool.true_and, decide_eq_true_eq]
  by_cases e0 : s i = 112
  · rw [if_pos e0, e0]
    rfl
  · rw [if_neg e0]
    by_cases e1 : s i = 100
    · rw [if_pos e1, e1]
      rfl
    · rw [if_neg e1]
      by_cases e2 : s i = 102
      · rw [if_pos e2, e2]
        rfl
      · rw [if_neg e2]
        by_cases e3 : s i = 104
        · rw [if_pos e3, e3]
          rfl
        · rw [if_neg e3, if_neg e1, if_neg e2, if_neg e3, if_neg e0]
