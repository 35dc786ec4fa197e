theorem C_whatOf {s : Nat → Int32} {ln i : Nat} (h : Hp) (hi : i < ln) : f_X0_whatOf h (s i) = some (match ltr s ln i with | none => -5 | some w => nI w, h) := by
  unfold f_X0_whatOf ltr isS
  rw [decide_eq_true hi]
  simp only [Bool.true_and, decide_eq_true_eq]
  by_cases e0 : s i = 112
  · rw [if_pos e0, e0]
    rfl
  · rw [if_neg e0]
    by_cases e1 : s i = 100
    · rw [if_pos e1, e1]
      rfl
    · rw [if_neg e1]
      by_cases e2 : s i = 102
      · rw [if_pos e2, e2]
        rfl
      · rw [if_neg e2]
        by_cases e3 : s i = 104
        · rw [if_pos e3, e3]
          rfl
        · rw [if_neg e3, if_neg e1, if_neg e2, if_neg e3, if_neg e0]
/-- a captain's digit is one sign long -/
theorem num02 {s : Nat → Int32} {ln i : Nat} : numAt s ln 0 2 i = if isD s ln i = true ∧ dgv s i < 3 then some (dgv s i, i + 1) else none := by
  unfold numAt
  by_cases e : nxt s ln (nI (48 + 0)) (nI (48 + min 2 9)) i = true
  · obtain ⟨d1, d2, d3, d4, d5⟩ := fst_true e (by decide)
    have hd : isD s ln i = true := nxt_of (by decide) d1 d5 (by omega) (by omega)
    rw [if_pos e, if_pos ⟨hd, by omega⟩]
    congr 1
    show numGo s ln 2 (59 + 1) (dgv s i) (i + 1) = _
    rw [numGo]
    by_cases hz : dgv s i = 0
    · rw [if_pos hz]
    · rw [if_neg hz]
      by_cases h2 : isD s ln (i + 1) = true
      · rw [if_pos h2, if_pos (by omega)]
      · rw [if_neg h2]
  · rw [if_neg e, if_neg]
    intro z
    obtain ⟨d1, d2, d3⟩ := isD_true z.1
    exact e (nxt_of (by decide) d1 d3 (by omega) (by have := z.2; omega))
