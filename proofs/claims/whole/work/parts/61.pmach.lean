/-! the class's machine: signs -/
theorem C_digitOf {s : Nat → Int32} {ln i : Nat} (h : Hp) (hi : i < ln) : f_X0_digitOf h (s i) = some (if isD s ln i = true then nI (dgv s i) else -5, h) := by
  unfold f_X0_digitOf
  by_cases e : isD s ln i = true
  · obtain ⟨d1, d2, d3⟩ := isD_true e
    rw [if_pos e, d3, if_neg (fun (z : nI (48 + dgv s i) < (48 : Int32)) => by have := (lt_iff (b := 48) (by omega) (by decide)).mp z; omega), if_neg (fun (z : (57 : Int32) < nI (48 + dgv s i)) => by have := (lt_iff (a := 57) (by decide) (by omega)).mp z; omega), show nI (48 + dgv s i) - (48 : Int32) = nI (dgv s i) by rw [← nI_add 48]; exact i_cancel _ _]
  · rw [if_neg e]
    by_cases e1 : s i < 48
    · rw [if_pos e1]
    · rw [if_neg e1]
      by_cases e2 : (57 : Int32) < s i
      · rw [if_pos e2]
      · exfalso
        apply e
        unfold isD nxt
        rw [decide_eq_true hi, show decide (s i < nI 48) = false from decide_eq_false e1, show decide (nI 57 < s i) = false from decide_eq_false e2]
        rfl
/-- behind a number no digit may follow that it could take -/
theorem numGo_stuck {s : Nat → Int32} {ln hi : Nat} : ∀ (n v i : Nat), ln ≤ i + n → isD s ln (numGo s ln hi n v i).2 = true → (numGo s ln hi n v i).1 = 0 ∨ hi < 10 * (numGo s ln hi n v i).1 + dgv s (numGo s ln hi n v i).2 := by
  intro n
  induction n with
  | zero =>
    intro v i h1 h2
    have := (isD_true h2).1
    exact absurd this (by show ¬ i < ln; omega)
  | succ n ih =>
    intro v i h1 h2
    rw [numGo] at h2 ⊢
    by_cases hz : v = 0
    · rw [if_pos hz]; exact Or.inl hz
    · rw [if_neg hz] at h2 ⊢
      by_cases hd : isD s ln i = true
      · rw [if_pos hd] at h2 ⊢
        by_cases l : hi < 10 * v + dgv s i
        · rw [if_pos l]; exact Or.inr l
        · rw [if_neg l] at h2 ⊢
          exact ih _ _ (by omega) h2
      · rw [if_neg hd] at h2
        exact absurd h2 hd
