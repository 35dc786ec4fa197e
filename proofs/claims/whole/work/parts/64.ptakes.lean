theorem takes0 {h0 : Hp} {s : Nat → Int32} {ln : Nat} {T : Nat → Int32} {k i : Nat} {h : Hp} (m : CM h0 ln T k 0 h) (hi : i < ln) : ∃ h', f_X0_takes h 31 (s i) = some (b2i (isD s ln i && decide (dgv s i < 3)), h') ∧ CM h0 ln T (k + 1) 1 h' ∧ (isD s ln i = true → h' 37 4 = nI (dgv s i)) := by
  unfold f_X0_takes
  rw [m.2.2.1, if_pos nz0]
  unfold f_X0_takesCaptain f_X0_takesCaptain_18
  rw [C_digitOf h hi, ob_s]
  simp only []
  rw [hs_j (show 2 ≠ 4 by decide), m.2.1, nI_1]
  have mm := CM_P (P' := 1) (CM_k (k' := k + 1) (CM_37 m (j := 4) (by decide) (if isD s ln i = true then nI (dgv s i) else -5)))
  refine ⟨_, ?_, mm, fun e => ?_⟩
  · rw [hs_j (show 4 ≠ 3 by decide), hs_j (show 4 ≠ 2 by decide), hs_at]
    by_cases e : isD s ln i = true
    · obtain ⟨d1, d2, d3⟩ := isD_true e
      rw [if_pos e, e]
      by_cases l : dgv s i < 3
      · rw [C_isCap_yes _ l, ob_s, decide_eq_true l]
        simp only []
        rw [if_pos isb_1, ob_s]
        simp only []
        rw [if_pos isb_1]
        rfl
      · rw [C_isCap_no _ (fun j hj z => by have := (eq_iff (by omega) (by omega)).mp z; omega), ob_s, decide_eq_false l]
        simp only []
        rw [if_pos isb_0, ob_s]
        simp only []
        rw [if_pos isb_0]
        rfl
    · rw [if_neg e, C_isCap_no _ (fun j hj z => nI_ne5 (by omega) z.symm), ob_s, show isD s ln i = false by simpa using e]
      simp only []
      rw [if_pos isb_0, ob_s]
      simp only []
      rw [if_pos isb_0]
      rfl
  · rw [hs_j (show 4 ≠ 3 by decide), hs_j (show 4 ≠ 2 by decide), hs_at, if_pos e]
