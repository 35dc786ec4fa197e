/-! ifSailed, bestPhase -/
theorem tellN (h : Hp) {w j : Nat} (hj : w = 5 ∧ j = 7 ∨ w = 6 ∧ j = 8 ∨ w = 7 ∧ j = 9) : f_X4_sumOf h (nI w) = some (h (50 + 3 * 0) j + h (50 + 3 * 1) j + h (50 + 3 * 2) j, h) := by
  rcases hj with ⟨rfl, rfl⟩ | ⟨rfl, rfl⟩ | ⟨rfl, rfl⟩
  · exact C_sumF h (g := fun c => h (50 + 3 * c) 7) (fun c _ => rfl)
  · exact C_sumF h (g := fun c => h (50 + 3 * c) 8) (fun c _ => rfl)
  · exact C_sumF h (g := fun c => h (50 + 3 * c) 9) (fun c _ => rfl)
def lf (h : Hp) (c : Nat) : Int32 := h (50 + 3 * c + 1) 1 - h (50 + 3 * c) 7
theorem tell9 (h : Hp) : f_X4_sumOf h (9 : Int32) = some (lf h 0 + lf h 1 + lf h 2, h) := C_sumF h (g := lf h) (fun c _ => rfl)
theorem C_learners {h : Hp} {r : Nat → Int32} : f_X4_learners h (r 4) = some (US3 (les r h 0) (les r h 1) (les r h 2), h) := by
  have stp : ∀ (n c : Nat) (a : Int32), c < 3 → f_X4_learners_4 (n + 1) h (r 4) a (nI c) = f_X4_learners_4 n h (r 4) (orI (les r h c) c a) (nI (c + 1)) := by
    intro n c a hc
    rw [f_X4_learners_4_s, if_neg (fun (z : (3 : Int32) ≤ nI c) => by have := (le_iff (a := 3) (by decide) (by omega)).mp z; omega), if_pos (inb_nI hc (by decide)), nc (by omega)]
    unfold f_X3_isLesson f_X4_learners_28
    by_cases l : h (50 + 3 * c) 8 < r 4
    · have hl : les r h c = false := by unfold les; rw [decide_eq_true l]; rfl
      rw [if_pos l, ob_s, hl]
      simp only []
      rw [if_pos trivial, nI_1]
      rfl
    · have hl : les r h c = true := by unfold les; rw [decide_eq_false l]; rfl
      rw [if_neg l, ob_s, hl]
      simp only []
      rw [if_neg n10, nI_1]
      rfl
  unfold f_X4_learners
  show f_X4_learners_4 (196 + 1 + 1 + 1 + 1) h (r 4) (0 : Int32) (nI 0) = _
  rw [stp _ 0 _ (by decide), stp _ (0 + 1) _ (by decide), stp _ (0 + 1 + 1) _ (by decide), f_X4_learners_4_s, if_pos (by decide)]
  rfl
def tv (x : Nat → Int32) (w : Nat) : Int32 := if w = 0 then sJ x 4 else if w = 1 then sJ x 8 else if w = 2 then sJ x 5 else if w = 3 then sJ x 6 else x 5
/-- the day in the slot beside: nothing of the object stays -/
theorem dayBeside {h hm : Hp} {k1 : Nat} {r : Nat → Int32} (hk : k1 = 1 ∨ k1 = 31) (v : VR r) (hr : capsAt h k1 r) (h3 : h k1 3 = r 1) (h4 : h k1 4 = r 2) (e1 : hm 1 = r) : ∃ h1 hmE, f_X4_run h k1 = some h1 ∧ f_X8_sailDay hm = some hmE ∧ (∀ a, a < 48 → h1 a = h a) ∧ EV r h1 (hmE 1) ∧ (∀ a, 2 ≤ a → a ≤ 5 → hmE a = hm a) ∧ (∀ j, j ≠ 15 → hmE 0 j = hm 0 j) ∧ hmE 0 15 = US3 (les r h1 0) (les r h1 1) (les r h1 2) := by
  obtain ⟨h1, hm1, x1, x2, G⟩ := day hk v hr h3 h4 e1
  obtain ⟨hmE, y1, E1, m25, m0, m15⟩ := M_evening G
  exact ⟨h1, hmE, x1, x2.trans y1, G.2.2.2.1, E1, m25, m0, m15⟩
