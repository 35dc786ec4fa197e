/-! the class's machine: its steps -/
/-- the machine stands at the place P, k parts begun, the trial's captains are T's -/
def CM (h0 : Hp) (ln : Nat) (T : Nat → Int32) (k P : Nat) (h : Hp) : Prop := h 37 1 = nI ln ∧ h 37 2 = nI k ∧ h 37 3 = nI P ∧ (∀ c, c < 3 → ∀ j, j < 10 → h (31 + 1 + 1 + c) j = T (6 + 10 * c + j)) ∧ ∀ a, a ≠ 37 → (a < 33 ∨ 36 ≤ a) → h a = h0 a
theorem CM_37 {h0 : Hp} {ln : Nat} {T : Nat → Int32} {k P : Nat} {h : Hp} (m : CM h0 ln T k P h) {j : Nat} (hj : j ≠ 1 ∧ j ≠ 2 ∧ j ≠ 3) (v : Int32) : CM h0 ln T k P (hs h 37 j v) := by
  obtain ⟨m1, m2, m3, m4, m5⟩ := m
  exact ⟨by rw [hs_j hj.1.symm]; exact m1, by rw [hs_j hj.2.1.symm]; exact m2, by rw [hs_j hj.2.2.symm]; exact m3, fun c hc j' hj' => by rw [hs_k (by omega)]; exact m4 c hc j' hj', fun a ha h2 => by rw [hs_r ha]; exact m5 a ha h2⟩
theorem CM_P {h0 : Hp} {ln : Nat} {T : Nat → Int32} {k P P' : Nat} {h : Hp} (m : CM h0 ln T k P h) : CM h0 ln T k P' (hs h 37 3 (nI P')) := by
  obtain ⟨m1, m2, m3, m4, m5⟩ := m
  exact ⟨by rw [hs_j (by decide)]; exact m1, by rw [hs_j (by decide)]; exact m2, hs_at _ _ _ _, fun c hc j' hj' => by rw [hs_k (by omega)]; exact m4 c hc j' hj', fun a ha h2 => by rw [hs_r ha]; exact m5 a ha h2⟩
theorem CM_k {h0 : Hp} {ln : Nat} {T : Nat → Int32} {k k' P : Nat} {h : Hp} (m : CM h0 ln T k P h) : CM h0 ln T k' P (hs h 37 2 (nI k')) := by
  obtain ⟨m1, m2, m3, m4, m5⟩ := m
  exact ⟨by rw [hs_j (by decide)]; exact m1, hs_at _ _ _ _, by rw [hs_j (by decide)]; exact m3, fun c hc j' hj' => by rw [hs_k (by omega)]; exact m4 c hc j' hj', fun a ha h2 => by rw [hs_r ha]; exact m5 a ha h2⟩
