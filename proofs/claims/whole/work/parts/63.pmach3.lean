/-! the class's machine: its steps -/
/-- the machine stands at the place P, k parts begun, the trial's captains are T's -/
def CM (h0 : Hp) (ln : Nat) (T : Nat → Int32) (k P : Nat) (h : Hp) : Prop := h 37 1 = nI ln ∧ h 37 2 = nI k ∧ h 37 3 = nI P ∧ (∀ c, c < 3 → ∀ j, j < 10 → h (31 + 1 + 1 + c) j = T (6 + 10 * c + j)) ∧ ∀ a, a ≠ 37 → (a < 33 ∨ 36 ≤ a) → h a = h0 a
theorem CM_37 {h0 : Hp} {ln : Nat} {T : Nat → Int32} {k P : Nat} {h : Hp} (m : CM h0 ln T k P h) {j : Nat} (hj : j ≠ 1 ∧ j ≠ 2 ∧ j ≠ 3) (v : Int32) : CM h0 ln T k P (hs h 37 j v) := by
  obtain ⟨m1, m2, m3, m4, m5⟩ := m
  exact ⟨by rw [hs_j hj.1.symm]; exact m1, by rw [hs_j hj.2.1.symm]; exact m2, by rw [hs_j hj.2.2.symm]; exact m3, fun c hc j' hj' => by rw [hs_k (by omega)]; exact m4 c hc j' hj', fun a ha h2 => by rw [hs_r ha]; exact m5 a ha h2⟩
theorem CM_P {h0 : Hp} {ln : Nat} {T : Nat → Int32} {k P P' : Nat} {h : Hp} (m : CM h0 ln T k P h) : CM h0 ln T k P' (hs h 37 3 (nI P')) := by
  obtain ⟨m1, m2, m3, m4, m5⟩ := m
  exact ⟨by rw [hs_j (by decide)]; exact m1, by rw [hs_j (by decide)]; exact m2, hs_at _ _ _ _, fun c hc j' hj' => by rw [hs_k (by omega)]; exact m4 c hc j' hj', fun a ha h2 => by rw [hs_r ha]; exact m5 a ha h2⟩
theorem CM_k {h0 : Hp} {ln : Nat} {T : Nat → Int32} {k k' P : Nat} {h : Hp} (m : CM h0 ln T k P h) : CM h0 ln T k' P (hs h 37 2 (nI k')) := by
  obtain ⟨m1, m2, m3, m4, m5⟩ := m
  exact ⟨by rw [hs_j (by decide)]; exact m1, hs_at _ _ _ _, by rw [hs_j (by decide)]; exact m3, fun c hc j' hj' => by rw [hs_k (by omega)]; exact m4 c hc j' hj', fun a ha h2 => by rw [hs_r ha]; exact m5 a ha h2⟩
theorem run_step {h0 : Hp} {s : Nat → Int32} {ln : Nat} {T : Nat → Int32} {k P i n : Nat} {h : Hp} (hs : ∀ i, i < ln → h0 38 i = s i) (hl : ln ≤ 60) (m : CM h0 ln T k P h) (hi : i < ln) : f_X0_readInto_12 31 (n + 1) h (nI i) = (f_X0_takes h 31 (s i)).bind (fun q => if q.1 = 0 then some (nI i, q.2) else f_X0_readInto_12 31 n q.2 (nI (i + 1))) := by
  rw [f_X0_readInto_12_s, m.1, if_neg (fun z => by have := (le_iff (by omega) (by omega)).mp z; omega), if_neg (fun (z : (60 : Int32) ≤ nI i) => by have := (le_iff (a := 60) (by decide) (by omega)).mp z; omega), if_pos (inb_nI (by omega) (by decide)), nc (by omega), m.2.2.2.2 38 (by decide) (by omega), hs i hi, nI_1]
theorem run_end {h0 : Hp} {ln : Nat} {T : Nat → Int32} {k P i n : Nat} {h : Hp} (hl : ln ≤ 60) (m : CM h0 ln T k P h) (hi : ln ≤ i) (hi2 : i < 1000) (hP : P < 5) : f_X0_readInto_12 31 (n + 1) h (nI i) = some (if P = 4 then -5 else nI ln, h) := by
  rw [f_X0_readInto_12_s, m.1, if_pos ((le_iff (by omega) (by omega)).mpr hi)]
  unfold f_X0_readInto_51
  rw [m.2.2.1, m.1]
  by_cases e : P = 4
  · rw [if_pos (show nI P = (4 : Int32) by rw [e]; rfl), if_pos e]
  · rw [if_neg (fun (z : nI P = (4 : Int32)) => e ((eq_iff (b := 4) (by omega) (by decide)).mp z)), if_neg e]
