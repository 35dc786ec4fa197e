/-! rows of 36 numbers: a state of the class as the reference has it -/
def sl (i : Nat) : Nat := match i with
  | 0 => 6
  | 1 => 3
  | 2 => 4
  | 3 => 1
  | 4 => 2
  | _ => 5
def rC (h : Hp) (k : Nat) (i : Nat) : Int32 := if i < 6 then h k (sl i) else h (k + 2 + (i - 6) / 10) ((i - 6) % 10)
theorem rC_cap {h : Hp} {k c j : Nat} (hj : j < 10) : rC h k (6 + 10 * c + j) = h (k + 2 + c) j := by
  unfold rC
  rw [if_neg (by omega), show (6 + 10 * c + j - 6) / 10 = c by omega, show (6 + 10 * c + j - 6) % 10 = j by omega]
theorem rC_low {h : Hp} {k i : Nat} (hi : i < 6) : rC h k i = h k (sl i) := by
  unfold rC
  rw [if_pos hi]
theorem rC_cases {P : Nat → Prop} (h1 : ∀ i, i < 6 → P i) (h2 : ∀ c, c < 3 → ∀ j, j < 10 → P (6 + 10 * c + j)) : ∀ i, i < 36 → P i := by
  intro i hi
  by_cases h6 : i < 6
  · exact h1 i h6
  · have := h2 ((i - 6) / 10) (by omega) ((i - 6) % 10) (Nat.mod_lt _ (by decide))
    rwa [show 6 + 10 * ((i - 6) / 10) + (i - 6) % 10 = i by omega] at this
theorem rC_congr {h h' : Hp} {k : Nat} (e0 : ∀ j, 1 ≤ j → j ≤ 6 → h' k j = h k j) (e1 : ∀ c, c < 3 → ∀ j, j < 10 → h' (k + 2 + c) j = h (k + 2 + c) j) : ∀ i, i < 36 → rC h' k i = rC h k i := by
  refine rC_cases (fun i hi => ?_) (fun c hc j hj => ?_)
  · rw [rC_low hi, rC_low hi]
    apply e0 <;> (rcases (show i = 0 ∨ i = 1 ∨ i = 2 ∨ i = 3 ∨ i = 4 ∨ i = 5 by omega) with rfl | rfl | rfl | rfl | rfl | rfl <;> decide)
  · rw [rC_cap hj, rC_cap hj, e1 c hc j hj]
theorem C2_copy (h : Hp) {k k1 : Nat} (hk : k1 ≠ k) : ∃ h', f_X2_copyFrom h k k1 = some h' ∧ (∀ a, a ≠ k → h' a = h a) ∧ ∀ j, j < 10 → h' k j = h k1 j := by
  unfold f_X2_copyFrom f_X2_copyFrom_16 f_X2_copyFrom_32 f_X2_copyFrom_48 f_X2_copyFrom_64
  refine ⟨_, rfl, fun a ha => ?_, fun j hj => ?_⟩
  · funext b
    simp only [hs, ha, false_and, if_false]
  · rcases (show j = 0 ∨ j = 1 ∨ j = 2 ∨ j = 3 ∨ j = 4 ∨ j = 5 ∨ j = 6 ∨ j = 7 ∨ j = 8 ∨ j = 9 by omega) with rfl | rfl | rfl | rfl | rfl | rfl | rfl | rfl | rfl | rfl <;> simp [hs, hk]
theorem C5_copy (h : Hp) {k k1 : Nat} (hk : k + 5 ≤ k1 ∨ k1 + 5 ≤ k) : ∃ h', f_X5_copyFrom h k k1 = some h' ∧ (∀ a, a < k ∨ k + 5 ≤ a → h' a = h a) ∧ ∀ i, i < 36 → rC h' k i = rC h k1 i := by
  unfold f_X5_copyFrom
  rw [show FU = 196 + 1 + 1 + 1 + 1 from rfl]
  rw [f_X5_copyFrom_2_s, if_neg (by decide), if_pos (by decide), if_pos (by decide)]
  obtain ⟨ha, ea, a1, a2⟩ := C2_copy h (k := k + 1 + 1 + (0 : Int32).toNatClampNeg) (k1 := k1 + 1 + 1 + (0 : Int32).toNatClampNeg) (by omega)
  rw [ea, ob_s, f_X5_copyFrom_2_s, if_neg (by decide), if_pos (by decide), if_pos (by decide)]
  obtain ⟨hb, eb, b1, b2⟩ := C2_copy ha (k := k + 1 + 1 + (0 + 1 : Int32).toNatClampNeg) (k1 := k1 + 1 + 1 + (0 + 1 : Int32).toNatClampNeg) (by omega)
  rw [eb, ob_s, f_X5_copyFrom_2_s, if_neg (by decide), if_pos (by decide), if_pos (by decide)]
  obtain ⟨hc, ec, c1, c2⟩ := C2_copy hb (k := k + 1 + 1 + (0 + 1 + 1 : Int32).toNatClampNeg) (k1 := k1 + 1 + 1 + (0 + 1 + 1 : Int32).toNatClampNeg) (by omega)
  rw [ec, ob_s, f_X5_copyFrom_2_s, if_pos (by decide)]
  have z0 : (0 : Int32).toNatClampNeg = 0 := by decide
  have z1 : (0 + 1 : Int32).toNatClampNeg = 1 := by decide
  have z2 : (0 + 1 + 1 : Int32).toNatClampNeg = 2 := by decide
  rw [z0] at a1 a2
  rw [z1] at b1 b2
  rw [z2] at c1 c2
  unfold f_X5_copyFrom_44 f_X5_copyFrom_60
  have hk1 : k1 ≠ k := by omega
  refine ⟨_, rfl, fun a ha => ?_, ?_⟩
  · have hak : a ≠ k := by omega
    funext b
    simp only [hs, hak, false_and, if_false]
    rw [c1 a (by omega), b1 a (by omega), a1 a (by omega)]
  · refine rC_cases (fun i hi => ?_) (fun c hcc j hj => ?_)
    · rw [rC_low hi, rC_low hi]
      have e1 : ∀ j, hc k1 j = h k1 j := fun j => by rw [c1 k1 (by omega), b1 k1 (by omega), a1 k1 (by omega)]
      rcases (show i = 0 ∨ i = 1 ∨ i = 2 ∨ i = 3 ∨ i = 4 ∨ i = 5 by omega) with rfl | rfl | rfl | rfl | rfl | rfl <;> simp [sl, hs, hk1, e1]
    · rw [rC_cap hj, rC_cap hj]
      have hak : k + 2 + c ≠ k := by omega
      simp only [hs, hak, false_and, if_false]
      rcases (show c = 0 ∨ c = 1 ∨ c = 2 by omega) with rfl | rfl | rfl
      · rw [c1 _ (by omega), b1 _ (by omega), show k + 2 + 0 = k + 1 + 1 + 0 by omega, a2 j hj]
      · rw [c1 _ (by omega), show k + 2 + 1 = k + 1 + 1 + 1 by omega, b2 j hj, a1 _ (by omega)]
      · rw [show k + 2 + 2 = k + 1 + 1 + 2 by omega, c2 j hj, b1 _ (by omega), a1 _ (by omega)]
