/-! how the two sides belong together -/
def rng (x : Int32) (lo hi : Nat) : Prop := ∃ n : Nat, lo ≤ n ∧ n ≤ hi ∧ x = nI n
/-- a row that holds what a state may hold -/
def VR (r : Nat → Int32) : Prop := rng (r 1) 0 11 ∧ rng (r 2) 0 65536 ∧ rng (r 3) 0 1 ∧ rng (r 4) 1 9 ∧ (∀ c, c < 3 → rng (r (6 + 10 * c + 0)) 0 11 ∧ rng (r (6 + 10 * c + 1)) 1 6 ∧ rng (r (6 + 10 * c + 2)) 0 23 ∧ rng (r (6 + 10 * c + 3)) 0 1) ∧ ∃ dy : Nat, dy ≤ 9999 ∧ r 0 = nI dy ∧ ∀ c, c < 3 → ∃ md cn : Nat, r (6 + 10 * c + 4) = nI md ∧ r (6 + 10 * c + 8) = nI cn ∧ md + cn ≤ 8 * dy
theorem VR_congr {r r' : Nat → Int32} (h : VR r) (e : ∀ i, i < 36 → r' i = r i) : VR r' := by
  obtain ⟨h1, h2, h3, h4, h5, dy, d1, d2, d3⟩ := h
  refine ⟨by rw [e 1 (by omega)]; exact h1, by rw [e 2 (by omega)]; exact h2, by rw [e 3 (by omega)]; exact h3, by rw [e 4 (by omega)]; exact h4, fun c hc => ?_, dy, d1, by rw [e 0 (by omega)]; exact d2, fun c hc => ?_⟩
  · rw [e _ (by omega), e _ (by omega), e _ (by omega), e _ (by omega)]
    exact h5 c hc
  · rw [e _ (by omega), e _ (by omega)]
    exact d3 c hc
def SIM (h hm : Hp) : Prop :=
  (∀ i, i < 36 → rC h 1 i = hm 1 i) ∧ VR (hm 1) ∧
  (∃ z : Nat, z ≤ 1 ∧ h 0 2 = nI z ∧ hm 0 14 = nI z ∧ (z = 1 → (∀ i, i < 36 → rC h 6 i = hm 2 i) ∧ VR (hm 2))) ∧
  (∃ (kp : Nat) (pm : Nat → Nat), kp ≤ 4 ∧ h 0 4 = nI kp ∧ hm 0 12 = nI kp ∧ hiAt h pm ∧ ∀ q, q < kp → (∀ i, i < 36 → rC h (11 + 5 * pm q) i = hm 4 (36 * q + i)) ∧ VR (fun i => hm 4 (36 * q + i))) ∧
  ∃ ln : Nat, ln ≤ 60 ∧ h 37 1 = nI ln ∧ hm 0 13 = nI ln ∧ ∀ i, i < ln → h 38 i = hm 5 i
theorem rC_row {h h' : Hp} {k : Nat} (e : ∀ a, k ≤ a → a < k + 5 → h' a = h a) : ∀ i, i < 36 → rC h' k i = rC h k i :=
  rC_congr (fun j _ _ => by rw [e k (by omega) (by omega)]) (fun c hc j _ => by rw [e (k + 2 + c) (by omega) (by omega)])
/-- what only reads keeps it -/
theorem SIM_keep {h hm h' hm' : Hp} (s : SIM h hm) (e1 : ∀ a, a < 31 → h' a = h a) (e2 : h' 36 = h 36) (e3 : h' 37 1 = h 37 1) (e4 : h' 38 = h 38) (m0 : ∀ j, 12 ≤ j → j ≤ 14 → hm' 0 j = hm 0 j) (m1 : hm' 1 = hm 1) (m2 : hm' 2 = hm 2) (m4 : hm' 4 = hm 4) (m5 : hm' 5 = hm 5) : SIM h' hm' := by
  obtain ⟨s1, s2, ⟨z, z1, z2, z3, z4⟩, ⟨kp, pm, k1, k2, k3, k4, k5⟩, ln, l1, l2, l3, l4⟩ := s
  refine ⟨fun i hi => ?_, by rw [m1]; exact s2, ⟨z, z1, by rw [e1 0 (by omega)]; exact z2, by rw [m0 14 (by omega) (by omega)]; exact z3, fun hz => ?_⟩, ⟨kp, pm, k1, by rw [e1 0 (by omega)]; exact k2, by rw [m0 12 (by omega) (by omega)]; exact k3, ⟨fun j hj => by rw [e2]; exact k4.1 j hj, k4.2⟩, fun q hq => ?_⟩, ln, l1, by rw [e3]; exact l2, by rw [m0 13 (by omega) (by omega)]; exact l3, fun i hi => by rw [e4, m5]; exact l4 i hi⟩
  · rw [rC_row (fun a _ _ => e1 a (by omega)) i hi, m1]
    exact s1 i hi
  · rw [m2]
    exact ⟨fun i hi => by rw [rC_row (fun a _ _ => e1 a (by omega)) i hi]; exact (z4 hz).1 i hi, (z4 hz).2⟩
  · rw [m4]
    have hp := (k4.1 q (by omega)).1
    exact ⟨fun i hi => by rw [rC_row (fun a _ _ => e1 a (by omega)) i hi]; exact (k5 q hq).1 i hi, (k5 q hq).2⟩
/-- a new state now, all else as it was -/
theorem SIM_now {h hm h' hm' : Hp} (s : SIM h hm) (e0 : ∀ j, h' 0 j = h 0 j) (e1 : ∀ a, 6 ≤ a → a < 31 → h' a = h a) (e2 : h' 36 = h 36) (e3 : h' 37 1 = h 37 1) (e4 : h' 38 = h 38) (m0 : ∀ j, 12 ≤ j → j ≤ 14 → hm' 0 j = hm 0 j) (m1 : ∀ i, i < 36 → rC h' 1 i = hm' 1 i) (v1 : VR (hm' 1)) (m2 : hm' 2 = hm 2) (m4 : hm' 4 = hm 4) (m5 : hm' 5 = hm 5) : SIM h' hm' := by
  obtain ⟨s1, s2, ⟨z, z1, z2, z3, z4⟩, ⟨kp, pm, k1, k2, k3, k4, k5⟩, ln, l1, l2, l3, l4⟩ := s
  refine ⟨m1, v1, ⟨z, z1, by rw [e0]; exact z2, by rw [m0 14 (by omega) (by omega)]; exact z3, fun hz => ?_⟩, ⟨kp, pm, k1, by rw [e0]; exact k2, by rw [m0 12 (by omega) (by omega)]; exact k3, ⟨fun j hj => by rw [e2]; exact k4.1 j hj, k4.2⟩, fun q hq => ?_⟩, ln, l1, by rw [e3]; exact l2, by rw [m0 13 (by omega) (by omega)]; exact l3, fun i hi => by rw [e4, m5]; exact l4 i hi⟩
  · rw [m2]
    exact ⟨fun i hi => by rw [rC_row (fun a _ _ => e1 a (by omega) (by omega)) i hi]; exact (z4 hz).1 i hi, (z4 hz).2⟩
  · rw [m4]
    have hp := (k4.1 q (by omega)).1
    exact ⟨fun i hi => by rw [rC_row (fun a _ _ => e1 a (by omega) (by omega)) i hi]; exact (k5 q hq).1 i hi, (k5 q hq).2⟩
/-- both record -/
theorem REC {h hm : Hp} (s : SIM h hm) : ∃ h1 hm1, f_X7_record h = some h1 ∧ f_X8_record hm = some hm1 ∧ SIM h1 hm1 ∧ (∀ a, a ≠ 0 → a < 11 ∨ 31 ≤ a → a ≠ 36 → h1 a = h a) ∧ (∀ j, j ≠ 4 → h1 0 j = h 0 j) ∧ (∀ a, a ≠ 0 → a ≠ 4 → hm1 a = hm a) ∧ (∀ j, j ≠ 12 → hm1 0 j = hm 0 j) := by
  obtain ⟨s1, s2, ⟨z, z1, z2, z3, z4⟩, ⟨kp, pm, k1, k2, k3, k4, k5⟩, ln, l1, l2, l3, l4⟩ := s
  obtain ⟨h1, pm', e1, a1, a2, a3, a4, a5, a6⟩ := C_record k1 k2 k4
  obtain ⟨hm1, e2, b1, b2, b3, b4, b5⟩ := M_record k1 k3
  refine ⟨h1, hm1, e1, e2, ⟨fun i hi => ?_, by rw [b1 1 (by decide) (by decide)]; exact s2, ⟨z, z1, by rw [a3 2 (by decide)]; exact z2, by rw [b2 14 (by decide)]; exact z3, fun hz => ?_⟩, ⟨if kp = 4 then 4 else kp + 1, pm', by split <;> omega, a4, b3, a1, fun q hq => ?_⟩, ln, l1, by rw [a2 37 (by decide) (by omega) (by decide)]; exact l2, by rw [b2 13 (by decide)]; exact l3, fun i hi => by rw [a2 38 (by decide) (by omega) (by decide), b1 5 (by decide) (by decide)]; exact l4 i hi⟩, a2, a3, b1, b2⟩
  · rw [rC_row (fun a _ _ => a2 a (by omega) (by omega) (by omega)) i hi, b1 1 (by decide) (by decide)]
    exact s1 i hi
  · rw [b1 2 (by decide) (by decide)]
    exact ⟨fun i hi => by rw [rC_row (fun a _ _ => a2 a (by omega) (by omega) (by omega)) i hi]; exact (z4 hz).1 i hi, (z4 hz).2⟩
  · by_cases hk : kp = 4
    · subst hk
      simp only [if_true] at hq a5 a6 b4 b5
      by_cases hq3 : q < 3
      · have h5 := k5 (q + 1) (by omega)
        exact ⟨fun i hi => by rw [a5 q i hq3 hi, b4 q i hq3 hi]; exact h5.1 i hi, VR_congr h5.2 (fun i hi => b4 q i hq3 hi)⟩
      · have : q = 3 := by omega
        subst this
        exact ⟨fun i hi => by rw [a6 i hi, b5 i hi]; exact s1 i hi, VR_congr s2 (fun i hi => b5 i hi)⟩
    · simp only [if_neg hk] at hq a5 a6 b4 b5
      by_cases hqk : q < kp
      · have h5 := k5 q hqk
        exact ⟨fun i hi => by rw [a5 q i hqk hi, b4 q i hqk hi]; exact h5.1 i hi, VR_congr h5.2 (fun i hi => b4 q i hqk hi)⟩
      · have : q = kp := by omega
        subst this
        exact ⟨fun i hi => by rw [a6 i hi, b5 i hi]; exact s1 i hi, VR_congr s2 (fun i hi => b5 i hi)⟩
/-! arguments -/
theorem arg_rng (a : Int32) (n : Nat) (hn : n < 2 ^ 31) : (∃ j : Nat, j ≤ n ∧ a = nI j) ∨ a < 0 ∨ (¬ a < 0 ∧ nI n < a ∧ ∃ j : Nat, n < j ∧ j < 2 ^ 31 ∧ a = nI j) := by
  by_cases h0 : a < 0
  · exact Or.inr (Or.inl h0)
  · obtain ⟨j, hj, rfl⟩ := nI_of h0
    by_cases hjn : j ≤ n
    · exact Or.inl ⟨j, hjn, rfl⟩
    · exact Or.inr (Or.inr ⟨h0, (lt_iff hn hj).mpr (by omega), j, by omega, hj, rfl⟩)
theorem C_isCap (h : Hp) (a : Int32) : f_X7_isCaptain h a = some (if a < 0 then 0 else if (3 : Int32) ≤ a then 0 else 1, h) := by
  unfold f_X7_isCaptain
  split
  · rfl
  · split <;> rfl
theorem M_in (h : Hp) (a x y : Int32) : f_X8_in h a x y = some (if a < x then 0 else if y < a then 0 else 1, h) := by
  unfold f_X8_in
  split
  · rfl
  · split <;> rfl
theorem M_isCap (h : Hp) (a : Int32) : f_X8_isCaptain h a = some (if a < 0 then 0 else if (2 : Int32) < a then 0 else 1, h) := by
  unfold f_X8_isCaptain
  rw [M_in, ob_s]
  simp only []
  rw [if_pos]
  unfold isb
  split
  · decide
  · split <;> decide
/-- a captain's number, or none on both sides -/
theorem cap_cases (h hm : Hp) (a : Int32) : (∃ c : Nat, c < 3 ∧ a = nI c ∧ f_X7_isCaptain h a = some (1, h) ∧ f_X8_isCaptain hm a = some (1, hm)) ∨ (f_X7_isCaptain h a = some (0, h) ∧ f_X8_isCaptain hm a = some (0, hm)) := by
  rw [C_isCap, M_isCap]
  rcases arg_rng a 2 (by decide) with ⟨j, hj, rfl⟩ | h0 | ⟨h0, h2, j, hj, hj2, rfl⟩
  · refine Or.inl ⟨j, by omega, rfl, ?_, ?_⟩
    · rw [if_neg (nI_pos (by omega)), L3, if_neg (fun z => by have := (le_iff (by decide) (by omega)).mp z; omega)]
    · rw [if_neg (nI_pos (by omega)), L2, if_neg (fun z => by have := (lt_iff (by decide) (by omega)).mp z; omega)]
  · exact Or.inr ⟨by rw [if_pos h0], by rw [if_pos h0]⟩
  · refine Or.inr ⟨?_, ?_⟩
    · rw [if_neg h0, L3, if_pos ((le_iff (by decide) hj2).mpr (by omega))]
    · rw [if_neg h0, L2, if_pos ((lt_iff (by decide) hj2).mpr (by omega))]
/-- the captain's numbers are where the reference has them -/
theorem cap_at {h hm : Hp} (s : SIM h hm) {c j : Nat} (hc : c < 3) (hj : j < 10) : h (3 + c) j = hm 1 (6 + 10 * c + j) := by
  have := s.1 (6 + 10 * c + j) (by omega)
  rw [rC_cap hj] at this
  rw [← this]
theorem low_at {h hm : Hp} (s : SIM h hm) {i : Nat} (hi : i < 6) : h 1 (sl i) = hm 1 i := by
  have := s.1 i (by omega)
  rwa [rC_low hi] at this
