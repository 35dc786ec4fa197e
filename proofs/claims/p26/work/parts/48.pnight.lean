/-! the evening -/
def les (r : Nat → Int32) (h : Hp) (c : Nat) : Bool := !decide (h (50 + 3 * c) 8 < r 4)
def nP (r : Nat → Int32) : Int32 := (r 1 + r 3) - (r 1 + r 3) / (12 : Int32) * (12 : Int32)
/-- the row of the next morning -/
def EV (r : Nat → Int32) (h : Hp) (x : Nat → Int32) : Prop := (x 0 = r 0 + 1 ∧ x 1 = nP r ∧ x 2 = h 48 1 ∧ x 3 = r 3 ∧ x 4 = r 4 ∧ x 5 = r 5 + h 48 2) ∧ ∀ c, c < 3 → x (6 + 10 * c + 0) = (if les r h c = true then nP r else r (6 + 10 * c + 0)) ∧ (∀ j, 1 ≤ j → j < 4 → x (6 + 10 * c + j) = r (6 + 10 * c + j)) ∧ x (6 + 10 * c + 4) = r (6 + 10 * c + 4) + h (50 + 3 * c) 7 ∧ x (6 + 10 * c + 5) = r (6 + 10 * c + 5) + h (50 + 3 * c) 8 ∧ x (6 + 10 * c + 6) = r (6 + 10 * c + 6) + h (50 + 3 * c) 9 ∧ x (6 + 10 * c + 7) = r (6 + 10 * c + 7) + h (50 + 3 * c) 10 ∧ x (6 + 10 * c + 8) = r (6 + 10 * c + 8) + (h (50 + 3 * c + 1) 1 - h (50 + 3 * c) 7) ∧ x (6 + 10 * c + 9) = r (6 + 10 * c + 9) + b2i (les r h c)
theorem EV_eq {r : Nat → Int32} {h : Hp} {x y : Nat → Int32} (e : EV r h x) (f : EV r h y) : ∀ i, i < 36 → x i = y i := by
  obtain ⟨⟨a0, a1, a2, a3, a4, a5⟩, a6⟩ := e
  obtain ⟨⟨b0, b1, b2, b3, b4, b5⟩, b6⟩ := f
  refine rC_cases (fun i hi => ?_) (fun c hc j hj => ?_)
  · rcases (show i = 0 ∨ i = 1 ∨ i = 2 ∨ i = 3 ∨ i = 4 ∨ i = 5 by omega) with rfl | rfl | rfl | rfl | rfl | rfl
    · rw [a0, b0]
    · rw [a1, b1]
    · rw [a2, b2]
    · rw [a3, b3]
    · rw [a4, b4]
    · rw [a5, b5]
  · obtain ⟨c0, c1, c4, c5, c6, c7, c8, c9⟩ := a6 c hc
    obtain ⟨d0, d1, d4, d5, d6, d7, d8, d9⟩ := b6 c hc
    rcases (show j = 0 ∨ (1 ≤ j ∧ j < 4) ∨ j = 4 ∨ j = 5 ∨ j = 6 ∨ j = 7 ∨ j = 8 ∨ j = 9 by omega) with rfl | ⟨x1, x2⟩ | rfl | rfl | rfl | rfl | rfl | rfl
    · rw [c0, d0]
    · rw [c1 j x1 x2, d1 j x1 x2]
    · rw [c4, d4]
    · rw [c5, d5]
    · rw [c6, d6]
    · rw [c7, d7]
    · rw [c8, d8]
    · rw [c9, d9]
def mE (h : Hp) (c : Nat) : Hp := hs h 1 (6 + 10 * c + 8) (h 1 (6 + 10 * c + 8) + (h 7 c - h 10 c))
theorem mE_8 (h : Hp) (c : Nat) : mE h c 1 (6 + 10 * c + 8) = h 1 (6 + 10 * c + 8) + (h 7 c - h 10 c) := hs_at _ _ _ _
theorem mE_o {h : Hp} {c j : Nat} (hj : j ≠ 6 + 10 * c + 8) : mE h c 1 j = h 1 j := hs_j hj
theorem mE_k {h : Hp} {c a : Nat} (ha : a ≠ 1) : mE h c a = h a := hs_r ha
def mL (h : Hp) (c : Nat) (x : Int32) (l : Bool) : Hp := if l = true then hs (hs (hs h 1 (6 + 10 * c + 0) x) 1 (6 + 10 * c + 9) (hs h 1 (6 + 10 * c + 0) x 1 (6 + 10 * c + 9) + 1)) 0 15 (hs (hs h 1 (6 + 10 * c + 0) x) 1 (6 + 10 * c + 9) (hs h 1 (6 + 10 * c + 0) x 1 (6 + 10 * c + 9) + 1) 0 15 ||| bt1 c) else h
theorem mL_0 (h : Hp) (c : Nat) (x : Int32) (l : Bool) : mL h c x l 1 (6 + 10 * c + 0) = if l = true then x else h 1 (6 + 10 * c + 0) := by cases l <;> simp [mL, hs]
theorem mL_9 (h : Hp) (c : Nat) (x : Int32) (l : Bool) : mL h c x l 1 (6 + 10 * c + 9) = h 1 (6 + 10 * c + 9) + b2i l := by cases l <;> simp [mL, hs, b2i]
theorem mL_1 {h : Hp} {c : Nat} {x : Int32} {l : Bool} {j : Nat} (h0 : j ≠ 6 + 10 * c + 0) (h9 : j ≠ 6 + 10 * c + 9) : mL h c x l 1 j = h 1 j := by
  have h0' : j ≠ 6 + 10 * c := h0
  cases l <;> simp [mL, hs, h0', h9]
theorem mL_15 (h : Hp) (c : Nat) (x : Int32) (l : Bool) : mL h c x l 0 15 = orI l c (h 0 15) := by cases l <;> simp [mL, hs, orI]
theorem mL_15o {h : Hp} {c : Nat} {x : Int32} {l : Bool} {j : Nat} (hj : j ≠ 15) : mL h c x l 0 j = h 0 j := by cases l <;> simp [mL, hs, hj]
theorem mL_k {h : Hp} {c : Nat} {x : Int32} {l : Bool} {a : Nat} (h0 : a ≠ 0) (h1 : a ≠ 1) : mL h c x l a = h a := by
  funext j
  cases l <;> simp [mL, hs, h0, h1]
def M3 (A : Hp) (x : Int32) (l : Nat → Bool) : Hp := mL (mL (mL A 0 x (l 0)) 1 x (l 1)) 2 x (l 2)
theorem M3_c (A : Hp) (x : Int32) (l : Nat → Bool) {c : Nat} (hc : c < 3) : M3 A x l 1 (6 + 10 * c + 0) = (if l c = true then x else A 1 (6 + 10 * c + 0)) ∧ M3 A x l 1 (6 + 10 * c + 9) = A 1 (6 + 10 * c + 9) + b2i (l c) ∧ ∀ j, 1 ≤ j → j < 9 → M3 A x l 1 (6 + 10 * c + j) = A 1 (6 + 10 * c + j) := by
  unfold M3
  rcases (show c = 0 ∨ c = 1 ∨ c = 2 by omega) with rfl | rfl | rfl
  · exact ⟨by rw [mL_1 (by omega) (by omega), mL_1 (by omega) (by omega), mL_0], by rw [mL_1 (by omega) (by omega), mL_1 (by omega) (by omega), mL_9], fun j h1 h2 => by rw [mL_1 (by omega) (by omega), mL_1 (by omega) (by omega), mL_1 (by omega) (by omega)]⟩
  · exact ⟨by rw [mL_1 (by omega) (by omega), mL_0, mL_1 (by omega) (by omega)], by rw [mL_1 (by omega) (by omega), mL_9, mL_1 (by omega) (by omega)], fun j h1 h2 => by rw [mL_1 (by omega) (by omega), mL_1 (by omega) (by omega), mL_1 (by omega) (by omega)]⟩
  · exact ⟨by rw [mL_0, mL_1 (by omega) (by omega), mL_1 (by omega) (by omega)], by rw [mL_9, mL_1 (by omega) (by omega), mL_1 (by omega) (by omega)], fun j h1 h2 => by rw [mL_1 (by omega) (by omega), mL_1 (by omega) (by omega), mL_1 (by omega) (by omega)]⟩
theorem M3_low (A : Hp) (x : Int32) (l : Nat → Bool) {j : Nat} (hj : j < 6) : M3 A x l 1 j = A 1 j := by
  unfold M3
  rw [mL_1 (by omega) (by omega), mL_1 (by omega) (by omega), mL_1 (by omega) (by omega)]
def E3 (h : Hp) : Hp := mE (mE (mE h 0) 1) 2
theorem E3_c (h : Hp) {c : Nat} (hc : c < 3) : E3 h 1 (6 + 10 * c + 8) = h 1 (6 + 10 * c + 8) + (h 7 c - h 10 c) ∧ ∀ j, j < 10 → j ≠ 8 → E3 h 1 (6 + 10 * c + j) = h 1 (6 + 10 * c + j) := by
  unfold E3
  refine ⟨?_, fun j h1 h2 => by rw [mE_o (by omega), mE_o (by omega), mE_o (by omega)]⟩
  rcases (show c = 0 ∨ c = 1 ∨ c = 2 by omega) with rfl | rfl | rfl
  · rw [mE_o (by omega), mE_o (by omega), mE_8]
  · rw [mE_o (by omega), mE_8, mE_o (by omega), mE_k (by decide), mE_k (by decide)]
  · rw [mE_8, mE_o (by omega), mE_o (by omega), mE_k (by decide), mE_k (by decide), mE_k (by decide), mE_k (by decide)]
theorem M_evening {r : Nat → Int32} {h0 hm0 h hm : Hp} (G : GR r 24 h0 hm0 h hm) : ∃ hmE, f_X8_sailDay_71 FU hm (0 : Int32) = some hmE ∧ EV r h (hmE 1) ∧ (∀ a, 2 ≤ a → a ≤ 5 → hmE a = hm0 a) ∧ (∀ j, j ≠ 15 → hmE 0 j = hm0 0 j) ∧ hmE 0 15 = US3 (les r h 0) (les r h 1) (les r h 2) := by
  obtain ⟨F, ⟨L, l1, l2, l3⟩, ⟨q5, q0, q1, q3, q4⟩, -, qm⟩ := G
  have stp : ∀ (n c : Nat) (g : Hp), c < 3 → f_X8_sailDay_71 (n + 1) g (nI c) = f_X8_sailDay_71 n (mE g c) (nI (c + 1)) := by
    intro n c g hc
    rw [f_X8_sailDay_71_s, if_neg (fun (z : (3 : Int32) ≤ nI c) => by have := (le_iff (a := 3) (by decide) (by omega)).mp z; omega), if_pos (inb_nI hc (by decide)), if_pos (inb_nI hc (by decide)), nc (by omega), show f_X8_more g (nI c) (8 : Int32) (g 7 c - g 10 c) = _ from M_more g hc (w := 8) (by decide) _, ob_s, nI_1]
    rfl
  have lst : ∀ (n c : Nat) (g : Hp) (x : Int32), c < 3 → f_X8_learn_24 (n + 1) g x (nI c) = f_X8_learn_24 n (mL g c x (!decide (g 11 c < g 1 4))) x (nI (c + 1)) := by
    intro n c g x hc
    rw [f_X8_learn_24_s, if_neg (fun (z : (3 : Int32) ≤ nI c) => by have := (le_iff (a := 3) (by decide) (by omega)).mp z; omega), if_pos (inb_nI hc (by decide)), if_pos (by decide), nc (by omega), show (4 : Int32).toNatClampNeg = 4 from rfl]
    unfold f_X8_learn_71
    by_cases e : g 11 c < g 1 4
    · rw [if_pos e, nI_1, decide_eq_true e]
      rfl
    · rw [if_neg e, show f_X8_put g (nI c) (0 : Int32) x = _ from M_put g hc (w := 0) (by decide) x, ob_s, show f_X8_more (hs g 1 (6 + 10 * c + 0) x) (nI c) (9 : Int32) (1 : Int32) = _ from M_more _ hc (w := 9) (by decide) 1, ob_s, nI_1, decide_eq_false e]
      rfl
  have hl : ∀ c, c < 3 → (!decide (hm 11 c < hm 1 4)) = les r h c := by
    intro c hc
    obtain ⟨-, ⟨g, -, g2, g3⟩, -⟩ := F c hc
    unfold les
    rw [g2, g3, q4]
  have e3low : ∀ j, j < 6 → E3 hm 1 j = hm 1 j := fun j hj => by
    unfold E3
    rw [mE_o (by omega), mE_o (by omega), mE_o (by omega)]
  have e3k : ∀ a, a ≠ 1 → E3 hm a = hm a := fun a ha => by
    unfold E3
    rw [mE_k ha, mE_k ha, mE_k ha]
  have hx : (E3 hm 1 1 + E3 hm 1 3) - (E3 hm 1 1 + E3 hm 1 3) / (12 : Int32) * (12 : Int32) = nP r := by
    rw [e3low 1 (by decide), e3low 3 (by decide), q1, q3]
    rfl
  have hlearn : f_X8_learn (E3 hm) = some (hs (M3 (hs (E3 hm) 0 15 0) (nP r) (les r h)) 1 1 (nP r)) := by
    unfold f_X8_learn
    rw [if_pos (by decide), if_pos (by decide), show (1 : Int32).toNatClampNeg = 1 from rfl, show (3 : Int32).toNatClampNeg = 3 from rfl, hx]
    have u : ∀ c, c < 3 → ∀ g : Hp, g 11 c = hm 11 c → g 1 4 = hm 1 4 → (!decide (g 11 c < g 1 4)) = les r h c := fun c hc g x1 x2 => by rw [x1, x2]; exact hl c hc
    show f_X8_learn_24 (196 + 1 + 1 + 1 + 1) (hs (E3 hm) 0 15 0) (nP r) (nI 0) = _
    rw [lst _ 0 _ _ (by decide), u 0 (by decide) _ (by rw [hs_k (by decide), e3k 11 (by decide)]) (by rw [hs_k (by decide), e3low 4 (by decide)]),
      lst _ (0 + 1) _ _ (by decide), u 1 (by decide) _ (by rw [mL_k (by decide) (by decide), hs_k (by decide), e3k 11 (by decide)]) (by rw [mL_1 (by decide) (by decide), hs_k (by decide), e3low 4 (by decide)]),
      lst _ (0 + 1 + 1) _ _ (by decide), u 2 (by decide) _ (by rw [mL_k (by decide) (by decide), mL_k (by decide) (by decide), hs_k (by decide), e3k 11 (by decide)]) (by rw [mL_1 (by decide) (by decide), mL_1 (by decide) (by decide), hs_k (by decide), e3low 4 (by decide)]),
      f_X8_learn_24_s, if_pos (by decide), if_pos (by decide)]
    rfl
  have h71 : f_X8_sailDay_71 FU hm (0 : Int32) = some (hs (hs (M3 (hs (E3 hm) 0 15 0) (nP r) (les r h)) 1 1 (nP r)) 1 0 (hs (M3 (hs (E3 hm) 0 15 0) (nP r) (les r h)) 1 1 (nP r) 1 0 + 1)) := by
    show f_X8_sailDay_71 (196 + 1 + 1 + 1 + 1) hm (nI 0) = _
    rw [stp _ 0 _ (by decide), stp _ (0 + 1) _ (by decide), stp _ (0 + 1 + 1) _ (by decide), f_X8_sailDay_71_s, if_pos (by decide), show mE (mE (mE hm 0) (0 + 1)) (0 + 1 + 1) = E3 hm from rfl, hlearn, ob_s, if_pos (by decide), if_pos (by decide)]
    rfl
  refine ⟨_, h71, ⟨⟨?_, ?_, ?_, ?_, ?_, ?_⟩, fun c hc => ?_⟩, fun a a2 a5 => ?_, fun j hj => ?_, ?_⟩
  · rw [hs_at, hs_j (by decide), M3_low _ _ _ (by decide), hs_k (by decide), e3low 0 (by decide), q0]
  · rw [hs_j (by decide), hs_at]
  · rw [hs_j (by decide), hs_j (by decide), M3_low _ _ _ (by decide), hs_k (by decide), e3low 2 (by decide), l3, l2]
  · rw [hs_j (by decide), hs_j (by decide), M3_low _ _ _ (by decide), hs_k (by decide), e3low 3 (by decide), q3]
  · rw [hs_j (by decide), hs_j (by decide), M3_low _ _ _ (by decide), hs_k (by decide), e3low 4 (by decide), q4]
  · rw [hs_j (by decide), hs_j (by decide), M3_low _ _ _ (by decide), hs_k (by decide), e3low 5 (by decide), q5]
  · obtain ⟨⟨t1, t2, t3, ⟨n, n1, n2, n3⟩, ⟨f4, f5, f6, f7⟩, f8⟩, -, -⟩ := F c hc
    obtain ⟨x0, x9, xo⟩ := M3_c (hs (E3 hm) 0 15 0) (nP r) (les r h) hc
    obtain ⟨y8, yo⟩ := E3_c hm hc
    have z : ∀ j, hs (hs (M3 (hs (E3 hm) 0 15 0) (nP r) (les r h)) 1 1 (nP r)) 1 0 (hs (M3 (hs (E3 hm) 0 15 0) (nP r) (les r h)) 1 1 (nP r) 1 0 + 1) 1 (6 + 10 * c + j) = M3 (hs (E3 hm) 0 15 0) (nP r) (les r h) 1 (6 + 10 * c + j) := fun j => by rw [hs_j (by omega), hs_j (by omega)]
    have w : ∀ j, hs (E3 hm) 0 15 0 1 j = E3 hm 1 j := fun j => hs_k (by decide)
    refine ⟨?_, fun j j1 j4 => ?_, ?_, ?_, ?_, ?_, ?_, ?_⟩
    · rw [z, x0, w, yo 0 (by decide) (by decide), f8 0 (by decide) (by decide)]
    · rw [z, xo j j1 (by omega), w, yo j (by omega) (by omega), f8 j (by omega) (by omega)]
    · rw [z, xo 4 (by decide) (by decide), w, yo 4 (by decide) (by decide), f4]
    · rw [z, xo 5 (by decide) (by decide), w, yo 5 (by decide) (by decide), f5]
    · rw [z, xo 6 (by decide) (by decide), w, yo 6 (by decide) (by decide), f6]
    · rw [z, xo 7 (by decide) (by decide), w, yo 7 (by decide) (by decide), f7]
    · rw [z, xo 8 (by decide) (by decide), w, y8, f8 8 (by decide) (by decide), t2.1, n3, ← t1.1, ← n2]
    · rw [z, x9, w, yo 9 (by decide) (by decide), f8 9 (by decide) (by decide)]
  · rw [hs_r (by omega), hs_r (by omega)]
    unfold M3
    rw [mL_k (by omega) (by omega), mL_k (by omega) (by omega), mL_k (by omega) (by omega), hs_r (by omega), e3k a (by omega)]
    exact qm a (by omega)
  · rw [hs_k (by decide), hs_k (by decide)]
    unfold M3
    rw [mL_15o hj, mL_15o hj, mL_15o hj, hs_j hj, e3k 0 (by decide), qm 0 (by omega)]
  · rw [hs_k (by decide), hs_k (by decide)]
    unfold M3
    rw [mL_15, mL_15, mL_15, hs_at]
    rfl
