/-! ifSailed, bestPhase -/
theorem tellN (h : Hp) {w j : Nat} (hj : w = 5 ∧ j = 7 ∨ w = 6 ∧ j = 8 ∨ w = 7 ∧ j = 9) : f_X4_sumOf h (nI w) = some (h (50 + 3 * 0) j + h (50 + 3 * 1) j + h (50 + 3 * 2) j, h) := by
  rcases hj with ⟨rfl, rfl⟩ | ⟨rfl, rfl⟩ | ⟨rfl, rfl⟩
  · exact C_sumF h (g := fun c => h (50 + 3 * c) 7) (fun c _ => rfl)
  · exact C_sumF h (g := fun c => h (50 + 3 * c) 8) (fun c _ => rfl)
  · exact C_sumF h (g := fun c => h (50 + 3 * c) 9) (fun c _ => rfl)
def lf (h : Hp) (c : Nat) : Int32 := h (50 + 3 * c + 1) 1 - h (50 + 3 * c) 7
theorem tell9 (h : Hp) : f_X4_sumOf h (9 : Int32) = some (lf h 0 + lf h 1 + lf h 2, h) := C_sumF h (g := lf h) (fun c _ => rfl)
theorem C_learners {h : Hp} {r : Nat → Int32} : f_X4_learners h (r 4) = some (US3 (les r h 0) (les r h 1) (les r h 2), h) := by
  have stp : ∀ (n c : Nat) (a : Int32), c < 3 → f_X4_learners_4 (n + 1) h (r 4) a (nI c) = f_X4_learners_4 n h (r 4) (orI (les r h c) c a) (nI (c + 1)) := by
    intro n c a hc
    rw [f_X4_learners_4_s, if_neg (fun (z : (3 : Int32) ≤ nI c) => by have := (le_iff (a := 3) (by decide) (by omega)).mp z; omega), if_pos (inb_nI hc (by decide)), nc (by omega)]
    unfold f_X3_isLesson f_X4_learners_28
    by_cases l : h (50 + 3 * c) 8 < r 4
    · have hl : les r h c = false := by unfold les; rw [decide_eq_true l]; rfl
      rw [if_pos l, ob_s, hl]
      simp only []
      rw [if_pos trivial, nI_1]
      rfl
    · have hl : les r h c = true := by unfold les; rw [decide_eq_false l]; rfl
      rw [if_neg l, ob_s, hl]
      simp only []
      rw [if_neg n10, nI_1]
      rfl
  unfold f_X4_learners
  show f_X4_learners_4 (196 + 1 + 1 + 1 + 1) h (r 4) (0 : Int32) (nI 0) = _
  rw [stp _ 0 _ (by decide), stp _ (0 + 1) _ (by decide), stp _ (0 + 1 + 1) _ (by decide), f_X4_learners_4_s, if_pos (by decide)]
  rfl
def tv (x : Nat → Int32) (w : Nat) : Int32 := if w = 0 then sJ x 4 else if w = 1 then sJ x 8 else if w = 2 then sJ x 5 else if w = 3 then sJ x 6 else x 5
theorem M_told (h : Hp) {w : Nat} (hw : w ≤ 5) : f_X8_told h (nI w) = some (tv (h 1) w, h) := by
  unfold f_X8_told tv
  have s4 : f_X8_sumOf h (4 : Int32) = _ := M_sumJ h (j := 4) (by decide)
  have s8 : f_X8_sumOf h (8 : Int32) = _ := M_sumJ h (j := 8) (by decide)
  have s5 : f_X8_sumOf h (5 : Int32) = _ := M_sumJ h (j := 5) (by decide)
  have s6 : f_X8_sumOf h (6 : Int32) = _ := M_sumJ h (j := 6) (by decide)
  rw [s4, s8, s5, s6]
  rcases (show w = 0 ∨ w = 1 ∨ w = 2 ∨ w = 3 ∨ w = 4 ∨ w = 5 by omega) with rfl | rfl | rfl | rfl | rfl | rfl <;> rfl
/-- the day in the slot beside: nothing of the object stays -/
theorem dayBeside {h hm : Hp} {k1 : Nat} {r : Nat → Int32} (hk : k1 = 1 ∨ k1 = 31) (v : VR r) (hr : capsAt h k1 r) (h3 : h k1 3 = r 1) (h4 : h k1 4 = r 2) (e1 : hm 1 = r) : ∃ h1 hmE, f_X4_run h k1 = some h1 ∧ f_X8_sailDay hm = some hmE ∧ (∀ a, a < 48 → h1 a = h a) ∧ EV r h1 (hmE 1) ∧ (∀ a, 2 ≤ a → a ≤ 5 → hmE a = hm a) ∧ (∀ j, j ≠ 15 → hmE 0 j = hm 0 j) ∧ hmE 0 15 = US3 (les r h1 0) (les r h1 1) (les r h1 2) := by
  obtain ⟨h1, hm1, x1, x2, G⟩ := day hk v hr h3 h4 e1
  obtain ⟨hmE, y1, E1, m25, m0, m15⟩ := M_evening G
  exact ⟨h1, hmE, x1, x2.trans y1, G.2.2.2.1, E1, m25, m0, m15⟩
theorem st_ifSailed : ST_20 SIM := by
  intro h hm s a1
  unfold f_X7_ifSailed f_X8_ifSailed
  obtain ⟨hA, f1, g1, g2⟩ := M_lay hm
  have v := s.2.1
  obtain ⟨h1, hmE, x1, x2, fr, E, m25, m0, m15⟩ := dayBeside (hm := hA) (k1 := 1) (Or.inl rfl) v (SIM_caps s) (low_at s (i := 1) (by decide)) (low_at s (i := 2) (by decide)) (g1 1 (by decide))
  obtain ⟨hmB, y1, b1, -, b2⟩ := M_back hmE
  have row : ∀ j, j < 36 → hmB 1 j = hm 1 j := fun j hj => by rw [b2 j hj, m25 3 (by decide) (by decide), g2 j hj]
  have sB : SIM h1 hmB := SIM_now s (fun j => by rw [fr 0 (by decide)]) (fun a h6 h31 => fr a (by omega)) (fr 36 (by decide)) (by rw [fr 37 (by decide)]) (fr 38 (by decide)) (fun j _ _ => by rw [b1 0 (by decide), m0 j (by omega), g1 0 (by decide)]) (fun i hi => by rw [row i hi, rC_row (fun a _ _ => fr a (by omega)) i hi]; exact s.1 i hi) (VR_congr v row) (by rw [b1 2 (by decide), m25 2 (by decide) (by decide), g1 2 (by decide)]) (by rw [b1 4 (by decide), m25 4 (by decide) (by decide), g1 4 (by decide)]) (by rw [b1 5 (by decide), m25 5 (by decide) (by decide), g1 5 (by decide)])
  have sC : SIM h1 hm := SIM_keep s (fun a ha => fr a (by omega)) (fr 36 (by decide)) (by rw [fr 37 (by decide)]) (fr 38 (by decide)) (fun _ _ _ => rfl) rfl rfl rfl rfl
  rw [x1, ob_s]
  rcases a_cases a1 5 (by decide) with ⟨w, hw, rfl⟩ | ⟨hn, -⟩
  · rw [show f_X8_in hm (nI w) (0 : Int32) (5 : Int32) = some (1, hm) from M_in_yes hm (lo := 0) (hi := 5) (by omega) hw (by decide), ob_s]
    simp only []
    rw [if_neg n10, f1, ob_s, M_told hA hw, ob_s]
    simp only []
    rw [x2, ob_s]
    unfold f_X8_ifSailed_45
    rw [M_told hmE hw, ob_s, y1, ob_s, ob_s, g1 1 (by decide)]
    have d4 : sJ (hmE 1) 4 - sJ (hm 1) 4 = md7 h1 0 + md7 h1 1 + md7 h1 2 := by
      rw [s_sum (g := md7 h1) (fun c hc => (E.2 c hc).2.2.1), i_cancel]
    have d8 : sJ (hmE 1) 8 - sJ (hm 1) 8 = lf h1 0 + lf h1 1 + lf h1 2 := by
      rw [s_sum (g := lf h1) (fun c hc => (E.2 c hc).2.2.2.2.2.2.1), i_cancel]
    have d5 : sJ (hmE 1) 5 - sJ (hm 1) 5 = h1 (50 + 3 * 0) 8 + h1 (50 + 3 * 1) 8 + h1 (50 + 3 * 2) 8 := by
      rw [s_sum (g := fun c => h1 (50 + 3 * c) 8) (fun c hc => (E.2 c hc).2.2.2.1), i_cancel]
    have d6 : sJ (hmE 1) 6 - sJ (hm 1) 6 = h1 (50 + 3 * 0) 9 + h1 (50 + 3 * 1) 9 + h1 (50 + 3 * 2) 9 := by
      rw [s_sum (g := fun c => h1 (50 + 3 * c) 9) (fun c hc => (E.2 c hc).2.2.2.2.1), i_cancel]
    have h12 : h1 1 2 = hm 1 4 := by rw [fr 1 (by decide)]; exact low_at s (i := 4) (by decide)
    rcases (show w = 0 ∨ w = 1 ∨ w = 2 ∨ w = 3 ∨ w = 4 ∨ w = 5 by omega) with rfl | rfl | rfl | rfl | rfl | rfl
    · rw [if_pos nz0, tell5, if_neg (show ¬ nI 0 = (5 : Int32) by decide)]
      exact ⟨_, _, _, rfl, by rw [show tv (hmE 1) 0 = sJ (hmE 1) 4 from rfl, show tv (hm 1) 0 = sJ (hm 1) 4 from rfl, d4], sB⟩
    · rw [if_neg (show ¬ nI 1 = (0 : Int32) by decide), if_pos (show nI 1 = (1 : Int32) by decide), tell9, if_neg (show ¬ nI 1 = (5 : Int32) by decide)]
      exact ⟨_, _, _, rfl, by rw [show tv (hmE 1) 1 = sJ (hmE 1) 8 from rfl, show tv (hm 1) 1 = sJ (hm 1) 8 from rfl, d8], sB⟩
    · rw [if_neg (show ¬ nI 2 = (0 : Int32) by decide), if_neg (show ¬ nI 2 = (1 : Int32) by decide), if_pos (show nI 2 = (2 : Int32) by decide), show f_X4_sumOf h1 (6 : Int32) = _ from tellN h1 (w := 6) (j := 8) (by decide), if_neg (show ¬ nI 2 = (5 : Int32) by decide)]
      exact ⟨_, _, _, rfl, by rw [show tv (hmE 1) 2 = sJ (hmE 1) 5 from rfl, show tv (hm 1) 2 = sJ (hm 1) 5 from rfl, d5], sB⟩
    · rw [if_neg (show ¬ nI 3 = (0 : Int32) by decide), if_neg (show ¬ nI 3 = (1 : Int32) by decide), if_neg (show ¬ nI 3 = (2 : Int32) by decide), if_pos (show nI 3 = (3 : Int32) by decide), show f_X4_sumOf h1 (7 : Int32) = _ from tellN h1 (w := 7) (j := 9) (by decide), if_neg (show ¬ nI 3 = (5 : Int32) by decide)]
      exact ⟨_, _, _, rfl, by rw [show tv (hmE 1) 3 = sJ (hmE 1) 6 from rfl, show tv (hm 1) 3 = sJ (hm 1) 6 from rfl, d6], sB⟩
    · rw [if_neg (show ¬ nI 4 = (0 : Int32) by decide), if_neg (show ¬ nI 4 = (1 : Int32) by decide), if_neg (show ¬ nI 4 = (2 : Int32) by decide), if_neg (show ¬ nI 4 = (3 : Int32) by decide), if_pos (show nI 4 = (4 : Int32) by decide), if_neg (show ¬ nI 4 = (5 : Int32) by decide)]
      exact ⟨_, _, _, rfl, by rw [show tv (hmE 1) 4 = hmE 1 5 from rfl, show tv (hm 1) 4 = hm 1 5 from rfl, E.1.2.2.2.2.2, i_cancel], sB⟩
    · rw [if_neg (show ¬ nI 5 = (0 : Int32) by decide), if_neg (show ¬ nI 5 = (1 : Int32) by decide), if_neg (show ¬ nI 5 = (2 : Int32) by decide), if_neg (show ¬ nI 5 = (3 : Int32) by decide), if_neg (show ¬ nI 5 = (4 : Int32) by decide), if_pos (show nI 5 = (5 : Int32) by decide), if_pos (show nI 5 = (5 : Int32) by decide), h12, C_learners]
      exact ⟨_, _, _, rfl, by rw [m15], sB⟩
  · rw [show f_X8_in hm a1 (0 : Int32) (5 : Int32) = some (0, hm) from M_in_no hm (by decide) (by decide) (lo := 0) (hi := 5) (fun j _ hj => hn j hj), ob_s]
    refine ⟨-2, h1, hm, ?_, rfl, sC⟩
    rw [if_neg (fun (z : a1 = 0) => hn 0 (by decide) z), if_neg (fun (z : a1 = 1) => hn 1 (by decide) z), if_neg (fun (z : a1 = 2) => hn 2 (by decide) z), if_neg (fun (z : a1 = 3) => hn 3 (by decide) z), if_neg (fun (z : a1 = 4) => hn 4 (by decide) z), if_neg (fun (z : a1 = 5) => hn 5 (by decide) z)]
