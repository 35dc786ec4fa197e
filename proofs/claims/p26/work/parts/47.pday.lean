/-! a day begins -/
theorem b2i_of : ∀ v, v < 2 → nI v = b2i (decide (v = 1)) := by decide
theorem C_beginDay {h : Hp} {k1 c : Nat} {r : Nat → Int32} (hk : k1 = 1 ∨ k1 = 31) (v : VR r) (hr : capsAt h k1 r) (hc : c < 3) : ∃ h', f_X3_beginDay h (50 + 3 * c) (k1 + 1 + 1 + c) = some h' ∧ (∀ a, a ≠ 50 + 3 * c → a ≠ 50 + 3 * c + 1 → a ≠ 50 + 3 * c + 1 + 1 → h' a = h a) ∧ ttAt h' (50 + 3 * c + 1) (cb r c) (cd r c) (cf r c) (nI (ch r c)) ∧ h' (50 + 3 * c) 1 = nI (cd r c) ∧ h' (50 + 3 * c) 2 = nI (ch r c) ∧ h' (50 + 3 * c) 3 = 0 ∧ h' (50 + 3 * c) 7 = 0 ∧ h' (50 + 3 * c) 8 = 0 ∧ h' (50 + 3 * c) 9 = 0 ∧ h' (50 + 3 * c) 10 = 0 := by
  obtain ⟨v0, hb⟩ := VR_b v hc
  obtain ⟨v1, -, hd⟩ := VR_d v hc
  obtain ⟨v2, hf⟩ := VR_f v hc
  obtain ⟨v3, hh⟩ := VR_h v hc
  obtain ⟨h1, e1, a1, t1⟩ := C_print (k := 50 + 3 * c + 1) (k1 := k1 + 1 + 1 + c) (by omega) (by omega) hb hd hf (h := h) ((hr c hc 0 (by decide)).trans v0) ((hr c hc 1 (by decide)).trans v1) ((hr c hc 2 (by decide)).trans v2)
  rw [(hr c hc 3 (by decide)).trans v3] at t1
  have b1 : h1 (k1 + 1 + 1 + c) 1 = nI (cd r c) := by rw [a1 _ (by omega) (by omega)]; exact (hr c hc 1 (by decide)).trans v1
  have b3 : h1 (k1 + 1 + 1 + c) 3 = nI (ch r c) := by rw [a1 _ (by omega) (by omega)]; exact (hr c hc 3 (by decide)).trans v3
  unfold f_X3_beginDay f_X3_beginDay_24 f_X3_beginDay_34 f_X3_beginDay_44
  rw [e1, ob_s, hs_k (show k1 + 1 + 1 + c ≠ 50 + 3 * c by omega), b1, b3]
  refine ⟨_, rfl, fun a x0 x1 x2 => ?_, ?_, ?_, ?_, ?_, ?_, ?_, ?_, ?_⟩
  · rw [hs_r x0, hs_r x0, hs_r x0, hs_r x0, hs_r x0, hs_r x0, hs_r x0, a1 a x1 (by omega)]
  · refine tt_at_keep t1 ?_ ?_
    · rw [hs_r (by omega), hs_r (by omega), hs_r (by omega), hs_r (by omega), hs_r (by omega), hs_r (by omega), hs_r (by omega)]
    · rw [hs_r (by omega), hs_r (by omega), hs_r (by omega), hs_r (by omega), hs_r (by omega), hs_r (by omega), hs_r (by omega)]
  all_goals simp [hs]
/-- the ferry c at the day's beginning, in the class -/
def CB (r : Nat → Int32) (c : Nat) (h : Hp) : Prop := ttAt h (50 + 3 * c + 1) (cb r c) (cd r c) (cf r c) (nI (ch r c)) ∧ h (50 + 3 * c) 1 = nI (cd r c) ∧ h (50 + 3 * c) 2 = nI (ch r c) ∧ h (50 + 3 * c) 3 = 0 ∧ h (50 + 3 * c) 7 = 0 ∧ h (50 + 3 * c) 8 = 0 ∧ h (50 + 3 * c) 9 = 0 ∧ h (50 + 3 * c) 10 = 0
theorem CB_keep {r : Nat → Int32} {c : Nat} {h h' : Hp} (e0 : h' (50 + 3 * c) = h (50 + 3 * c)) (e1 : h' (50 + 3 * c + 1) = h (50 + 3 * c + 1)) (e2 : h' (50 + 3 * c + 1 + 1) = h (50 + 3 * c + 1 + 1)) (b : CB r c h) : CB r c h' := by
  obtain ⟨t, b⟩ := b
  refine ⟨tt_at_keep t e1 e2, ?_⟩
  rw [e0]
  exact b
theorem C_begin3 {h : Hp} {k1 : Nat} {r : Nat → Int32} (hk : k1 = 1 ∨ k1 = 31) (v : VR r) (hr : capsAt h k1 r) : ∃ h', f_X4_run_15 k1 FU h (0 : Int32) = f_X4_run_43 k1 FU h' (0 : Int32) ∧ (∀ a, a < 50 → h' a = h a) ∧ ∀ c, c < 3 → CB r c h' := by
  have stp : ∀ (n c : Nat) (g : Hp), c < 3 → f_X4_run_15 k1 (n + 1) g (nI c) = (f_X3_beginDay g (50 + 3 * c) (k1 + 1 + 1 + c)).bind (fun q => f_X4_run_15 k1 n q (nI (c + 1))) := by
    intro n c g hc
    rw [f_X4_run_15_s, if_neg (fun (z : (3 : Int32) ≤ nI c) => by have := (le_iff (a := 3) (by decide) (by omega)).mp z; omega), if_pos (inb_nI hc (by decide)), if_pos (inb_nI hc (by decide)), nc (by omega), nI_1]
  have keep : ∀ {x y : Hp}, capsAt x k1 r → (∀ a, a < 36 → y a = x a) → capsAt y k1 r := fun hx hy c hc j hj => by rw [hy _ (by omega)]; exact hx c hc j hj
  obtain ⟨g0, e0, a0, B0⟩ := C_beginDay hk v hr (c := 0) (by decide)
  obtain ⟨g1, e1, a1, B1⟩ := C_beginDay hk v (keep hr (fun a ha => a0 a (by omega) (by omega) (by omega))) (c := 1) (by decide)
  obtain ⟨g2, e2, a2, B2⟩ := C_beginDay hk v (keep hr (fun a ha => (a1 a (by omega) (by omega) (by omega)).trans (a0 a (by omega) (by omega) (by omega)))) (c := 2) (by decide)
  refine ⟨g2, ?_, fun a ha => by rw [a2 a (by omega) (by omega) (by omega), a1 a (by omega) (by omega) (by omega), a0 a (by omega) (by omega) (by omega)], fun c hc => ?_⟩
  · show f_X4_run_15 k1 (196 + 1 + 1 + 1 + 1) h (nI 0) = _
    rw [stp _ 0 _ (by decide), e0, ob_s, stp _ (0 + 1) _ (by decide), show f_X3_beginDay g0 (50 + 3 * (0 + 1)) (k1 + 1 + 1 + (0 + 1)) = some g1 from e1, ob_s, stp _ (0 + 1 + 1) _ (by decide), show f_X3_beginDay g1 (50 + 3 * (0 + 1 + 1)) (k1 + 1 + 1 + (0 + 1 + 1)) = some g2 from e2, ob_s, f_X4_run_15_s, if_pos (by decide)]
  · rcases (show c = 0 ∨ c = 1 ∨ c = 2 by omega) with rfl | rfl | rfl
    · exact CB_keep (a2 _ (by omega) (by omega) (by omega)) (a2 _ (by omega) (by omega) (by omega)) (a2 _ (by omega) (by omega) (by omega)) (CB_keep (a1 _ (by omega) (by omega) (by omega)) (a1 _ (by omega) (by omega) (by omega)) (a1 _ (by omega) (by omega) (by omega)) B0)
    · exact CB_keep (a2 _ (by omega) (by omega) (by omega)) (a2 _ (by omega) (by omega) (by omega)) (a2 _ (by omega) (by omega) (by omega)) B1
    · exact B2
/-- the reference's day begins -/
def mD (h : Hp) (c : Nat) : Hp := hs (hs (hs (hs h 8 c (h 1 (6 + 10 * c + 3))) 9 c (-1)) 10 c 0) 11 c 0
theorem mD_k {h : Hp} {c a : Nat} (h1 : a ≠ 8) (h2 : a ≠ 9) (h3 : a ≠ 10) (h4 : a ≠ 11) : mD h c a = h a := by
  unfold mD
  rw [hs_r h4, hs_r h3, hs_r h2, hs_r h1]
theorem mD_o {h : Hp} {c j a : Nat} (hj : j ≠ c) : mD h c a j = h a j := by
  unfold mD
  rw [hs_j hj, hs_j hj, hs_j hj, hs_j hj]
theorem mD_c (h : Hp) (c : Nat) : mD h c 8 c = h 1 (6 + 10 * c + 3) ∧ mD h c 9 c = -1 ∧ mD h c 10 c = 0 ∧ mD h c 11 c = 0 := by
  unfold mD
  simp [hs]
theorem mD3 (g : Hp) {c : Nat} (hc : c < 3) : mD (mD (mD g 0) 1) 2 8 c = g 1 (6 + 10 * c + 3) ∧ mD (mD (mD g 0) 1) 2 9 c = -1 ∧ mD (mD (mD g 0) 1) 2 10 c = 0 ∧ mD (mD (mD g 0) 1) 2 11 c = 0 := by
  rcases (show c = 0 ∨ c = 1 ∨ c = 2 by omega) with rfl | rfl | rfl <;> simp [mD, hs]
theorem M_begin3 (h : Hp) : f_X8_sailDay_6 FU h (0 : Int32) = f_X8_sailDay_52 FU (mD (mD (mD h 0) 1) 2) (0 : Int32) := by
  have stp : ∀ (n c : Nat) (g : Hp), c < 3 → f_X8_sailDay_6 (n + 1) g (nI c) = f_X8_sailDay_6 n (mD g c) (nI (c + 1)) := by
    intro n c g hc
    rw [f_X8_sailDay_6_s, if_neg (fun (z : (3 : Int32) ≤ nI c) => by have := (le_iff (a := 3) (by decide) (by omega)).mp z; omega), show f_X8_of g (nI c) (3 : Int32) = _ from M_of g hc (j := 3) (by decide), ob_s, if_pos (inb_nI hc (by decide)), if_pos (inb_nI hc (by decide)), nc (by omega)]
    unfold f_X8_sailDay_30 f_X8_sailDay_44
    rw [if_pos (inb_nI hc (by decide)), if_pos (inb_nI hc (by decide)), nc (by omega), nI_1]
    rfl
  show f_X8_sailDay_6 (196 + 1 + 1 + 1 + 1) h (nI 0) = _
  rw [stp _ 0 _ (by decide), stp _ (0 + 1) _ (by decide), stp _ (0 + 1 + 1) _ (by decide), f_X8_sailDay_6_s, if_pos (by decide)]
theorem i_add0 (a : Int32) : a + 0 = a := by simp
theorem day_begin {h hm : Hp} {k1 : Nat} {r : Nat → Int32} (hk : k1 = 1 ∨ k1 = 31) (v : VR r) (hr : capsAt h k1 r) (h4 : h k1 4 = r 2) (e1 : hm 1 = r) : ∃ h' hm', f_X4_run h k1 = f_X4_run_43 k1 FU h' (0 : Int32) ∧ f_X8_sailDay hm = f_X8_sailDay_52 FU hm' (0 : Int32) ∧ GR r 0 h hm h' hm' := by
  obtain ⟨ln, -, hl, eL⟩ := v.2.1
  have hr' : capsAt (hs (hs h 48 1 (h k1 4)) 48 2 0) k1 r := fun c hc j hj => by
    rw [hs_k (by omega), hs_k (by omega)]
    exact hr c hc j hj
  obtain ⟨h', x1, a1, B⟩ := C_begin3 hk v hr'
  obtain ⟨hm1, y1, m1, T⟩ := M_printAll (hm := hm) (by rw [e1]; exact v)
  rw [e1] at T
  have row : ∀ a, a ≠ 8 → a ≠ 9 → a ≠ 10 → a ≠ 11 → mD (mD (mD hm1 0) 1) 2 a = hm1 a := fun a p8 p9 p10 p11 => by rw [mD_k p8 p9 p10 p11, mD_k p8 p9 p10 p11, mD_k p8 p9 p10 p11]
  have r1 : mD (mD (mD hm1 0) 1) 2 1 = r := (row 1 (by decide) (by decide) (by decide) (by decide)).trans ((m1 1 (by decide) (by decide)).trans e1)
  refine ⟨h', mD (mD (mD hm1 0) 1) 2, x1, ?_, fun c hc => ?_, ⟨ln, by omega, ?_, ?_⟩, ⟨?_, ?_, ?_, ?_, ?_⟩, fun a ha => ?_, fun a ha => ?_⟩
  · unfold f_X8_sailDay
    rw [y1, ob_s, M_begin3]
  · obtain ⟨b0, b1, b2, b3, b7, b8, b9, b10⟩ := B c hc
    obtain ⟨v3, hh⟩ := VR_h v hc
    have q := mD3 hm1 hc
    rw [(m1 1 (by decide) (by decide)).trans e1, v3] at q
    obtain ⟨q8, q9, q10, q11⟩ := q
    refine ⟨⟨b0, ?_, b1, ⟨0, Nat.zero_le _, b7, q10⟩, ⟨?_, ?_, ?_, ?_⟩, fun j _ _ => by rw [r1]⟩, ⟨0, Nat.le_refl 0, b8, q11⟩, Or.inr ⟨decide (ch r c = 1), b3, by rw [b2]; exact b2i_of _ hh, by rw [q8]; exact b2i_of _ hh, Or.inl q9⟩⟩
    · unfold ttAtM
      rw [row 7 (by decide) (by decide) (by decide) (by decide), row 6 (by decide) (by decide) (by decide) (by decide)]
      exact T c hc
    · rw [r1, b7, i_add0]
    · rw [r1, b8, i_add0]
    · rw [r1, b9, i_add0]
    · rw [r1, b10, i_add0]
  · rw [a1 48 (by decide), hs_j (by decide), hs_at, h4]; exact eL
  · rw [r1]; exact eL
  · rw [r1, a1 48 (by decide), hs_at, i_add0]
  · rw [r1]
  · rw [r1]
  · rw [r1]
  · rw [r1]
  · rw [a1 a (by omega), hs_r (by omega), hs_r (by omega)]
  · rw [row a (by omega) (by omega) (by omega) (by omega), m1 a (by omega) (by omega)]
/-- the whole day, up to its evening -/
theorem day {h hm : Hp} {k1 : Nat} {r : Nat → Int32} (hk : k1 = 1 ∨ k1 = 31) (v : VR r) (hr : capsAt h k1 r) (h3 : h k1 3 = r 1) (h4 : h k1 4 = r 2) (e1 : hm 1 = r) : ∃ h' hm', f_X4_run h k1 = some h' ∧ f_X8_sailDay hm = f_X8_sailDay_71 FU hm' (0 : Int32) ∧ GR r 24 h hm h' hm' := by
  obtain ⟨bt, hbt, hph⟩ := VR_ph v
  obtain ⟨h1, hm1, x1, y1, G⟩ := day_begin hk v hr h4 e1
  obtain ⟨h2, hm2, x2, y2, G2⟩ := hours24 v hbt hph 24 FU 0 h1 hm1 (by decide) (by decide) G
  exact ⟨h2, hm2, x1.trans (x2 k1 (by omega) (h3.trans hph)), y1.trans y2, G2⟩
