/-! the beginning -/
def hE0 : Hp := hs (hs (hs (hs (hs (hs (hs (hs (hs (hs (hs (hs hM0 1 6 ((4 : Int32) * 0)) 1 7 2) 1 8 6) 1 9 ((0 : Int32) - 0 / 2 * 2)) 1 16 ((4 : Int32) * 1)) 1 17 2) 1 18 6) 1 19 ((1 : Int32) - 1 / 2 * 2)) 1 26 ((4 : Int32) * 2)) 1 27 2) 1 28 6) 1 29 ((2 : Int32) - 2 / 2 * 2)
theorem ini_E : f_X8_init hM0 = some hE0 := by
  have p00 : ∀ (g : Hp) (v : Int32), f_X8_put g (0 : Int32) (0 : Int32) v = some (hs g 1 6 v) := fun g v => M_put g (c := 0) (w := 0) (by decide) (by decide) v
  have p01 : ∀ (g : Hp) (v : Int32), f_X8_put g (0 : Int32) (1 : Int32) v = some (hs g 1 7 v) := fun g v => M_put g (c := 0) (w := 1) (by decide) (by decide) v
  have p02 : ∀ (g : Hp) (v : Int32), f_X8_put g (0 : Int32) (2 : Int32) v = some (hs g 1 8 v) := fun g v => M_put g (c := 0) (w := 2) (by decide) (by decide) v
  have p03 : ∀ (g : Hp) (v : Int32), f_X8_put g (0 : Int32) (3 : Int32) v = some (hs g 1 9 v) := fun g v => M_put g (c := 0) (w := 3) (by decide) (by decide) v
  have p10 : ∀ (g : Hp) (v : Int32), f_X8_put g (1 : Int32) (0 : Int32) v = some (hs g 1 16 v) := fun g v => M_put g (c := 1) (w := 0) (by decide) (by decide) v
  have p11 : ∀ (g : Hp) (v : Int32), f_X8_put g (1 : Int32) (1 : Int32) v = some (hs g 1 17 v) := fun g v => M_put g (c := 1) (w := 1) (by decide) (by decide) v
  have p12 : ∀ (g : Hp) (v : Int32), f_X8_put g (1 : Int32) (2 : Int32) v = some (hs g 1 18 v) := fun g v => M_put g (c := 1) (w := 2) (by decide) (by decide) v
  have p13 : ∀ (g : Hp) (v : Int32), f_X8_put g (1 : Int32) (3 : Int32) v = some (hs g 1 19 v) := fun g v => M_put g (c := 1) (w := 3) (by decide) (by decide) v
  have p20 : ∀ (g : Hp) (v : Int32), f_X8_put g (2 : Int32) (0 : Int32) v = some (hs g 1 26 v) := fun g v => M_put g (c := 2) (w := 0) (by decide) (by decide) v
  have p21 : ∀ (g : Hp) (v : Int32), f_X8_put g (2 : Int32) (1 : Int32) v = some (hs g 1 27 v) := fun g v => M_put g (c := 2) (w := 1) (by decide) (by decide) v
  have p22 : ∀ (g : Hp) (v : Int32), f_X8_put g (2 : Int32) (2 : Int32) v = some (hs g 1 28 v) := fun g v => M_put g (c := 2) (w := 2) (by decide) (by decide) v
  have p23 : ∀ (g : Hp) (v : Int32), f_X8_put g (2 : Int32) (3 : Int32) v = some (hs g 1 29 v) := fun g v => M_put g (c := 2) (w := 3) (by decide) (by decide) v
  unfold f_X8_init
  rw [p00, ob_s, p01, ob_s, p02, ob_s, p03, ob_s, p10, ob_s, p11, ob_s, p12, ob_s, p13, ob_s, p20, ob_s, p21, ob_s, p22, ob_s, p23, ob_s]
  rfl
theorem ini_row : ∀ i, i < 36 → rC hC0 1 i = hE0 1 i := by decide +kernel
theorem ini_c : ∀ c, c < 3 → hE0 1 (6 + 10 * c + 0) = nI (4 * c) ∧ hE0 1 (6 + 10 * c + 1) = nI 2 ∧ hE0 1 (6 + 10 * c + 2) = nI 6 ∧ hE0 1 (6 + 10 * c + 3) = nI (c % 2) ∧ hE0 1 (6 + 10 * c + 4) = nI 0 ∧ hE0 1 (6 + 10 * c + 8) = nI 0 := by decide +kernel
theorem ini_l : hE0 1 0 = nI 0 ∧ hE0 1 1 = nI 0 ∧ hE0 1 2 = nI 1 ∧ hE0 1 3 = nI 1 ∧ hE0 1 4 = nI 3 := by decide +kernel
theorem ini_o : hC0 0 2 = nI 0 ∧ hE0 0 14 = nI 0 ∧ hC0 0 4 = nI 0 ∧ hE0 0 12 = nI 0 ∧ hC0 37 1 = nI 0 ∧ hE0 0 13 = nI 0 := by decide +kernel
theorem ini_h : ∀ j, j < 4 → hC0 36 j = nI j := by decide +kernel
theorem ini_VR : VR (hE0 1) := by
  obtain ⟨a0, a1, a2, a3, a4⟩ := ini_l
  refine ⟨⟨0, by decide, by decide, a1⟩, ⟨1, by decide, by decide, a2⟩, ⟨1, by decide, by decide, a3⟩, ⟨3, by decide, by decide, a4⟩, fun c hc => ?_, 0, by decide, a0, fun c hc => ?_⟩
  · obtain ⟨b0, b1, b2, b3, -⟩ := ini_c c hc
    exact ⟨⟨4 * c, by omega, by omega, b0⟩, ⟨2, by decide, by decide, b1⟩, ⟨6, by decide, by decide, b2⟩, ⟨c % 2, by omega, by omega, b3⟩⟩
  · obtain ⟨-, -, -, -, b4, b8⟩ := ini_c c hc
    exact ⟨0, 0, b4, b8, by decide⟩
theorem ini_SIM : SIM hC0 hE0 := by
  obtain ⟨o1, o2, o3, o4, o5, o6⟩ := ini_o
  exact ⟨ini_row, ini_VR, ⟨0, by decide, o1, o2, fun z => by cases z⟩, ⟨0, fun j => j, by decide, o3, o4, ⟨fun j hj => ⟨hj, ini_h j hj⟩, fun i j _ _ e => e⟩, fun q hq => absurd hq (Nat.not_lt_zero q)⟩, 0, by decide, o5, o6, fun i hi => absurd hi (Nat.not_lt_zero i)⟩
