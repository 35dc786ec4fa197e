/-! p26: what tell tells, what same compares; a day by sail; the beginning -/
def TL (r : Nat → Int32) (k : Nat) : Int32 := if k < 10 then cN r k else if k = 10 then cN r 12 else if k = 11 then cN r 13 else cO r ((k - 12) / 11) ((k - 12) % 11)
theorem TL_lo {r : Nat → Int32} {k : Nat} (h : k < 10) : TL r k = cN r k := by
  unfold TL
  rw [if_pos h]
theorem TL_10 (r : Nat → Int32) : TL r 10 = cN r 12 := by
  unfold TL
  rw [if_neg (by decide), if_pos rfl]
theorem TL_11 (r : Nat → Int32) : TL r 11 = cN r 13 := by
  unfold TL
  rw [if_neg (by decide), if_neg (by decide), if_pos rfl]
theorem TL_c {r : Nat → Int32} {c k : Nat} (hk : k < 11) : TL r (12 + 11 * c + k) = cO r c k := by
  unfold TL
  rw [if_neg (by omega), if_neg (by omega), if_neg (by omega), show (12 + 11 * c + k - 12) / 11 = c by omega, show (12 + 11 * c + k - 12) % 11 = k by omega]
theorem same_loop {h : Hp} (e : ∀ k, k < 45 → h 0 k = h 1 k) : ∀ (n fu t : Nat), n < fu → t + n = 45 → f_L_same_2 fu h (nI t) = some (1, h) := by
  intro n
  induction n with
  | zero =>
    intro fu t hf ht
    obtain ⟨fu, rfl⟩ : ∃ q, fu = q + 1 := ⟨fu - 1, by omega⟩
    rw [f_L_same_2_s, if_pos (show (45 : Int32) ≤ nI t from (le_iff (a := 45) (by decide) (by omega)).mpr (by omega))]
  | succ n ih =>
    intro fu t hf ht
    obtain ⟨fu, rfl⟩ : ∃ q, fu = q + 1 := ⟨fu - 1, by omega⟩
    rw [f_L_same_2_s, if_neg (fun (z : (45 : Int32) ≤ nI t) => by have := (le_iff (a := 45) (by decide) (by omega)).mp z; omega), if_pos (inb_nI (by omega) (by decide)), if_pos (inb_nI (by omega) (by decide)), nc (by omega), if_pos (e t (by omega)), nI_1]
    exact ih fu (t + 1) (by omega) (by omega)
theorem L_same {h : Hp} (e : ∀ k, k < 45 → h 0 k = h 1 k) : f_L_same h = some (1, h) := same_loop e 45 FU 0 (by decide) (by decide)
theorem X_sail1 {h : Hp} {r : Nat → Int32} {dy kp : Nat} (I : INV h r dy kp) (h9 : dy < 9999) : ∃ h' kp', f_X7_sail h (1 : Int32) = some (MD r, h') ∧ INV h' (DAY r) (dy + 1) kp' := by
  obtain ⟨h1, e1, I1, -⟩ := I_rec I
  obtain ⟨g1, g2, x1, x2, x3, K2, A2, fr⟩ := X_night I1.1 I1.2.1 h9
  obtain ⟨-, -, k0, k4, pm, p⟩ := I1
  refine ⟨g2, kp1 kp, ?_, K2, A2, by rw [fr 0 (by omega)]; exact k0, k4, pm, hiAt_c (fr 36 (by omega)) p⟩
  unfold f_X7_sail
  rw [if_neg (by decide), if_pos (by decide), show h 1 6 = nI dy from (KX_low I.1 (i := 0) (by decide)).trans I.2.1.1, nI_1, if_pos (show nI (dy + 1) ≤ (9999 : Int32) from (le_iff (b := 9999) (by omega) (by decide)).mpr (by omega)), e1, ob_s, show FU = 198 + 1 + 1 from rfl, f_X7_sail_40_s, if_neg (by decide), x1, ob_s, x2, ob_s, x3, ob_s]
  simp only []
  rw [f_X7_sail_40_s, if_pos (by decide), i_0add]
def rI : Nat → Int32 := rC hC0 1
theorem rI_c : ∀ c, c < 3 → rI (6 + 10 * c + 0) = nI (4 * c) ∧ rI (6 + 10 * c + 1) = nI 2 ∧ rI (6 + 10 * c + 2) = nI 6 ∧ rI (6 + 10 * c + 3) = nI (c % 2) ∧ rI (6 + 10 * c + 4) = nI 0 ∧ rI (6 + 10 * c + 8) = nI 0 ∧ rI (6 + 10 * c + 6) = nI 0 ∧ rI (6 + 10 * c + 7) = nI 0 := by decide +kernel
theorem rI_l : rI 0 = nI 0 ∧ rI 1 = nI 0 ∧ rI 2 = nI 1 ∧ rI 3 = nI 1 ∧ rI 4 = nI 3 ∧ rI 5 = nI 0 ∧ hC0 0 4 = nI 0 := by decide +kernel
theorem rI_h : ∀ j, j < 4 → hC0 36 j = nI j := by decide +kernel
theorem INV_0 : INV hC0 rI 0 0 := by
  obtain ⟨a0, a1, a2, a3, a4, a5, a6⟩ := rI_l
  refine ⟨⟨fun _ _ => rfl, ⟨0, by decide, by decide, a1⟩, ⟨1, by decide, by decide, a2⟩, ⟨1, by decide, by decide, a3⟩, ⟨3, by decide, by decide, a4⟩, fun c hc => ?_, 0, by decide, a0, fun c hc => ?_⟩, ⟨a0, by decide, fun _ => 0, fun _ => 0, fun c hc => ?_, 0, a5, Nat.zero_le _⟩, a6, by decide, fun j => j, fun j hj => ⟨hj, rI_h j hj⟩, fun i j _ _ e => e⟩
  · obtain ⟨b0, b1, b2, b3, -⟩ := rI_c c hc
    exact ⟨⟨4 * c, by omega, by omega, b0⟩, ⟨2, by decide, by decide, b1⟩, ⟨6, by decide, by decide, b2⟩, ⟨c % 2, by omega, by omega, b3⟩⟩
  · obtain ⟨-, -, -, -, b4, b8, -, -⟩ := rI_c c hc
    exact ⟨0, 0, b4, b8, by decide⟩
  · obtain ⟨-, -, -, -, -, -, b6, b7⟩ := rI_c c hc
    exact ⟨b6, b7, Nat.le_refl 0, Nat.zero_le _⟩
