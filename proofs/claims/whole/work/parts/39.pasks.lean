/-! captainOf, printed, uses, clash, count -/
theorem C_ttOf {h h1 : Hp} (e1 : f_X1_print h 1 = some h1) {c : Nat} (hc : c < 3) : f_X7_timetableOf h (nI c) = some (42 + 2 * c, h1) := by
  unfold f_X7_timetableOf
  rw [e1, ob_s, if_pos (inb_nI hc (by decide)), nc (by omega)]
theorem C_tell2 (h : Hp) (k : Nat) {w : Nat} (h1 : 5 ≤ w) (h2 : w ≤ 10) : f_X2_tell h k (nI w) = some (h k (w - 1), h) := by
  unfold f_X2_tell
  rcases (show w = 5 ∨ w = 6 ∨ w = 7 ∨ w = 8 ∨ w = 9 ∨ w = 10 by omega) with rfl | rfl | rfl | rfl | rfl | rfl <;> rfl
theorem w45 : ∀ w, w < 11 → 5 ≤ w → (4 : Int32) + nI w - (5 : Int32) = nI (w - 1) := by decide
theorem M_in_nn (hm : Hp) {j lo hi : Nat} (hj : j < 2 ^ 31) (h1 : j < lo ∨ hi < j) (hl : lo < 2 ^ 31) (hh : hi < 2 ^ 31) : f_X8_in hm (nI j) (nI lo) (nI hi) = some (0, hm) :=
  M_in_no hm hh hl (fun i a b e => by have := (eq_iff hj (by omega)).mp e; omega)
theorem st_captainOf : ST_12 SIM := by
  intro h hm s a1 a2
  unfold f_X7_captainOf f_X8_captainOf
  rcases cap_cases h hm a1 with ⟨c, hc, rfl, e1, e2⟩ | ⟨e1, e2⟩
  · rw [e1, e2, ob_s, ob_s]
    simp only []
    rw [if_neg n10, if_neg n10]
    rcases a_cases a2 10 (by decide) with ⟨w, hw, rfl⟩ | ⟨hn, hout⟩
    · rw [if_neg (nI_pos (by omega)), L10, if_pos ((le_iff (by omega) (by decide)).mpr hw)]
      by_cases w4 : w = 4
      · subst w4
        rw [if_pos (show nI 4 = (4 : Int32) from rfl), show (0 : Int32) = nI 0 from rfl, L3, M_in_nn hm (by decide) (by decide) (by decide) (by decide), ob_s]
        simp only []
        rw [if_pos (show (0 : Int32) = nI 0 from rfl), if_pos (show nI 4 = (4 : Int32) from rfl)]
        obtain ⟨h1, f1, a1', t1, -⟩ := C_board (Or.inl rfl) s.2.1 (SIM_caps s)
        obtain ⟨hm1, f2, a2', -, -, t2⟩ := M_pr s.2.1 hc
        rw [C_ttOf f1 hc, f2, ob_s, ob_s]
        simp only []
        rw [if_pos (show isX6 (42 + 2 * c) by omega), if_pos (inb_nI hc (by decide)), nc (by omega), (t1 c hc).1, t2.1]
        exact ⟨_, _, _, rfl, rfl, SIM_C41 (SIM_M67 s a2') a1'⟩
      · have w4' : ¬ nI w = (4 : Int32) := fun z => w4 ((eq_iff (by omega) (by decide)).mp z)
        rw [if_neg w4', if_pos (inb_nI hc (by decide)), nc (by omega), show 1 + 1 + 1 + c = 3 + c by omega]
        simp only [L0, L3]
        by_cases w3 : w ≤ 3
        · rw [M_in_yes hm (by omega) w3 (by decide), ob_s, C_tell h _ (by omega), ob_s]
          simp only []
          rw [if_neg (show ¬ (1 : Int32) = nI 0 by decide), M_of hm hc (by omega), ob_s, cap_at s hc (by omega)]
          exact ⟨_, _, _, rfl, rfl, s⟩
        · rw [M_in_nn hm (by omega) (Or.inr (by omega)) (by decide) (by decide), ob_s, C_tell2 h _ (by omega) hw, ob_s]
          simp only []
          rw [if_pos (show (0 : Int32) = nI 0 from rfl), if_neg w4', show f_X8_in hm (nI w) (5 : Int32) (nI 10) = some (1, hm) from M_in_yes hm (lo := 5) (hi := 10) (by omega) hw (by decide), ob_s]
          simp only []
          rw [if_neg (show ¬ (1 : Int32) = nI 0 by decide), w45 w (by omega) (by omega), M_of hm hc (by omega), ob_s, cap_at s hc (by omega)]
          exact ⟨_, _, _, rfl, rfl, s⟩
    · have z1 : f_X8_in hm a2 (0 : Int32) (3 : Int32) = some (0, hm) := M_in_no hm (by decide) (by decide) (lo := 0) (hi := 3) (fun j _ hj => hn j (by omega))
      have z2 : f_X8_in hm a2 (5 : Int32) (10 : Int32) = some (0, hm) := M_in_no hm (by decide) (by decide) (lo := 5) (hi := 10) (fun j _ hj => hn j hj)
      rw [z1, ob_s]
      simp only []
      rw [if_pos trivial, if_neg (fun (z : a2 = 4) => hn 4 (by decide) z), if_neg (fun (z : a2 = 4) => hn 4 (by decide) z), z2, ob_s]
      simp only []
      rw [if_pos trivial]
      refine ⟨-2, h, hm, ?_, rfl, s⟩
      rcases hout with h0 | ⟨h0, h1⟩
      · rw [if_pos h0]
      · rw [if_neg h0, if_neg (fun z => by
          obtain ⟨k, hk, rfl⟩ := nI_of h0
          have := (lt_iff (by decide) hk).mp h1
          have := (le_iff hk (by decide)).mp (show nI k ≤ nI 10 from z)
          omega)]
  · rw [e1, e2, ob_s, ob_s]
    exact ⟨_, h, hm, rfl, rfl, s⟩
theorem n_m1 : ∀ n, n < 9 → 0 < n → nI n - (1 : Int32) = nI (n - 1) := by decide
theorem st_printed : ST_13 SIM := by
  intro h hm s a1 a2 a3
  unfold f_X7_printed f_X8_printed
  rcases cap_cases h hm a1 with ⟨c, hc, rfl, e1, e2⟩ | ⟨e1, e2⟩
  · rw [e1, e2, ob_s, ob_s]
    simp only []
    rw [if_neg n10, if_neg n10]
    obtain ⟨h1, f1, a1', t1, -⟩ := C_board (Or.inl rfl) s.2.1 (SIM_caps s)
    obtain ⟨hm1, f2, a2', -, -, t2⟩ := M_pr s.2.1 hc
    have s1 := SIM_C41 (SIM_M67 s a2') a1'
    obtain ⟨v3, hv⟩ := VR_h s.2.1 hc
    have t1 := t1 c hc
    rw [C_ttOf f1 hc, f2, ob_s, ob_s]
    simp only []
    rw [if_pos (show isX6 (42 + 2 * c) by omega), if_pos (inb_nI hc (by decide)), nc (by omega), t2.1]
    have hl := tt_len (cb (hm 1) c) (cd (hm 1) c) (cf (hm 1) c)
    by_cases hin : ∃ i, i < (tt (cb (hm 1) c) (cd (hm 1) c) (cf (hm 1) c)).length ∧ a2 = nI i
    · obtain ⟨i, hi, rfl⟩ := hin
      rw [C_has h1 hl t1.1 (by omega), ob_s]
      simp only []
      rw [if_pos hi, if_neg (by decide), n_m1 _ (by omega) (by omega), show f_X8_in hm1 (nI i) (0 : Int32) (nI ((tt (cb (hm 1) c) (cd (hm 1) c) (cf (hm 1) c)).length - 1)) = some (1, hm1) from M_in_yes hm1 (lo := 0) (by omega) (by omega) (by omega), ob_s]
      simp only []
      rw [if_neg n10, C_hourOf h1 hl t1.1 hi, C_pierOf h1 _ t1.2.1 (by omega), M_hourOf hm1 hc (by omega), M_pierOf hm1 hc (v := ch (hm 1) c) (by rw [a2' 1 (by decide) (by decide)]; exact v3) (by omega), ob_s, ob_s, ob_s, ob_s, t1.2.2 i hi, t2.2 i hi]
      by_cases z0 : a3 = 0
      · rw [if_pos z0, if_pos z0]
        exact ⟨_, _, _, rfl, rfl, s1⟩
      · rw [if_neg z0, if_neg z0]
        by_cases z1 : a3 = 1
        · rw [if_pos z1, if_pos z1]
          exact ⟨_, _, _, rfl, rfl, s1⟩
        · rw [if_neg z1, if_neg z1]
          exact ⟨_, _, _, rfl, rfl, s1⟩
    · have hn : ∀ i, i < (tt (cb (hm 1) c) (cd (hm 1) c) (cf (hm 1) c)).length → a2 ≠ nI i := fun i hi e => hin ⟨i, hi, e⟩
      have z1 : f_X6_has h1 (42 + 2 * c) a2 = some (0, h1) := by
        by_cases h0 : a2 < 0
        · unfold f_X6_has
          rw [if_pos h0]
        · obtain ⟨j, hj, rfl⟩ := nI_of h0
          rw [C_has h1 hl t1.1 hj, if_neg (fun z => hn j z rfl)]
      have z2 : f_X8_in hm1 a2 (0 : Int32) (nI (tt (cb (hm 1) c) (cd (hm 1) c) (cf (hm 1) c)).length - (1 : Int32)) = some (0, hm1) := by
        by_cases hz : (tt (cb (hm 1) c) (cd (hm 1) c) (cf (hm 1) c)).length = 0
        · rw [hz, M_in]
          by_cases h0 : a2 < 0
          · rw [if_pos h0]
          · rw [if_neg h0]
            obtain ⟨j, hj, rfl⟩ := nI_of h0
            rw [if_pos (Int32.lt_of_lt_of_le (show nI 0 - (1 : Int32) < 0 by decide) (nI_pos' hj))]
        · rw [n_m1 _ (by omega) (by omega)]
          exact M_in_no hm1 (by omega) (by decide) (lo := 0) (fun j _ hj => hn j (by omega))
      rw [z1, z2, ob_s, ob_s]
      exact ⟨_, _, _, rfl, rfl, s1⟩
  · rw [e1, e2, ob_s, ob_s]
    exact ⟨_, h, hm, rfl, rfl, s⟩
theorem C_usersAt (h : Hp) {p : Nat} (hp : p < 48) : f_X1_usersAt h (nI p) = some (h 41 p, h) := by
  unfold f_X1_usersAt
  rw [if_neg (nI_pos (by omega)), L48, if_neg (fun z => by have := (le_iff (by decide) (by omega)).mp z; omega), if_pos (inb_nI hp (by decide)), nc (by omega)]
theorem st_uses : ST_15 SIM := by
  intro h hm s a1 a2
  unfold f_X7_uses f_X8_uses
  rcases a_cases a1 1 (by decide) with ⟨j, hj, rfl⟩ | ⟨hn, hout⟩
  · rw [if_neg (nI_pos (by omega)), L2, if_neg (fun z => by have := (le_iff (by decide) (by omega)).mp z; omega), show f_X8_in hm (nI j) (0 : Int32) (1 : Int32) = some (1, hm) from M_in_yes hm (lo := 0) (hi := 1) (by omega) hj (by decide), ob_s]
    simp only []
    rw [if_neg (show ¬ (1 : Int32) = 0 by decide)]
    rcases a_cases a2 23 (by decide) with ⟨x, hx, rfl⟩ | ⟨hn, hout⟩
    · rw [if_neg (nI_pos (by omega)), L24, if_pos ((lt_iff (by omega) (by decide)).mpr (by omega)), show f_X8_in hm (nI x) (0 : Int32) (23 : Int32) = some (1, hm) from M_in_yes hm (lo := 0) (hi := 23) (by omega) hx (by decide), ob_s]
      simp only []
      rw [if_neg (show ¬ (1 : Int32) = 0 by decide)]
      obtain ⟨h1, hm1, e1, e2, s1, -, -, -, u1, -, w1⟩ := BOTH s
      rw [e1, e2, ob_s, ob_s, C_placeOf, ob_s]
      simp only []
      rw [C_usersAt h1 (by omega), ob_s, w1 j x (by omega) (by omega), ob_s, u1 _ (by omega)]
      exact ⟨_, _, _, rfl, rfl, s1⟩
    · rw [show f_X8_in hm a2 (0 : Int32) (23 : Int32) = some (0, hm) from M_in_no hm (by decide) (by decide) (lo := 0) (hi := 23) (fun j _ hj => hn j hj), ob_s]
      refine ⟨-1, h, hm, ?_, rfl, s⟩
      rcases hout with h0 | ⟨h0, h1⟩
      · rw [if_pos h0]
      · rw [if_neg h0, if_neg (fun z => by
          obtain ⟨k, hk, rfl⟩ := nI_of h0
          have := (lt_iff (by decide) hk).mp h1
          have := (lt_iff hk (by decide)).mp (show nI k < nI 24 from z)
          omega)]
  · rw [show f_X8_in hm a1 (0 : Int32) (1 : Int32) = some (0, hm) from M_in_no hm (by decide) (by decide) (lo := 0) (hi := 1) (fun j _ hj => hn j hj), ob_s]
    refine ⟨-1, h, hm, ?_, rfl, s⟩
    rcases hout with h0 | ⟨h0, h1⟩
    · rw [if_pos h0]
    · rw [if_neg h0, if_pos (by
        obtain ⟨k, hk, rfl⟩ := nI_of h0
        have := (lt_iff (by decide) hk).mp h1
        exact (le_iff (a := 2) (by decide) hk).mpr (by omega))]
/-! clashes -/
def clB (r : Nat → Int32) (p : Nat) : Bool := (uc r 0 p && uc r 1 p) || (uc r 0 p && uc r 2 p) || (uc r 1 p && uc r 2 p)
def US3 (a b c : Bool) : Int32 := orI c 2 (orI b 1 (orI a 0 0))
theorem bc_C (h : Hp) : ∀ a b c : Bool, f_J6_bitCount_0f7a4 h (US3 a b c) = some (nI (a.toNat + b.toNat + c.toNat), h) := by
  intro a b c
  unfold f_J6_bitCount_0f7a4
  congr 2
  revert a b c
  decide +kernel
theorem bc_M (h : Hp) : ∀ a b c : Bool, f_X8_bits h (US3 a b c) = some (nI (a.toNat + b.toNat + c.toNat), h) := by
  intro a b c
  unfold f_X8_bits
  congr 2
  revert a b c
  decide +kernel
theorem cl_lt : ∀ a b c : Bool, (((a && b) || (a && c) || (b && c)) = true → 2 ≤ a.toNat + b.toNat + c.toNat) ∧ (((a && b) || (a && c) || (b && c)) = false → a.toNat + b.toNat + c.toNat ≤ 1) ∧ a.toNat + b.toNat + c.toNat ≤ 3 := by decide
theorem C_isClash {h : Hp} {r : Nat → Int32} {p : Nat} (hp : p < 48) (hu : h 41 p = US r p) : f_X1_isClash h (nI p) = some (if clB r p = true then 1 else 0, h) := by
  unfold f_X1_isClash
  rw [C_usersAt h hp, ob_s]
  simp only []
  rw [hu, show US r p = US3 (uc r 0 p) (uc r 1 p) (uc r 2 p) from rfl, bc_C, ob_s]
  simp only []
  obtain ⟨c1, c2, c3⟩ := cl_lt (uc r 0 p) (uc r 1 p) (uc r 2 p)
  by_cases e : clB r p = true
  · have := c1 e
    rw [L2, if_neg (fun z => by have := (lt_iff (by omega) (by decide)).mp z; omega), if_pos e]
  · have := c2 (by simpa [clB] using e)
    rw [L2, if_pos ((lt_iff (by omega) (by decide)).mpr (by omega)), if_neg e]
theorem M_bits {h : Hp} {r : Nat → Int32} {p : Nat} : ∃ n : Nat, n ≤ 3 ∧ f_X8_bits h (US r p) = some (nI n, h) ∧ (clB r p = true → 2 ≤ n) ∧ (clB r p = false → n ≤ 1) := by
  obtain ⟨c1, c2, c3⟩ := cl_lt (uc r 0 p) (uc r 1 p) (uc r 2 p)
  exact ⟨_, c3, bc_M h _ _ _, c1, c2⟩
/-- the place of the j-th clash from p on -/
def fcl (r : Nat → Int32) : Nat → Nat → Nat → Option Nat
  | 0, _, _ => none
  | n + 1, p, j => if clB r p = true then (if j = 0 then some p else fcl r n (p + 1) (j - 1)) else fcl r n (p + 1) j
theorem fcl_lt (r : Nat → Int32) : ∀ (n p j q : Nat), p + n = 48 → fcl r n p j = some q → q < 48 := by
  intro n
  induction n with
  | zero => intro p j q h1 h2; cases h2
  | succ n ih =>
    intro p j q h1 h2
    rw [fcl] at h2
    split at h2
    · split at h2
      · cases h2; omega
      · exact ih _ _ _ (by omega) h2
    · exact ih _ _ _ (by omega) h2
theorem C_clash_loop {h : Hp} {r : Nat → Int32} (hu : ∀ p, p < 48 → h 41 p = US r p) {j : Nat} (hj : j < 2 ^ 31) : ∀ (n fu p k : Nat), n < fu → p + n = 48 → k ≤ j → f_X1_placeOfClash_4 fu h (nI j) (nI k) (nI p) = some ((match fcl r n p (j - k) with | none => -5 | some q => nI q), h) := by
  intro n
  induction n with
  | zero =>
    intro fu p k hf hp hk
    obtain ⟨fu, rfl⟩ : ∃ q, fu = q + 1 := ⟨fu - 1, by omega⟩
    rw [f_X1_placeOfClash_4_s, L48, if_pos ((le_iff (by decide) (by omega)).mpr (by omega))]
    rfl
  | succ n ih =>
    intro fu p k hf hp hk
    obtain ⟨fu, rfl⟩ : ∃ q, fu = q + 1 := ⟨fu - 1, by omega⟩
    rw [f_X1_placeOfClash_4_s, L48, if_neg (fun z => by have := (le_iff (by decide) (by omega)).mp z; omega), C_isClash (by omega) (hu p (by omega)), ob_s]
    simp only []
    unfold f_X1_placeOfClash_31
    rw [fcl]
    by_cases e : clB r p = true
    · rw [if_pos e, if_neg n10, if_pos e]
      by_cases ek : k = j
      · rw [if_pos ((eq_iff (by omega) hj).mpr ek), if_pos (by omega)]
      · rw [if_neg (fun z => ek ((eq_iff (by omega) hj).mp z)), if_neg (by omega), nI_1, nI_1, ih fu (p + 1) (k + 1) (by omega) (by omega) (by omega), show j - (k + 1) = j - k - 1 by omega]
    · rw [if_neg e, if_pos z00, if_neg e, nI_1, ih fu (p + 1) k (by omega) (by omega) hk]
theorem C_clash_neg {h : Hp} {r : Nat → Int32} (hu : ∀ p, p < 48 → h 41 p = US r p) {a : Int32} (ha : a < 0) : ∀ (n fu p k : Nat), n < fu → p + n = 48 → k ≤ p → f_X1_placeOfClash_4 fu h a (nI k) (nI p) = some (-5, h) := by
  intro n
  induction n with
  | zero =>
    intro fu p k hf hp hk
    obtain ⟨fu, rfl⟩ : ∃ q, fu = q + 1 := ⟨fu - 1, by omega⟩
    rw [f_X1_placeOfClash_4_s, L48, if_pos ((le_iff (by decide) (by omega)).mpr (by omega))]
  | succ n ih =>
    intro fu p k hf hp hk
    obtain ⟨fu, rfl⟩ : ∃ q, fu = q + 1 := ⟨fu - 1, by omega⟩
    rw [f_X1_placeOfClash_4_s, L48, if_neg (fun z => by have := (le_iff (by decide) (by omega)).mp z; omega), C_isClash (by omega) (hu p (by omega)), ob_s]
    simp only []
    unfold f_X1_placeOfClash_31
    by_cases e : clB r p = true
    · rw [if_pos e, if_neg n10, if_neg (fun z => by rw [← z] at ha; exact nI_pos (by omega) ha), nI_1, nI_1]
      exact ih fu (p + 1) (k + 1) (by omega) (by omega) (by omega)
    · rw [if_neg e, if_pos z00, nI_1]
      exact ih fu (p + 1) k (by omega) (by omega) (by omega)
theorem M_clash_loop {h : Hp} {r : Nat → Int32} (hu : ∀ pp x, pp < 2 → x < 24 → f_X8_usesSet h (nI pp) (nI x) = some (US r (x * 2 + pp), h)) (x2 : Int32) : ∀ (n fu p k : Nat), n < fu → p + n = 48 → k < 2 ^ 31 → f_X8_clash_9 fu h x2 (nI k) (nI p) = some ((match fcl r n p k with | none => -1 | some q => if x2 = 0 then nI (q / 2) else if x2 = 1 then nI (q % 2) else if x2 = 2 then US r q else -2), h) := by
  intro n
  induction n with
  | zero =>
    intro fu p k hf hp hk
    obtain ⟨fu, rfl⟩ : ∃ q, fu = q + 1 := ⟨fu - 1, by omega⟩
    rw [f_X8_clash_9_s, L48, if_pos ((le_iff (by decide) (by omega)).mpr (by omega))]
    rfl
  | succ n ih =>
    intro fu p k hf hp hk
    obtain ⟨fu, rfl⟩ : ∃ q, fu = q + 1 := ⟨fu - 1, by omega⟩
    rw [f_X8_clash_9_s, L48, if_neg (fun z => by have := (le_iff (by decide) (by omega)).mp z; omega), if_neg (nI_pos hk), show nI p - nI p / (2 : Int32) * (2 : Int32) = nI (p % 2) from md2 p (by omega), show nI p / (2 : Int32) = nI (p / 2) from dv2 p (by omega), hu (p % 2) (p / 2) (by omega) (by omega), ob_s]
    simp only []
    rw [show p / 2 * 2 + p % 2 = p by omega]
    obtain ⟨b, hb, hbe, hb1, hb2⟩ := M_bits (h := h) (r := r) (p := p)
    rw [hbe, ob_s]
    simp only []
    unfold f_X8_clash_49
    rw [fcl]
    by_cases e : clB r p = true
    · have := hb1 e
      rw [if_neg (fun z => by have := (le_iff (show b < 2 ^ 31 by omega) (show 1 < 2 ^ 31 by decide)).mp z; omega), if_pos e]
      by_cases ek : k = 0
      · subst ek
        rw [if_neg (show ¬ (0 : Int32) ≤ nI 0 - (1 : Int32) by decide), if_pos rfl, show nI p - nI p / (2 : Int32) * (2 : Int32) = nI (p % 2) from md2 p (by omega), show nI p / (2 : Int32) = nI (p / 2) from dv2 p (by omega)]
        simp only []
        split
        · rfl
        · split
          · rfl
          · split <;> rfl
      · obtain ⟨k, rfl⟩ : ∃ q, k = q + 1 := ⟨k - 1, by omega⟩
        rw [nI_pred, if_pos (nI_pos' (by omega)), if_neg ek, nI_1, ih fu (p + 1) k (by omega) (by omega) (by omega), show k + 1 - 1 = k by omega]
    · have := hb2 (by simpa using e)
      rw [if_pos (show nI b ≤ (1 : Int32) from (le_iff (show b < 2 ^ 31 by omega) (show 1 < 2 ^ 31 by decide)).mpr this), if_neg e, show nI k - (0 : Int32) = nI k by simp, if_pos (nI_pos' hk), nI_1, ih fu (p + 1) k (by omega) (by omega) hk]
theorem st_clash : ST_16 SIM := by
  intro h hm s a1 a2
  unfold f_X7_clash f_X8_clash f_X1_placeOfClash
  obtain ⟨h1, hm1, e1, e2, s1, -, -, -, u1, -, w1⟩ := BOTH s
  rw [e1, e2, ob_s, ob_s]
  by_cases h0 : a1 < 0
  · rw [show f_X1_placeOfClash_4 FU h1 a1 (0 : Int32) (0 : Int32) = some (-5, h1) from C_clash_neg u1 h0 48 FU 0 0 (by decide) (by decide) (by decide), ob_s]
    simp only []
    rw [if_pos trivial, show FU = 199 + 1 from rfl, f_X8_clash_9_s, if_neg (by decide), if_pos h0]
    exact ⟨_, _, _, rfl, rfl, s1⟩
  · obtain ⟨j, hj, rfl⟩ := nI_of h0
    have z1 := C_clash_loop u1 hj 48 FU 0 0 (by decide) (by decide) (by omega)
    have z2 := M_clash_loop w1 a2 48 FU 0 j (by decide) (by decide) hj
    rw [Nat.sub_zero] at z1
    rw [show f_X1_placeOfClash_4 FU h1 (nI j) (0 : Int32) (0 : Int32) = _ from z1, show f_X8_clash_9 FU hm1 a2 (nI j) (0 : Int32) = _ from z2, ob_s]
    simp only []
    cases hf : fcl (hm 1) 48 0 j with
    | none =>
      simp only []
      rw [if_pos trivial]
      exact ⟨_, _, _, rfl, rfl, s1⟩
    | some q =>
      have hq := fcl_lt _ _ _ _ _ (by decide) hf
      simp only []
      rw [if_neg (show ¬ nI q = (-5 : Int32) from fun z => by
        have := nI_pos (show q < 2 ^ 31 by omega)
        rw [z] at this
        exact this (by decide)), show nI q - nI q / (2 : Int32) * (2 : Int32) = nI (q % 2) from md2 q (by omega), show nI q / (2 : Int32) = nI (q / 2) from dv2 q (by omega), C_usersAt h1 hq, ob_s, u1 q hq]
      refine ⟨_, h1, _, ?_, rfl, s1⟩
      split
      · rfl
      · split
        · rfl
        · split <;> rfl
/-- how many clashes from p on -/
def ncl (r : Nat → Int32) : Nat → Nat → Nat → Nat
  | 0, _, a => a
  | n + 1, p, a => if clB r p = true then ncl r n (p + 1) (a + 1) else ncl r n (p + 1) a
theorem ncl_le (r : Nat → Int32) : ∀ n p a, ncl r n p a ≤ a + n := by
  intro n
  induction n with
  | zero => intro p a; exact Nat.le_refl a
  | succ n ih =>
    intro p a
    rw [ncl]
    split
    · have := ih (p + 1) (a + 1); omega
    · have := ih (p + 1) a; omega
theorem C_clashes_loop {h : Hp} {r : Nat → Int32} (hu : ∀ p, p < 48 → h 41 p = US r p) : ∀ (n fu p a : Nat), n < fu → p + n = 48 → f_X1_clashes_4 fu h (nI a) (nI p) = some (nI (ncl r n p a), h) := by
  intro n
  induction n with
  | zero =>
    intro fu p a hf hp
    obtain ⟨fu, rfl⟩ : ∃ q, fu = q + 1 := ⟨fu - 1, by omega⟩
    rw [f_X1_clashes_4_s, L48, if_pos ((le_iff (by decide) (by omega)).mpr (by omega))]
    rfl
  | succ n ih =>
    intro fu p a hf hp
    obtain ⟨fu, rfl⟩ : ∃ q, fu = q + 1 := ⟨fu - 1, by omega⟩
    rw [f_X1_clashes_4_s, L48, if_neg (fun z => by have := (le_iff (by decide) (by omega)).mp z; omega), C_isClash (by omega) (hu p (by omega)), ob_s]
    simp only []
    unfold f_X1_clashes_24
    rw [ncl]
    by_cases e : clB r p = true
    · rw [if_pos e, if_neg n10, if_pos e, nI_1, nI_1, ih fu (p + 1) (a + 1) (by omega) (by omega)]
    · rw [if_neg e, if_pos z00, if_neg e, nI_1, ih fu (p + 1) a (by omega) (by omega)]
theorem M_clashes_loop {h : Hp} {r : Nat → Int32} (hu : ∀ pp x, pp < 2 → x < 24 → f_X8_usesSet h (nI pp) (nI x) = some (US r (x * 2 + pp), h)) : ∀ (n fu p a : Nat), n < fu → p + n = 48 → f_X8_clashes_4 fu h (nI a) (nI p) = some (nI (ncl r n p a), h) := by
  intro n
  induction n with
  | zero =>
    intro fu p a hf hp
    obtain ⟨fu, rfl⟩ : ∃ q, fu = q + 1 := ⟨fu - 1, by omega⟩
    rw [f_X8_clashes_4_s, L48, if_pos ((le_iff (by decide) (by omega)).mpr (by omega))]
    rfl
  | succ n ih =>
    intro fu p a hf hp
    obtain ⟨fu, rfl⟩ : ∃ q, fu = q + 1 := ⟨fu - 1, by omega⟩
    rw [f_X8_clashes_4_s, L48, if_neg (fun z => by have := (le_iff (by decide) (by omega)).mp z; omega), show nI p - nI p / (2 : Int32) * (2 : Int32) = nI (p % 2) from md2 p (by omega), show nI p / (2 : Int32) = nI (p / 2) from dv2 p (by omega), hu (p % 2) (p / 2) (by omega) (by omega), ob_s]
    simp only []
    rw [show p / 2 * 2 + p % 2 = p by omega]
    obtain ⟨b, hb, hbe, hb1, hb2⟩ := M_bits (h := h) (r := r) (p := p)
    rw [hbe, ob_s]
    simp only []
    unfold f_X8_clashes_33
    rw [ncl]
    by_cases e : clB r p = true
    · have := hb1 e
      rw [if_neg (fun z => by have := (le_iff (show b < 2 ^ 31 by omega) (show 1 < 2 ^ 31 by decide)).mp z; omega), if_pos e, nI_1, nI_1, ih fu (p + 1) (a + 1) (by omega) (by omega)]
    · have := hb2 (by simpa using e)
      rw [if_pos (show nI b ≤ (1 : Int32) from (le_iff (show b < 2 ^ 31 by omega) (show 1 < 2 ^ 31 by decide)).mpr this), if_neg e, show nI a + (0 : Int32) = nI a by simp, nI_1, ih fu (p + 1) a (by omega) (by omega)]
theorem C_clashes {h : Hp} {r : Nat → Int32} (hu : ∀ p, p < 48 → h 41 p = US r p) : f_X1_clashes h = some (nI (ncl r 48 0 0), h) := C_clashes_loop hu 48 FU 0 0 (by decide) (by decide)
theorem M_clashes {h : Hp} {r : Nat → Int32} (hu : ∀ pp x, pp < 2 → x < 24 → f_X8_usesSet h (nI pp) (nI x) = some (US r (x * 2 + pp), h)) : f_X8_clashes h = some (nI (ncl r 48 0 0), h) := M_clashes_loop hu 48 FU 0 0 (by decide) (by decide)
/-! sums -/
theorem M_sumOf (h : Hp) {j : Nat} (hj : j < 10) : f_X8_sumOf h (nI j) = some (h 1 (6 + 10 * 0 + j) + h 1 (6 + 10 * 1 + j) + h 1 (6 + 10 * 2 + j), h) := by
  unfold f_X8_sumOf
  rw [show f_X8_of h (0 : Int32) (nI j) = _ from M_of h (c := 0) (by decide) hj, ob_s, show f_X8_of h (1 : Int32) (nI j) = _ from M_of h (c := 1) (by decide) hj, ob_s, show f_X8_of h (2 : Int32) (nI j) = _ from M_of h (c := 2) (by decide) hj, ob_s]
theorem i_0add (a : Int32) : 0 + a = a := by simp
theorem C_sumOf (h : Hp) {k w j : Nat} (hw : ∀ a, f_X2_tell h a (nI w) = some (h a j, h)) : f_X5_sumOf h k (nI w) = some (h (k + 1 + 1 + 0) j + h (k + 1 + 1 + 1) j + h (k + 1 + 1 + 2) j, h) := by
  unfold f_X5_sumOf
  rw [show FU = 196 + 1 + 1 + 1 + 1 from rfl, f_X5_sumOf_14_s, if_neg (by decide), if_pos (by decide), hw, ob_s, f_X5_sumOf_14_s, if_neg (by decide), if_pos (by decide), hw, ob_s, f_X5_sumOf_14_s, if_neg (by decide), if_pos (by decide), hw, ob_s, f_X5_sumOf_14_s, if_pos (by decide), show (0 : Int32).toNatClampNeg = 0 from rfl, show (0 + 1 : Int32).toNatClampNeg = 1 by decide, show (0 + 1 + 1 : Int32).toNatClampNeg = 2 by decide]
  simp only [i_0add]
theorem sums {h hm : Hp} (s : SIM h hm) {w : Nat} (h1 : 5 ≤ w) (h2 : w ≤ 10) : f_X5_sumOf h 1 (nI w) = some (hm 1 (6 + 10 * 0 + (w - 1)) + hm 1 (6 + 10 * 1 + (w - 1)) + hm 1 (6 + 10 * 2 + (w - 1)), h) := by
  rw [C_sumOf h (j := w - 1) (fun a => C_tell2 h a h1 h2), SIM_caps s 0 (by decide) _ (by omega), SIM_caps s 1 (by decide) _ (by omega), SIM_caps s 2 (by decide) _ (by omega)]
theorem C_crossings (h : Hp) : f_X1_crossings h = some (h 42 1 + h 44 1 + h 46 1, h) := by
  unfold f_X1_crossings
  rw [show FU = 196 + 1 + 1 + 1 + 1 from rfl, f_X1_crossings_13_s, if_neg (by decide), if_pos (by decide), f_X1_crossings_13_s, if_neg (by decide), if_pos (by decide), f_X1_crossings_13_s, if_neg (by decide), if_pos (by decide), f_X1_crossings_13_s, if_pos (by decide), show (0 : Int32).toNatClampNeg = 0 from rfl, show (0 + 1 : Int32).toNatClampNeg = 1 by decide, show (0 + 1 + 1 : Int32).toNatClampNeg = 2 by decide]
  simp only [i_0add]
theorem st_count : ST_18 SIM := by
  intro h hm s a1
  unfold f_X7_count f_X8_count
  obtain ⟨h1, hm1, e1, e2, s1, b1, b2, t1, u1, t2, w1⟩ := BOTH s
  have r1 : hm1 1 = hm 1 := b2 1 (by decide) (by decide)
  have r0 : hm1 0 = hm 0 := b2 0 (by decide) (by decide)
  have sM := SIM_M67 s b2
  rw [e1, e2, ob_s, ob_s, ob_s]
  by_cases c0 : a1 = 0
  · rw [if_pos c0, if_pos c0, if_pos (by decide), show (0 : Int32).toNatClampNeg = 0 from rfl]
    exact ⟨_, _, _, rfl, by rw [r1, ← low_at s (i := 0) (by decide)]; rfl, sM⟩
  rw [if_neg c0, if_neg c0]
  by_cases c1 : a1 = 1
  · rw [if_pos c1, if_pos c1, if_pos (by decide), show (1 : Int32).toNatClampNeg = 1 from rfl]
    exact ⟨_, _, _, rfl, by rw [r1, ← low_at s (i := 1) (by decide)]; rfl, sM⟩
  rw [if_neg c1, if_neg c1]
  by_cases c2 : a1 = 2
  · rw [if_pos c2, if_pos c2, if_pos (by decide), show (2 : Int32).toNatClampNeg = 2 from rfl]
    exact ⟨_, _, _, rfl, by rw [r1, ← low_at s (i := 2) (by decide)]; rfl, sM⟩
  rw [if_neg c2, if_neg c2]
  by_cases c3 : a1 = 3
  · rw [if_pos c3, if_pos c3, C_clashes u1, M_clashes w1]
    exact ⟨_, _, _, rfl, rfl, s1⟩
  rw [if_neg c3, if_neg c3]
  by_cases c4 : a1 = 4
  · rw [if_pos c4, if_pos c4, C_crossings, if_pos (by decide), if_pos (by decide), if_pos (by decide), show (0 : Int32).toNatClampNeg = 0 from rfl, show (1 : Int32).toNatClampNeg = 1 from rfl, show (2 : Int32).toNatClampNeg = 2 from rfl]
    refine ⟨_, _, _, rfl, ?_, s1⟩
    rw [(t2 0 (by decide)).1, (t2 1 (by decide)).1, (t2 2 (by decide)).1, show h1 42 1 = _ from (t1 0 (by decide)).1, show h1 44 1 = _ from (t1 1 (by decide)).1, show h1 46 1 = _ from (t1 2 (by decide)).1]
  rw [if_neg c4, if_neg c4]
  by_cases c5 : a1 = 5
  · rw [if_pos c5, if_pos c5, show f_X5_sumOf h 1 (5 : Int32) = _ from sums s (w := 5) (by decide) (by decide), show f_X8_sumOf hm1 (4 : Int32) = _ from M_sumOf hm1 (j := 4) (by decide), r1]
    exact ⟨_, _, _, rfl, rfl, sM⟩
  rw [if_neg c5, if_neg c5]
  by_cases c6 : a1 = 6
  · rw [if_pos c6, if_pos c6, show f_X5_sumOf h 1 (9 : Int32) = _ from sums s (w := 9) (by decide) (by decide), show f_X8_sumOf hm1 (8 : Int32) = _ from M_sumOf hm1 (j := 8) (by decide), r1]
    exact ⟨_, _, _, rfl, rfl, sM⟩
  rw [if_neg c6, if_neg c6]
  by_cases c7 : a1 = 7
  · rw [if_pos c7, if_pos c7, if_pos (by decide), show (5 : Int32).toNatClampNeg = 5 from rfl]
    exact ⟨_, _, _, rfl, by rw [r1, ← low_at s (i := 5) (by decide)]; rfl, sM⟩
  rw [if_neg c7, if_neg c7]
  by_cases c8 : a1 = 8
  · rw [if_pos c8, if_pos c8, show f_X5_sumOf h 1 (6 : Int32) = _ from sums s (w := 6) (by decide) (by decide), show f_X8_sumOf hm1 (5 : Int32) = _ from M_sumOf hm1 (j := 5) (by decide), r1]
    exact ⟨_, _, _, rfl, rfl, sM⟩
  rw [if_neg c8, if_neg c8]
  by_cases c9 : a1 = 9
  · rw [if_pos c9, if_pos c9, show f_X5_sumOf h 1 (7 : Int32) = _ from sums s (w := 7) (by decide) (by decide), show f_X8_sumOf hm1 (6 : Int32) = _ from M_sumOf hm1 (j := 6) (by decide), r1]
    exact ⟨_, _, _, rfl, rfl, sM⟩
  rw [if_neg c9, if_neg c9]
  have sM' := sM
  obtain ⟨-, -, -, ⟨kp, -, k1, k2, k3, -⟩, ln, l1, l2, l3, -⟩ := s
  by_cases c10 : a1 = 10
  · rw [if_pos c10, if_pos c10]
    exact ⟨_, _, _, rfl, by rw [r0, k3, k2], sM'⟩
  rw [if_neg c10, if_neg c10]
  by_cases c11 : a1 = 11
  · rw [if_pos c11, if_pos c11]
    exact ⟨_, _, _, rfl, by rw [r0, l3, l2], sM'⟩
  rw [if_neg c11, if_neg c11]
  by_cases c12 : a1 = 12
  · rw [if_pos c12, if_pos c12, show f_X5_tellSetting h 1 (0 : Int32) = _ from C_tellS h 1 (w := 0) (by decide)]
    unfold f_X8_count_166
    rw [c12, if_pos (by decide), show ((3 : Int32) + 12 - 12).toNatClampNeg = 3 by decide]
    exact ⟨_, _, _, rfl, by rw [← low_at sM' (i := 3) (by decide)]; rfl, sM'⟩
  rw [if_neg c12, if_neg c12]
  by_cases c13 : a1 = 13
  · rw [if_pos c13, if_pos c13, show f_X5_tellSetting h 1 (1 : Int32) = _ from C_tellS h 1 (w := 1) (by decide)]
    unfold f_X8_count_166
    rw [c13, if_pos (by decide), show ((3 : Int32) + 13 - 12).toNatClampNeg = 4 by decide]
    exact ⟨_, _, _, rfl, by rw [← low_at sM' (i := 4) (by decide)]; rfl, sM'⟩
  rw [if_neg c13, if_neg c13]
  exact ⟨_, _, _, rfl, rfl, sM'⟩
