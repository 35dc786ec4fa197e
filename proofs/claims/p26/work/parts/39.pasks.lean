/-! captainOf, printed, uses, clash, count -/
theorem C_ttOf {h h1 : Hp} (e1 : f_X1_print h 1 = some h1) {c : Nat} (hc : c < 3) : f_X7_timetableOf h (nI c) = some (42 + 2 * c, h1) := by
  unfold f_X7_timetableOf
  rw [e1, ob_s, if_pos (inb_nI hc (by decide)), nc (by omega)]
theorem C_tell2 (h : Hp) (k : Nat) {w : Nat} (h1 : 5 ≤ w) (h2 : w ≤ 10) : f_X2_tell h k (nI w) = some (h k (w - 1), h) := by
  unfold f_X2_tell
  rcases (show w = 5 ∨ w = 6 ∨ w = 7 ∨ w = 8 ∨ w = 9 ∨ w = 10 by omega) with rfl | rfl | rfl | rfl | rfl | rfl <;> rfl
theorem w45 : ∀ w, w < 11 → 5 ≤ w → (4 : Int32) + nI w - (5 : Int32) = nI (w - 1) := by decide
theorem M_in_nn (hm : Hp) {j lo hi : Nat} (hj : j < 2 ^ 31) (h1 : j < lo ∨ hi < j) (hl : lo < 2 ^ 31) (hh : hi < 2 ^ 31) : f_X8_in hm (nI j) (nI lo) (nI hi) = some (0, hm) :=
  M_in_no hm hh hl (fun i a b e => by have := (eq_iff hj (by omega)).mp e; omega)
theorem n_m1 : ∀ n, n < 9 → 0 < n → nI n - (1 : Int32) = nI (n - 1) := by decide
theorem C_usersAt (h : Hp) {p : Nat} (hp : p < 48) : f_X1_usersAt h (nI p) = some (h 41 p, h) := by
  unfold f_X1_usersAt
  rw [if_neg (nI_pos (by omega)), L48, if_neg (fun z => by have := (le_iff (by decide) (by omega)).mp z; omega), if_pos (inb_nI hp (by decide)), nc (by omega)]
/-! clashes -/
def clB (r : Nat → Int32) (p : Nat) : Bool := (uc r 0 p && uc r 1 p) || (uc r 0 p && uc r 2 p) || (uc r 1 p && uc r 2 p)
def US3 (a b c : Bool) : Int32 := orI c 2 (orI b 1 (orI a 0 0))
theorem bc_C (h : Hp) : ∀ a b c : Bool, f_J6_bitCount_0f7a4 h (US3 a b c) = some (nI (a.toNat + b.toNat + c.toNat), h) := by
  intro a b c
  unfold f_J6_bitCount_0f7a4
  congr 2
  revert a b c
  decide +kernel
theorem bc_M (h : Hp) : ∀ a b c : Bool, f_X8_bits h (US3 a b c) = some (nI (a.toNat + b.toNat + c.toNat), h) := by
  intro a b c
  unfold f_X8_bits
  congr 2
  revert a b c
  decide +kernel
theorem cl_lt : ∀ a b c : Bool, (((a && b) || (a && c) || (b && c)) = true → 2 ≤ a.toNat + b.toNat + c.toNat) ∧ (((a && b) || (a && c) || (b && c)) = false → a.toNat + b.toNat + c.toNat ≤ 1) ∧ a.toNat + b.toNat + c.toNat ≤ 3 := by decide
theorem C_isClash {h : Hp} {r : Nat → Int32} {p : Nat} (hp : p < 48) (hu : h 41 p = US r p) : f_X1_isClash h (nI p) = some (if clB r p = true then 1 else 0, h) := by
  unfold f_X1_isClash
  rw [C_usersAt h hp, ob_s]
  simp only []
  rw [hu, show US r p = US3 (uc r 0 p) (uc r 1 p) (uc r 2 p) from rfl, bc_C, ob_s]
  simp only []
  obtain ⟨c1, c2, c3⟩ := cl_lt (uc r 0 p) (uc r 1 p) (uc r 2 p)
  by_cases e : clB r p = true
  · have := c1 e
    rw [L2, if_neg (fun z => by have := (lt_iff (by omega) (by decide)).mp z; omega), if_pos e]
  · have := c2 (by simpa [clB] using e)
    rw [L2, if_pos ((lt_iff (by omega) (by decide)).mpr (by omega)), if_neg e]
theorem M_bits {h : Hp} {r : Nat → Int32} {p : Nat} : ∃ n : Nat, n ≤ 3 ∧ f_X8_bits h (US r p) = some (nI n, h) ∧ (clB r p = true → 2 ≤ n) ∧ (clB r p = false → n ≤ 1) := by
  obtain ⟨c1, c2, c3⟩ := cl_lt (uc r 0 p) (uc r 1 p) (uc r 2 p)
  exact ⟨_, c3, bc_M h _ _ _, c1, c2⟩
/-- how many clashes from p on -/
def ncl (r : Nat → Int32) : Nat → Nat → Nat → Nat
  | 0, _, a => a
  | n + 1, p, a => if clB r p = true then ncl r n (p + 1) (a + 1) else ncl r n (p + 1) a
theorem ncl_le (r : Nat → Int32) : ∀ n p a, ncl r n p a ≤ a + n := by
  intro n
  induction n with
  | zero => intro p a; exact Nat.le_refl a
  | succ n ih =>
    intro p a
    rw [ncl]
    split
    · have := ih (p + 1) (a + 1); omega
    · have := ih (p + 1) a; omega
theorem C_clashes_loop {h : Hp} {r : Nat → Int32} (hu : ∀ p, p < 48 → h 41 p = US r p) : ∀ (n fu p a : Nat), n < fu → p + n = 48 → f_X1_clashes_4 fu h (nI a) (nI p) = some (nI (ncl r n p a), h) := by
  intro n
  induction n with
  | zero =>
    intro fu p a hf hp
    obtain ⟨fu, rfl⟩ : ∃ q, fu = q + 1 := ⟨fu - 1, by omega⟩
    rw [f_X1_clashes_4_s, L48, if_pos ((le_iff (by decide) (by omega)).mpr (by omega))]
    rfl
  | succ n ih =>
    intro fu p a hf hp
    obtain ⟨fu, rfl⟩ : ∃ q, fu = q + 1 := ⟨fu - 1, by omega⟩
    rw [f_X1_clashes_4_s, L48, if_neg (fun z => by have := (le_iff (by decide) (by omega)).mp z; omega), C_isClash (by omega) (hu p (by omega)), ob_s]
    simp only []
    unfold f_X1_clashes_24
    rw [ncl]
    by_cases e : clB r p = true
    · rw [if_pos e, if_neg n10, if_pos e, nI_1, nI_1, ih fu (p + 1) (a + 1) (by omega) (by omega)]
    · rw [if_neg e, if_pos z00, if_neg e, nI_1, ih fu (p + 1) a (by omega) (by omega)]
theorem C_clashes {h : Hp} {r : Nat → Int32} (hu : ∀ p, p < 48 → h 41 p = US r p) : f_X1_clashes h = some (nI (ncl r 48 0 0), h) := C_clashes_loop hu 48 FU 0 0 (by decide) (by decide)
/-! sums -/
theorem M_sumOf (h : Hp) {j : Nat} (hj : j < 10) : f_X8_sumOf h (nI j) = some (h 1 (6 + 10 * 0 + j) + h 1 (6 + 10 * 1 + j) + h 1 (6 + 10 * 2 + j), h) := by
  unfold f_X8_sumOf
  rw [show f_X8_of h (0 : Int32) (nI j) = _ from M_of h (c := 0) (by decide) hj, ob_s, show f_X8_of h (1 : Int32) (nI j) = _ from M_of h (c := 1) (by decide) hj, ob_s, show f_X8_of h (2 : Int32) (nI j) = _ from M_of h (c := 2) (by decide) hj, ob_s]
theorem i_0add (a : Int32) : 0 + a = a := by simp
theorem C_sumOf (h : Hp) {k w j : Nat} (hw : ∀ a, f_X2_tell h a (nI w) = some (h a j, h)) : f_X5_sumOf h k (nI w) = some (h (k + 1 + 1 + 0) j + h (k + 1 + 1 + 1) j + h (k + 1 + 1 + 2) j, h) := by
  unfold f_X5_sumOf
  rw [show FU = 196 + 1 + 1 + 1 + 1 from rfl, f_X5_sumOf_14_s, if_neg (by decide), if_pos (by decide), hw, ob_s, f_X5_sumOf_14_s, if_neg (by decide), if_pos (by decide), hw, ob_s, f_X5_sumOf_14_s, if_neg (by decide), if_pos (by decide), hw, ob_s, f_X5_sumOf_14_s, if_pos (by decide), show (0 : Int32).toNatClampNeg = 0 from rfl, show (0 + 1 : Int32).toNatClampNeg = 1 by decide, show (0 + 1 + 1 : Int32).toNatClampNeg = 2 by decide]
  simp only [i_0add]
theorem sums {h hm : Hp} (s : SIM h hm) {w : Nat} (h1 : 5 ≤ w) (h2 : w ≤ 10) : f_X5_sumOf h 1 (nI w) = some (hm 1 (6 + 10 * 0 + (w - 1)) + hm 1 (6 + 10 * 1 + (w - 1)) + hm 1 (6 + 10 * 2 + (w - 1)), h) := by
  rw [C_sumOf h (j := w - 1) (fun a => C_tell2 h a h1 h2), SIM_caps s 0 (by decide) _ (by omega), SIM_caps s 1 (by decide) _ (by omega), SIM_caps s 2 (by decide) _ (by omega)]
theorem C_crossings (h : Hp) : f_X1_crossings h = some (h 42 1 + h 44 1 + h 46 1, h) := by
  unfold f_X1_crossings
  rw [show FU = 196 + 1 + 1 + 1 + 1 from rfl, f_X1_crossings_13_s, if_neg (by decide), if_pos (by decide), f_X1_crossings_13_s, if_neg (by decide), if_pos (by decide), f_X1_crossings_13_s, if_neg (by decide), if_pos (by decide), f_X1_crossings_13_s, if_pos (by decide), show (0 : Int32).toNatClampNeg = 0 from rfl, show (0 + 1 : Int32).toNatClampNeg = 1 by decide, show (0 + 1 + 1 : Int32).toNatClampNeg = 2 by decide]
  simp only [i_0add]
