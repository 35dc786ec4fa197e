/-! set, level, hours -/
theorem rng_clamp {x : Int32} {lo hi : Nat} (hhi : hi < 2 ^ 31) (h : rng x lo hi) : x = nI x.toNatClampNeg ∧ lo ≤ x.toNatClampNeg ∧ x.toNatClampNeg ≤ hi := by
  obtain ⟨n, h1, h2, rfl⟩ := h
  rw [nc (by omega)]
  exact ⟨rfl, h1, h2⟩
def cb (r : Nat → Int32) (c : Nat) : Nat := (r (6 + 10 * c + 0)).toNatClampNeg
def cd (r : Nat → Int32) (c : Nat) : Nat := (r (6 + 10 * c + 1)).toNatClampNeg
def cf (r : Nat → Int32) (c : Nat) : Nat := (r (6 + 10 * c + 2)).toNatClampNeg
def ch (r : Nat → Int32) (c : Nat) : Nat := (r (6 + 10 * c + 3)).toNatClampNeg
theorem VR_b {r : Nat → Int32} (v : VR r) {c : Nat} (hc : c < 3) : r (6 + 10 * c + 0) = nI (cb r c) ∧ cb r c < 12 := by
  have h := rng_clamp (by decide) (v.2.2.2.2.1 c hc).1
  exact ⟨h.1, by have := h.2.2; show (r (6 + 10 * c + 0)).toNatClampNeg < 12; omega⟩
theorem VR_d {r : Nat → Int32} (v : VR r) {c : Nat} (hc : c < 3) : r (6 + 10 * c + 1) = nI (cd r c) ∧ 1 ≤ cd r c ∧ cd r c ≤ 6 := by
  have h := rng_clamp (by decide) (v.2.2.2.2.1 c hc).2.1
  exact h
theorem VR_f {r : Nat → Int32} (v : VR r) {c : Nat} (hc : c < 3) : r (6 + 10 * c + 2) = nI (cf r c) ∧ cf r c < 24 := by
  have h := rng_clamp (by decide) (v.2.2.2.2.1 c hc).2.2.1
  exact ⟨h.1, by have := h.2.2; show (r (6 + 10 * c + 2)).toNatClampNeg < 24; omega⟩
theorem VR_h {r : Nat → Int32} (v : VR r) {c : Nat} (hc : c < 3) : r (6 + 10 * c + 3) = nI (ch r c) ∧ ch r c < 2 := by
  have h := rng_clamp (by decide) (v.2.2.2.2.1 c hc).2.2.2
  exact ⟨h.1, by have := h.2.2; show (r (6 + 10 * c + 3)).toNatClampNeg < 2; omega⟩
theorem VR_ph {r : Nat → Int32} (v : VR r) : ∃ b, b < 12 ∧ r 1 = nI b := by
  obtain ⟨b, -, h, e⟩ := v.1
  exact ⟨b, by omega, e⟩
def hiS (w : Nat) : Nat := if w = 0 then 1 else 9
theorem hiS_lt (w : Nat) : hiS w < 2 ^ 31 := by
  unfold hiS
  split <;> decide
theorem w_tab1 : ∀ w, w < 2 → sL1 w = nI w ∧ sG1 w = nI (hiS w) := by decide
theorem C_tellS (h : Hp) (k : Nat) {w : Nat} (hw : w < 2) : f_X5_tellSetting h k (nI w) = some (h k (w + 1), h) := by
  unfold f_X5_tellSetting
  rcases (show w = 0 ∨ w = 1 by omega) with rfl | rfl <;> rfl
theorem C_chgS (h : Hp) (k : Nat) {w : Nat} (hw : w < 2) (v : Int32) : f_X5_changeSetting h k (nI w) v = some (hs h k (w + 1) v) := by
  unfold f_X5_changeSetting
  rcases (show w = 0 ∨ w = 1 by omega) with rfl | rfl <;> rfl
theorem sl_set {w : Nat} (hw : w < 2) : sl (3 + w) = w + 1 := by
  rcases (show w = 0 ∨ w = 1 by omega) with rfl | rfl <;> rfl
/-! levels -/
def dirN (b t : Nat) : Nat := if 6 ≤ (t + b) % 12 then 0 else 1
theorem rstep : ∀ b, b < 12 → ∀ t, t < 24 → (dirN b t = 0 → nI (lvl b t) + (1 : Int32) = nI (lvl b (t + 1))) ∧ (dirN b t = 1 → nI (lvl b t) + (-1 : Int32) = nI (lvl b (t + 1))) ∧ dirN b (t + 1) = (if lvl b (t + 1) = 0 then 0 else if lvl b (t + 1) = 6 then 1 else dirN b t) := by decide +kernel
theorem C_reach (h : Hp) {b : Nat} (hb : b < 12) : ∀ (n t T : Nat), T < n + t → t ≤ T → T < 24 → f_X7_levelReached_21 n h (nI T) (nI (lvl b t)) (nI (dirN b t)) (nI t) = some (nI (lvl b T), h) := by
  intro n
  induction n with
  | zero => intro t T h1 h2; omega
  | succ n ih =>
    intro t T h1 h2 h3
    rw [f_X7_levelReached_21_s]
    by_cases e : T ≤ t
    · rw [if_pos ((le_iff (by omega) (by omega)).mpr e), show t = T by omega]
    · rw [if_neg (fun z => e ((le_iff (by omega) (by omega)).mp z))]
      obtain ⟨q1, q2, q3⟩ := rstep b hb t (by omega)
      have key : ∀ d : Int32, nI (lvl b t) + d = nI (lvl b (t + 1)) → f_X7_levelReached_37 (f_X7_levelReached_21 n) h (nI T) (nI (dirN b t)) (nI t) (nI (lvl b t)) d = some (nI (lvl b T), h) := by
        intro d hd
        unfold f_X7_levelReached_37 f_X7_levelReached_56
        rw [hd, nI_1]
        have hl := @lvl_le b (t + 1)
        have hih := ih (t + 1) T (by omega) (by omega) h3
        rw [q3] at hih
        simp only [L0, L6, L1]
        by_cases e0 : lvl b (t + 1) = 0
        · rw [if_pos e0] at hih
          rw [if_pos ((eq_iff (by omega) (by decide)).mpr e0)]
          exact hih
        · rw [if_neg e0] at hih
          rw [if_neg (fun z => e0 ((eq_iff (by omega) (by decide)).mp z))]
          by_cases e6 : lvl b (t + 1) = 6
          · rw [if_pos e6] at hih
            rw [if_pos ((eq_iff (by omega) (by decide)).mpr e6)]
            exact hih
          · rw [if_neg e6] at hih
            rw [if_neg (fun z => e6 ((eq_iff (by omega) (by decide)).mp z))]
            exact hih
      rcases (show dirN b t = 0 ∨ dirN b t = 1 by unfold dirN; split <;> omega) with e0 | e1
      · rw [if_pos (by rw [e0]; rfl)]
        exact key 1 (q1 e0)
      · rw [if_neg (by rw [e1]; decide)]
        exact key (-1) (q2 e1)
theorem C_levelReached (h : Hp) {b t : Nat} (hb : b < 12) (ht : t < 24) : f_X7_levelReached h (nI b) (nI t) = some (nI (lvl b t), h) := by
  unfold f_X7_levelReached f_X7_levelReached_17
  have hz : f_X7_levelAt h (nI b) (0 : Int32) = some (nI (lvl b 0), h) := C_levelAt h hb (by decide)
  rw [hz, ob_s]
  simp only [L6]
  have := C_reach h hb FU 0 t (by have := FUv; omega) (by omega) ht
  by_cases e : 6 ≤ b
  · rw [if_pos ((le_iff (by decide) (by omega)).mpr e)]
    rw [show dirN b 0 = 0 by unfold dirN; rw [if_pos (by omega)]] at this
    exact this
  · rw [if_neg (fun z => e ((le_iff (by decide) (by omega)).mp z))]
    rw [show dirN b 0 = 1 by unfold dirN; rw [if_neg (by omega)]] at this
    exact this
theorem C_isCap_yes (h : Hp) {c : Nat} (hc : c < 3) : f_X7_isCaptain h (nI c) = some (1, h) := by
  rw [C_isCap, if_neg (nI_pos (by omega)), L3, if_neg (fun z => by have := (le_iff (by decide) (by omega)).mp z; omega)]
theorem C_isCap_no (h : Hp) {a : Int32} (hn : ∀ j, j < 3 → a ≠ nI j) : f_X7_isCaptain h a = some (0, h) := by
  rw [C_isCap]
  by_cases h0 : a < 0
  · rw [if_pos h0]
  · rw [if_neg h0]
    obtain ⟨j, hj, rfl⟩ := nI_of h0
    have : 3 ≤ j := by
      rcases Nat.lt_or_ge j 3 with q | q
      · exact absurd rfl (hn j q)
      · exact q
    rw [L3, if_pos ((le_iff (by decide) hj).mpr this)]
theorem C_lv1 (h : Hp) {j : Nat} (hj : j ≤ 3) (a2 a3 : Int32) : f_X7_level h (nI j) a2 a3 = f_X7_level_12 h (nI j) a2 a3 := by
  unfold f_X7_level
  by_cases h3 : j = 3
  · subst h3
    rw [C_isCap_no h (fun j hj e => by have := (eq_iff (by decide) (by omega)).mp e; omega), ob_s]
    simp only []
    rw [if_pos trivial, if_pos L3.symm]
  · rw [C_isCap_yes h (by omega), ob_s]
    simp only []
    rw [if_neg (by decide)]
/-- the phase that level looks at: the truth, or a captain's belief -/
theorem C_lv2 (h : Hp) {j t : Nat} (hj : j ≤ 3) (ht : t < 24) (a3 : Int32) : f_X7_level_12 h (nI j) (nI t) a3 = f_X7_level_65 h (nI t) a3 (if j = 3 then h 1 3 else h (3 + j) 0) := by
  unfold f_X7_level_12 f_X7_level_17
  rw [if_neg (by decide), if_neg (nI_pos (by omega)), L24, if_pos ((lt_iff (by omega) (by decide)).mpr ht)]
  by_cases h3 : j = 3
  · subst h3
    rw [C_isCap_no h (fun j hj e => by have := (eq_iff (by decide) (by omega)).mp e; omega), ob_s]
    simp only []
    rw [if_pos trivial, if_pos trivial]
  · rw [C_isCap_yes h (by omega), ob_s]
    simp only []
    rw [if_neg (by decide), if_pos (inb_nI (by omega) (by decide)), nc (by omega), if_neg h3]
theorem C_lv3 (h : Hp) {b t : Nat} (hb : b < 12) (ht : t < 24) (a3 : Int32) : f_X7_level_65 h (nI t) a3 (nI b) = some (if a3 = 0 then nI (lvl b t) else if a3 = 1 then nI (lvl b t) else -2, h) := by
  unfold f_X7_level_65
  rw [C_levelAt h hb ht, C_levelReached h hb ht, ob_s]
  split
  · rfl
  · split <;> rfl
/-! the hours with water enough -/
def wm (b d : Nat) : Nat → Nat → Int32 → Int32
  | 0, _, a => a
  | n + 1, t, a => wm b d n (t + 1) (if d ≤ lvl b t then a ||| ((1 : Int32) <<< (nI t &&& 31)) else a)
theorem wm_s (b d n t : Nat) (a : Int32) : wm b d (n + 1) t a = wm b d n (t + 1) (if d ≤ lvl b t then a ||| ((1 : Int32) <<< (nI t &&& 31)) else a) := rfl
theorem C_water_loop (h : Hp) {b d : Nat} (hb : b < 12) (hd : d ≤ 6) : ∀ (k n t : Nat) (a : Int32), k < n → t + k = 24 → f_X7_hoursWithWater_4 n h (nI b) (nI d) a (nI t) = some (wm b d k t a, h) := by
  intro k
  induction k with
  | zero =>
    intro n t a hn ht
    obtain ⟨n, rfl⟩ : ∃ m, n = m + 1 := ⟨n - 1, by omega⟩
    rw [f_X7_hoursWithWater_4_s, L24, if_pos ((le_iff (by decide) (by omega)).mpr (by omega))]
    rfl
  | succ k ih =>
    intro n t a hn ht
    obtain ⟨n, rfl⟩ : ∃ m, n = m + 1 := ⟨n - 1, by omega⟩
    rw [f_X7_hoursWithWater_4_s, L24, if_neg (fun z => by have := (le_iff (by decide) (by omega)).mp z; omega), C_levelAt h hb (by omega), ob_s]
    simp only []
    have hle := @lvl_le b t
    unfold f_X7_hoursWithWater_25
    rw [nI_1, wm]
    by_cases hw : d ≤ lvl b t
    · rw [if_neg (fun z => by have := (lt_iff (by omega) (by omega)).mp z; omega), if_pos hw]
      exact ih n (t + 1) _ (by omega) (by omega)
    · rw [if_pos ((lt_iff (by omega) (by omega)).mpr (by omega)), if_neg hw]
      exact ih n (t + 1) _ (by omega) (by omega)
theorem i_or0 (a : Int32) : a ||| 0 = a := by simp
theorem i_0or (a : Int32) : 0 ||| a = a := by simp
