/-! set, level, hours -/
theorem rng_clamp {x : Int32} {lo hi : Nat} (hhi : hi < 2 ^ 31) (h : rng x lo hi) : x = nI x.toNatClampNeg ∧ lo ≤ x.toNatClampNeg ∧ x.toNatClampNeg ≤ hi := by
  obtain ⟨n, h1, h2, rfl⟩ := h
  rw [nc (by omega)]
  exact ⟨rfl, h1, h2⟩
def cb (r : Nat → Int32) (c : Nat) : Nat := (r (6 + 10 * c + 0)).toNatClampNeg
def cd (r : Nat → Int32) (c : Nat) : Nat := (r (6 + 10 * c + 1)).toNatClampNeg
def cf (r : Nat → Int32) (c : Nat) : Nat := (r (6 + 10 * c + 2)).toNatClampNeg
def ch (r : Nat → Int32) (c : Nat) : Nat := (r (6 + 10 * c + 3)).toNatClampNeg
theorem VR_b {r : Nat → Int32} (v : VR r) {c : Nat} (hc : c < 3) : r (6 + 10 * c + 0) = nI (cb r c) ∧ cb r c < 12 := by
  have h := rng_clamp (by decide) (v.2.2.2.2.1 c hc).1
  exact ⟨h.1, by have := h.2.2; show (r (6 + 10 * c + 0)).toNatClampNeg < 12; omega⟩
theorem VR_d {r : Nat → Int32} (v : VR r) {c : Nat} (hc : c < 3) : r (6 + 10 * c + 1) = nI (cd r c) ∧ 1 ≤ cd r c ∧ cd r c ≤ 6 := by
  have h := rng_clamp (by decide) (v.2.2.2.2.1 c hc).2.1
  exact h
theorem VR_f {r : Nat → Int32} (v : VR r) {c : Nat} (hc : c < 3) : r (6 + 10 * c + 2) = nI (cf r c) ∧ cf r c < 24 := by
  have h := rng_clamp (by decide) (v.2.2.2.2.1 c hc).2.2.1
  exact ⟨h.1, by have := h.2.2; show (r (6 + 10 * c + 2)).toNatClampNeg < 24; omega⟩
theorem VR_h {r : Nat → Int32} (v : VR r) {c : Nat} (hc : c < 3) : r (6 + 10 * c + 3) = nI (ch r c) ∧ ch r c < 2 := by
  have h := rng_clamp (by decide) (v.2.2.2.2.1 c hc).2.2.2
  exact ⟨h.1, by have := h.2.2; show (r (6 + 10 * c + 3)).toNatClampNeg < 2; omega⟩
theorem VR_ph {r : Nat → Int32} (v : VR r) : ∃ b, b < 12 ∧ r 1 = nI b := by
  obtain ⟨b, -, h, e⟩ := v.1
  exact ⟨b, by omega, e⟩
def hiS (w : Nat) : Nat := if w = 0 then 1 else 9
theorem hiS_lt (w : Nat) : hiS w < 2 ^ 31 := by
  unfold hiS
  split <;> decide
theorem w_tab1 : ∀ w, w < 2 → sL1 w = nI w ∧ sG1 w = nI (hiS w) := by decide
theorem C_tellS (h : Hp) (k : Nat) {w : Nat} (hw : w < 2) : f_X5_tellSetting h k (nI w) = some (h k (w + 1), h) := by
  unfold f_X5_tellSetting
  rcases (show w = 0 ∨ w = 1 by omega) with rfl | rfl <;> rfl
theorem C_chgS (h : Hp) (k : Nat) {w : Nat} (hw : w < 2) (v : Int32) : f_X5_changeSetting h k (nI w) v = some (hs h k (w + 1) v) := by
  unfold f_X5_changeSetting
  rcases (show w = 0 ∨ w = 1 by omega) with rfl | rfl <;> rfl
theorem M_set_yes (hm : Hp) {w : Nat} (hw : w < 2) (a2 : Int32) : f_X8_set hm (nI w) a2 = f_X8_set_21 hm (nI w) a2 a2 (nI w) (nI (hiS w)) := by
  unfold f_X8_set
  simp only [L0, L1]
  rw [M_in_yes hm (by omega) (by omega) (by decide), ob_s]
  simp only []
  rw [if_neg (show ¬ (1 : Int32) = nI 0 by decide)]
  rcases (show w = 0 ∨ w = 1 by omega) with rfl | rfl
  · rw [if_pos rfl]; rfl
  · rw [if_neg (by decide)]; rfl
theorem sl_set {w : Nat} (hw : w < 2) : sl (3 + w) = w + 1 := by
  rcases (show w = 0 ∨ w = 1 by omega) with rfl | rfl <;> rfl
theorem st_set : ST_3 SIM := by
  intro h hm s a1 a2
  rcases a_cases a1 1 (by decide) with ⟨w, hw, rfl⟩ | ⟨hn, -⟩
  · have hw2 : w < 2 := by omega
    obtain ⟨t1, t2⟩ := w_tab1 w hw2
    rw [M_set_yes hm hw2]
    unfold f_X7_set f_X7_isValueOfSetting f_X8_set_21
    rw [ob_s]
    simp only []
    by_cases hv : ∃ v, w ≤ v ∧ v ≤ hiS w ∧ a2 = nI v
    · obtain ⟨v, v1, v2, rfl⟩ := hv
      rw [within_yes (by decide) hw2 t1 t2 v1 v2 (hiS_lt w), if_neg (by decide), C_tellS h 1 hw2, ob_s]
      simp only []
      rw [M_in_yes hm v1 v2 (hiS_lt w), ob_s]
      simp only []
      rw [if_neg n10, L3, nI_add, M_change hm (by omega)]
      have hr : h 1 (w + 1) = hm 1 (3 + w) := by
        have := low_at s (i := 3 + w) (by omega)
        rwa [sl_set hw2] at this
      rw [hr]
      by_cases e : hm 1 (3 + w) = nI v
      · rw [if_pos e, if_pos e]
        exact ⟨_, h, hm, rfl, rfl, s⟩
      · rw [if_neg e, if_neg e]
        obtain ⟨h1, hm1, x1, x2, s1, -⟩ := REC s
        rw [x1, x2, ob_s, ob_s, C_chgS h1 1 hw2, ob_s]
        refine ⟨_, _, _, rfl, rfl, ?_⟩
        have hvr : VR (upd (hm1 1) (3 + w) (nI v)) := by
          refine VR_low s1.2.1 (fun z => by omega) (fun z => by omega) (fun z => ⟨v, by omega, ?_, rfl⟩) (fun z => ⟨v, by omega, ?_, rfl⟩) (by omega) (by omega)
          · have : w = 0 := by omega
            subst this
            exact v2
          · have : w = 1 := by omega
            subst this
            exact v2
        have := set_now s1 (i := 3 + w) (by omega) hvr
        rwa [sl_set hw2] at this
    · have hv' : ∀ j, w ≤ j → j ≤ hiS w → a2 ≠ nI j := fun j h1 h2 e => hv ⟨j, h1, h2, e⟩
      rw [within_no2 (by decide) hw2 t1 t2 (hiS_lt w) (by omega) hv', if_pos rfl, M_in_no hm (hiS_lt w) (by omega) hv', ob_s]
      exact ⟨_, h, hm, rfl, rfl, s⟩
  · unfold f_X7_set f_X7_isValueOfSetting f_X8_set
    rw [ob_s, within_no1 (by decide) (fun j hj => hn j (by omega))]
    simp only [L0, L1]
    rw [M_in_no hm (by decide) (by decide) (fun j _ hj => hn j hj), ob_s]
    exact ⟨_, h, hm, rfl, rfl, s⟩
/-! levels -/
def dirN (b t : Nat) : Nat := if 6 ≤ (t + b) % 12 then 0 else 1
theorem rstep : ∀ b, b < 12 → ∀ t, t < 24 → (dirN b t = 0 → nI (lvl b t) + (1 : Int32) = nI (lvl b (t + 1))) ∧ (dirN b t = 1 → nI (lvl b t) + (-1 : Int32) = nI (lvl b (t + 1))) ∧ dirN b (t + 1) = (if lvl b (t + 1) = 0 then 0 else if lvl b (t + 1) = 6 then 1 else dirN b t) := by decide +kernel
theorem C_reach (h : Hp) {b : Nat} (hb : b < 12) : ∀ (n t T : Nat), T < n + t → t ≤ T → T < 24 → f_X7_levelReached_21 n h (nI T) (nI (lvl b t)) (nI (dirN b t)) (nI t) = some (nI (lvl b T), h) := by
  intro n
  induction n with
  | zero => intro t T h1 h2; omega
  | succ n ih =>
    intro t T h1 h2 h3
    rw [f_X7_levelReached_21_s]
    by_cases e : T ≤ t
    · rw [if_pos ((le_iff (by omega) (by omega)).mpr e), show t = T by omega]
    · rw [if_neg (fun z => e ((le_iff (by omega) (by omega)).mp z))]
      obtain ⟨q1, q2, q3⟩ := rstep b hb t (by omega)
      have key : ∀ d : Int32, nI (lvl b t) + d = nI (lvl b (t + 1)) → f_X7_levelReached_37 (f_X7_levelReached_21 n) h (nI T) (nI (dirN b t)) (nI t) (nI (lvl b t)) d = some (nI (lvl b T), h) := by
        intro d hd
        unfold f_X7_levelReached_37 f_X7_levelReached_56
        rw [hd, nI_1]
        have hl := @lvl_le b (t + 1)
        have hih := ih (t + 1) T (by omega) (by omega) h3
        rw [q3] at hih
        simp only [L0, L6, L1]
        by_cases e0 : lvl b (t + 1) = 0
        · rw [if_pos e0] at hih
          rw [if_pos ((eq_iff (by omega) (by decide)).mpr e0)]
          exact hih
        · rw [if_neg e0] at hih
          rw [if_neg (fun z => e0 ((eq_iff (by omega) (by decide)).mp z))]
          by_cases e6 : lvl b (t + 1) = 6
          · rw [if_pos e6] at hih
            rw [if_pos ((eq_iff (by omega) (by decide)).mpr e6)]
            exact hih
          · rw [if_neg e6] at hih
            rw [if_neg (fun z => e6 ((eq_iff (by omega) (by decide)).mp z))]
            exact hih
      rcases (show dirN b t = 0 ∨ dirN b t = 1 by unfold dirN; split <;> omega) with e0 | e1
      · rw [if_pos (by rw [e0]; rfl)]
        exact key 1 (q1 e0)
      · rw [if_neg (by rw [e1]; decide)]
        exact key (-1) (q2 e1)
theorem C_levelReached (h : Hp) {b t : Nat} (hb : b < 12) (ht : t < 24) : f_X7_levelReached h (nI b) (nI t) = some (nI (lvl b t), h) := by
  unfold f_X7_levelReached f_X7_levelReached_17
  have hz : f_X7_levelAt h (nI b) (0 : Int32) = some (nI (lvl b 0), h) := C_levelAt h hb (by decide)
  rw [hz, ob_s]
  simp only [L6]
  have := C_reach h hb FU 0 t (by have := FUv; omega) (by omega) ht
  by_cases e : 6 ≤ b
  · rw [if_pos ((le_iff (by decide) (by omega)).mpr e)]
    rw [show dirN b 0 = 0 by unfold dirN; rw [if_pos (by omega)]] at this
    exact this
  · rw [if_neg (fun z => e ((le_iff (by decide) (by omega)).mp z))]
    rw [show dirN b 0 = 1 by unfold dirN; rw [if_neg (by omega)]] at this
    exact this
theorem C_isCap_yes (h : Hp) {c : Nat} (hc : c < 3) : f_X7_isCaptain h (nI c) = some (1, h) := by
  rw [C_isCap, if_neg (nI_pos (by omega)), L3, if_neg (fun z => by have := (le_iff (by decide) (by omega)).mp z; omega)]
theorem C_isCap_no (h : Hp) {a : Int32} (hn : ∀ j, j < 3 → a ≠ nI j) : f_X7_isCaptain h a = some (0, h) := by
  rw [C_isCap]
  by_cases h0 : a < 0
  · rw [if_pos h0]
  · rw [if_neg h0]
    obtain ⟨j, hj, rfl⟩ := nI_of h0
    have : 3 ≤ j := by
      rcases Nat.lt_or_ge j 3 with q | q
      · exact absurd rfl (hn j q)
      · exact q
    rw [L3, if_pos ((le_iff (by decide) hj).mpr this)]
theorem C_lv1 (h : Hp) {j : Nat} (hj : j ≤ 3) (a2 a3 : Int32) : f_X7_level h (nI j) a2 a3 = f_X7_level_12 h (nI j) a2 a3 := by
  unfold f_X7_level
  by_cases h3 : j = 3
  · subst h3
    rw [C_isCap_no h (fun j hj e => by have := (eq_iff (by decide) (by omega)).mp e; omega), ob_s]
    simp only []
    rw [if_pos trivial, if_pos L3.symm]
  · rw [C_isCap_yes h (by omega), ob_s]
    simp only []
    rw [if_neg (by decide)]
/-- the phase that level looks at: the truth, or a captain's belief -/
theorem C_lv2 (h : Hp) {j t : Nat} (hj : j ≤ 3) (ht : t < 24) (a3 : Int32) : f_X7_level_12 h (nI j) (nI t) a3 = f_X7_level_65 h (nI t) a3 (if j = 3 then h 1 3 else h (3 + j) 0) := by
  unfold f_X7_level_12 f_X7_level_17
  rw [if_neg (by decide), if_neg (nI_pos (by omega)), L24, if_pos ((lt_iff (by omega) (by decide)).mpr ht)]
  by_cases h3 : j = 3
  · subst h3
    rw [C_isCap_no h (fun j hj e => by have := (eq_iff (by decide) (by omega)).mp e; omega), ob_s]
    simp only []
    rw [if_pos trivial, if_pos trivial]
  · rw [C_isCap_yes h (by omega), ob_s]
    simp only []
    rw [if_neg (by decide), if_pos (inb_nI (by omega) (by decide)), nc (by omega), if_neg h3]
theorem C_lv3 (h : Hp) {b t : Nat} (hb : b < 12) (ht : t < 24) (a3 : Int32) : f_X7_level_65 h (nI t) a3 (nI b) = some (if a3 = 0 then nI (lvl b t) else if a3 = 1 then nI (lvl b t) else -2, h) := by
  unfold f_X7_level_65
  rw [C_levelAt h hb ht, C_levelReached h hb ht, ob_s]
  split
  · rfl
  · split <;> rfl
theorem st_level : ST_14 SIM := by
  intro h hm s a1 a2 a3
  rcases a_cases a1 3 (by decide) with ⟨j, hj, rfl⟩ | ⟨hn, -⟩
  · rw [C_lv1 h hj]
    unfold f_X8_level
    simp only [L0, L3, L23, L1]
    rw [M_in_yes hm (by omega) hj (by decide), ob_s]
    simp only []
    rw [if_neg (show ¬ (1 : Int32) = nI 0 by decide)]
    rcases a_cases a2 23 (by decide) with ⟨t, ht, rfl⟩ | ⟨hn, hout⟩
    · rw [M_in_yes hm (by omega) ht (by decide), ob_s]
      simp only []
      rw [if_neg (show ¬ (1 : Int32) = nI 0 by decide), C_lv2 h hj (by omega)]
      obtain ⟨b, hb, e1, e2⟩ : ∃ b, b < 12 ∧ (if j = 3 then h 1 3 else h (3 + j) 0) = nI b ∧ (if nI j = nI 3 then if inb (nI 1) 36 = true then f_X8_level_50 hm (nI t) (hm 1 (nI 1).toNatClampNeg) else none else (f_X8_of hm (nI j) (nI 0)).bind (fun q4 => f_X8_level_50 q4.2 (nI t) q4.1)) = f_X8_level_50 hm (nI t) (nI b) := by
        by_cases h3 : j = 3
        · subst h3
          obtain ⟨b, hb, e⟩ := VR_ph s.2.1
          refine ⟨b, hb, ?_, ?_⟩
          · rw [if_pos rfl]
            exact (low_at s (i := 1) (by decide)).trans e
          · rw [if_pos rfl, if_pos (inb_nI (by decide) (by decide)), nc (by decide), e]
        · obtain ⟨e, hb⟩ := VR_b s.2.1 (c := j) (by omega)
          refine ⟨_, hb, ?_, ?_⟩
          · rw [if_neg h3]
            exact (cap_at s (by omega) (by decide)).trans e
          · rw [if_neg (fun z => h3 ((eq_iff (by omega) (by decide)).mp z)), M_of hm (by omega) (by decide), ob_s, e]
      rw [e1, C_lv3 h hb (by omega)]
      rcases a_cases a3 1 (by decide) with ⟨k, hk, rfl⟩ | ⟨hn, -⟩
      · rw [M_in_yes hm (by omega) hk (by decide), ob_s]
        simp only []
        rw [if_neg (show ¬ (1 : Int32) = nI 0 by decide), e2]
        unfold f_X8_level_50
        rw [M_levelOf hm hb (by omega), ob_s]
        refine ⟨_, h, hm, ?_, rfl, s⟩
        rcases (show k = 0 ∨ k = 1 by omega) with rfl | rfl
        · rw [if_pos (show nI 0 = 0 from rfl)]
        · rw [if_neg (show ¬ nI 1 = 0 by decide), if_pos (show nI 1 = 1 from rfl)]
      · rw [M_in_no hm (by decide) (by decide) (fun j _ hj => hn j hj), ob_s]
        refine ⟨-2, h, hm, ?_, rfl, s⟩
        rw [if_neg (fun (z : a3 = 0) => hn 0 (by decide) z), if_neg (fun (z : a3 = 1) => hn 1 (by decide) z)]
    · rw [M_in_no hm (by decide) (by decide) (fun j _ hj => hn j hj), ob_s]
      refine ⟨-1, h, hm, ?_, rfl, s⟩
      unfold f_X7_level_12 f_X7_level_17
      rw [if_neg (by decide)]
      rcases hout with h0 | ⟨h0, h1⟩
      · rw [if_pos h0]
      · rw [if_neg h0, if_neg (fun z => by
          obtain ⟨k, hk, rfl⟩ := nI_of h0
          have := (lt_iff (by decide) hk).mp h1
          have := (lt_iff hk (by decide)).mp (show nI k < nI 24 from z)
          omega)]
  · unfold f_X7_level f_X8_level
    simp only [L0, L3]
    rw [M_in_no hm (by decide) (by decide) (fun j _ hj => hn j hj), ob_s, C_isCap_no h (fun j hj => hn j (by omega)), ob_s]
    simp only []
    rw [if_pos (show (0 : Int32) = nI 0 from rfl), if_neg (hn 3 (by decide))]
    exact ⟨_, h, hm, rfl, rfl, s⟩
/-! the hours with water enough -/
def wm (b d : Nat) : Nat → Nat → Int32 → Int32
  | 0, _, a => a
  | n + 1, t, a => wm b d n (t + 1) (if d ≤ lvl b t then a ||| ((1 : Int32) <<< (nI t &&& 31)) else a)
theorem wm_s (b d n t : Nat) (a : Int32) : wm b d (n + 1) t a = wm b d n (t + 1) (if d ≤ lvl b t then a ||| ((1 : Int32) <<< (nI t &&& 31)) else a) := rfl
theorem C_water_loop (h : Hp) {b d : Nat} (hb : b < 12) (hd : d ≤ 6) : ∀ (k n t : Nat) (a : Int32), k < n → t + k = 24 → f_X7_hoursWithWater_4 n h (nI b) (nI d) a (nI t) = some (wm b d k t a, h) := by
  intro k
  induction k with
  | zero =>
    intro n t a hn ht
    obtain ⟨n, rfl⟩ : ∃ m, n = m + 1 := ⟨n - 1, by omega⟩
    rw [f_X7_hoursWithWater_4_s, L24, if_pos ((le_iff (by decide) (by omega)).mpr (by omega))]
    rfl
  | succ k ih =>
    intro n t a hn ht
    obtain ⟨n, rfl⟩ : ∃ m, n = m + 1 := ⟨n - 1, by omega⟩
    rw [f_X7_hoursWithWater_4_s, L24, if_neg (fun z => by have := (le_iff (by decide) (by omega)).mp z; omega), C_levelAt h hb (by omega), ob_s]
    simp only []
    have hle := @lvl_le b t
    unfold f_X7_hoursWithWater_25
    rw [nI_1, wm]
    by_cases hw : d ≤ lvl b t
    · rw [if_neg (fun z => by have := (lt_iff (by omega) (by omega)).mp z; omega), if_pos hw]
      exact ih n (t + 1) _ (by omega) (by omega)
    · rw [if_pos ((lt_iff (by omega) (by omega)).mpr (by omega)), if_neg hw]
      exact ih n (t + 1) _ (by omega) (by omega)
theorem i_or0 (a : Int32) : a ||| 0 = a := by simp
theorem i_0or (a : Int32) : 0 ||| a = a := by simp
theorem M_hours_loop {hm : Hp} {c b d : Nat} (hc : c < 3) {bt : Nat} (hb : b < 12) (hbt : bt < 12) (hd : d ≤ 6) (h0 : hm 1 (6 + 10 * c + 0) = nI b) (h1 : hm 1 (6 + 10 * c + 1) = nI d) (hph : hm 1 1 = nI bt) (x2 : Int32) : ∀ (k n t : Nat) (a a' : Int32), k < n → t + k = 24 → f_X8_hours_29 n hm (nI c) x2 a a' (nI t) = some (if x2 = 0 then wm b d k t a else if x2 = 1 then wm bt d k t a' else wm b d k t a ^^^ wm bt d k t a', hm) := by
  intro k
  induction k with
  | zero =>
    intro n t a a' hn ht
    obtain ⟨n, rfl⟩ : ∃ m, n = m + 1 := ⟨n - 1, by omega⟩
    rw [f_X8_hours_29_s, L24, if_pos ((le_iff (by decide) (by omega)).mpr (by omega))]
    simp only [wm]
    split
    · rfl
    · split <;> rfl
  | succ k ih =>
    intro n t a a' hn ht
    obtain ⟨n, rfl⟩ : ∃ m, n = m + 1 := ⟨n - 1, by omega⟩
    have hof : f_X8_of hm (nI c) (0 : Int32) = some (nI b, hm) := by
      rw [L0, M_of hm hc (by decide), h0]
    rw [f_X8_hours_29_s, L24, if_neg (fun z => by have := (le_iff (by decide) (by omega)).mp z; omega), hof, ob_s]
    simp only []
    rw [M_isEnough hm hc hb (by omega) hd h1, ob_s]
    simp only []
    have key : ∀ (a1 : Int32) (t0 t1 : Int32), t0 ||| t1 = a1 → f_X8_hours_61 (f_X8_hours_29 n) hm (nI c) x2 a' (nI t) t0 t1 = some (if x2 = 0 then wm b d k (t + 1) a1 else if x2 = 1 then wm bt d (k + 1) t a' else wm b d k (t + 1) a1 ^^^ wm bt d (k + 1) t a', hm) := by
      intro a1 t0 t1 ht1
      unfold f_X8_hours_61
      rw [if_pos (show inb (1 : Int32) 36 = true from inb_nI (a := 1) (by decide) (by decide)), show (1 : Int32).toNatClampNeg = 1 from rfl, hph, M_isEnough hm hc hbt (by omega) hd h1, ob_s]
      simp only []
      unfold f_X8_hours_89
      rw [ht1, nI_1]
      by_cases hw : d ≤ lvl bt t
      · rw [if_pos hw, if_neg (by decide), ih n (t + 1) _ _ (by omega) (by omega), wm_s bt d, if_pos hw]
      · rw [if_neg hw, if_pos z00, i_or0, ih n (t + 1) _ _ (by omega) (by omega), wm_s bt d, if_neg hw]
    by_cases hw : d ≤ lvl b t
    · rw [if_pos hw, if_neg (by decide), key _ _ _ rfl, wm_s b d, if_pos hw]
    · rw [if_neg hw, if_pos z00, key a _ _ (i_or0 a), wm_s b d, if_neg hw]
theorem st_hours : ST_17 SIM := by
  intro h hm s a1 a2
  unfold f_X7_hours f_X8_hours
  rcases cap_cases h hm a1 with ⟨c, hc, rfl, e1, e2⟩ | ⟨e1, e2⟩
  · rw [e1, e2, ob_s, ob_s]
    simp only []
    rw [if_neg n10, if_neg n10, if_pos (inb_nI hc (by decide)), nc (by omega)]
    obtain ⟨v0, hb⟩ := VR_b s.2.1 hc
    obtain ⟨v1, -, hd⟩ := VR_d s.2.1 hc
    obtain ⟨bt, hbt, v2⟩ := VR_ph s.2.1
    rw [show 1 + 1 + 1 + c = 3 + c by omega, cap_at s hc (by decide), cap_at s hc (by decide), v0, v1]
    unfold f_X7_hoursWithWater
    have z1 := C_water_loop h hb hd 24 FU 0 0 (by decide) (by decide)
    have z2 := C_water_loop h hbt hd 24 FU 0 0 (by decide) (by decide)
    rw [show (0 : Int32) = nI 0 from rfl] at z1 z2
    simp only [L0]
    rw [z1, ob_s]
    simp only []
    rw [show h 1 3 = nI bt from (low_at s (i := 1) (by decide)).trans v2, cap_at s hc (by decide), v1, z2, ob_s]
    simp only []
    rcases a_cases a2 2 (by decide) with ⟨k, hk, rfl⟩ | ⟨hn, -⟩
    · rw [show f_X8_in hm (nI k) (nI 0) (2 : Int32) = some (1, hm) from M_in_yes hm (by omega) hk (by decide), ob_s]
      simp only []
      rw [if_neg (show ¬ (1 : Int32) = nI 0 by decide)]
      have z3 := M_hours_loop hc hb hbt hd v0 v1 v2 (nI k) 24 FU 0 0 0 (by decide) (by decide)
      rw [show (0 : Int32) = nI 0 from rfl] at z3
      rw [z3]
      refine ⟨_, h, hm, ?_, rfl, s⟩
      rcases (show k = 0 ∨ k = 1 ∨ k = 2 by omega) with rfl | rfl | rfl
      · rw [if_pos rfl, if_pos rfl]
      · rw [if_neg (show ¬ nI 1 = nI 0 by decide), if_neg (show ¬ nI 1 = nI 0 by decide), if_pos (show nI 1 = (1 : Int32) by decide), if_pos (show nI 1 = (1 : Int32) by decide)]
      · rw [if_neg (show ¬ nI 2 = nI 0 by decide), if_neg (show ¬ nI 2 = nI 0 by decide), if_neg (show ¬ nI 2 = (1 : Int32) by decide), if_neg (show ¬ nI 2 = (1 : Int32) by decide), if_pos (show nI 2 = (2 : Int32) by decide)]
    · rw [show f_X8_in hm a2 (nI 0) (2 : Int32) = some (0, hm) from M_in_no hm (by decide) (by decide) (lo := 0) (hi := 2) (fun j _ hj => hn j hj), ob_s]
      refine ⟨-2, h, hm, ?_, rfl, s⟩
      rw [if_neg (fun (z : a2 = nI 0) => hn 0 (by decide) z), if_neg (fun (z : a2 = 1) => hn 1 (by decide) z), if_neg (fun (z : a2 = 2) => hn 2 (by decide) z)]
  · rw [e1, e2, ob_s, ob_s]
    exact ⟨_, h, hm, rfl, rfl, s⟩
