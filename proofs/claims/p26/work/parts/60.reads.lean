/-! p26: WHAT IS READ, as functions of the row of the state now -/
def RD (h h' : Hp) : Prop := (∀ a, a < 31 → h' a = h a) ∧ h' 36 = h 36
theorem RD_rf (h : Hp) : RD h h := ⟨fun _ _ => rfl, rfl⟩
theorem RD_tr {h h1 h2 : Hp} (a : RD h h1) (b : RD h1 h2) : RD h h2 := ⟨fun k hk => (b.1 k hk).trans (a.1 k hk), b.2.trans a.2⟩
theorem RD_41 {h h' : Hp} (e : ∀ a, a < 41 ∨ 48 ≤ a → h' a = h a) : RD h h' := ⟨fun a ha => e a (Or.inl (by omega)), e 36 (Or.inl (by decide))⟩
/-- the state now is the row r -/
def KX (h : Hp) (r : Nat → Int32) : Prop := (∀ i, i < 36 → rC h 1 i = r i) ∧ VR r
theorem KX_rd {h h' : Hp} {r : Nat → Int32} (K : KX h r) (d : RD h h') : KX h' r := ⟨fun i hi => by rw [rC_row (fun a _ _ => d.1 a (by omega)) i hi]; exact K.1 i hi, K.2⟩
theorem KX_caps {h : Hp} {r : Nat → Int32} (K : KX h r) : capsAt h 1 r := fun c hc j hj => by
  have := K.1 (6 + 10 * c + j) (by omega)
  rw [rC_cap hj] at this
  rw [← this, show 1 + 1 + 1 + c = 1 + 2 + c by omega]
theorem KX_low {h : Hp} {r : Nat → Int32} (K : KX h r) {i : Nat} (hi : i < 6) : h 1 (sl i) = r i := by
  have := K.1 i (by omega)
  rwa [rC_low hi] at this
def cO (r : Nat → Int32) (c k : Nat) : Int32 := if k = 4 then nI (ul r c).length else if k ≤ 3 then r (6 + 10 * c + k) else r (6 + 10 * c + (k - 1))
theorem X_captainOf {h : Hp} {r : Nat → Int32} (K : KX h r) {c k : Nat} (hc : c < 3) (hk : k < 11) : ∃ h', f_X7_captainOf h (nI c) (nI k) = some (cO r c k, h') ∧ RD h h' := by
  unfold f_X7_captainOf
  rw [C_isCap_yes h hc, ob_s]
  simp only []
  rw [if_neg n10, if_neg (nI_pos (by omega)), L10, if_pos ((le_iff (by omega) (by decide)).mpr (by omega))]
  by_cases w4 : k = 4
  · subst w4
    rw [if_pos (show nI 4 = (4 : Int32) from rfl)]
    obtain ⟨h1, f1, a1, t1, -⟩ := C_board (Or.inl rfl) K.2 (KX_caps K)
    rw [C_ttOf f1 hc, ob_s]
    simp only []
    rw [if_pos (show isX6 (42 + 2 * c) by omega), (t1 c hc).1]
    exact ⟨h1, rfl, RD_41 a1⟩
  · have w4' : ¬ nI k = (4 : Int32) := fun z => w4 ((eq_iff (by omega) (by decide)).mp z)
    rw [if_neg w4', if_pos (inb_nI hc (by decide)), nc (by omega)]
    unfold cO
    rw [if_neg w4]
    by_cases w3 : k ≤ 3
    · rw [if_pos w3, C_tell h _ (by omega), ob_s, KX_caps K c hc k (by omega)]
      exact ⟨h, rfl, RD_rf h⟩
    · rw [if_neg w3, C_tell2 h _ (by omega) (by omega), ob_s, KX_caps K c hc (k - 1) (by omega)]
      exact ⟨h, rfl, RD_rf h⟩
theorem X_printed {h : Hp} {r : Nat → Int32} (K : KX h r) {c i : Nat} (hc : c < 3) (hi : i < (ul r c).length) : (∃ h', f_X7_printed h (nI c) (nI i) (0 : Int32) = some (nI ((ul r c).getD i 0), h') ∧ RD h h') ∧ ∃ h', f_X7_printed h (nI c) (nI i) (1 : Int32) = some (nI ((ch r c + i) % 2), h') ∧ RD h h' := by
  unfold f_X7_printed
  obtain ⟨h1, f1, a1, t1, -⟩ := C_board (Or.inl rfl) K.2 (KX_caps K)
  obtain ⟨v3, hv⟩ := VR_h K.2 hc
  have t1 := t1 c hc
  have hl := tt_len (cb r c) (cd r c) (cf r c)
  have hi' : i < (tt (cb r c) (cd r c) (cf r c)).length := hi
  rw [C_isCap_yes h hc, ob_s, ob_s]
  simp only []
  rw [if_neg n10, if_neg n10, C_ttOf f1 hc, ob_s, ob_s]
  simp only []
  rw [if_pos (show isX6 (42 + 2 * c) by omega), if_pos (show isX6 (42 + 2 * c) by omega), C_has h1 hl t1.1 (by omega), ob_s, ob_s]
  simp only []
  rw [if_pos hi', if_neg n10, if_neg n10, if_pos trivial, if_neg (show ¬ (1 : Int32) = 0 by decide), if_pos trivial, C_hourOf h1 hl t1.1 hi', ob_s, t1.2.2 i hi', C_pierOf h1 _ t1.2.1 (by omega), ob_s]
  exact ⟨⟨h1, rfl, RD_41 a1⟩, ⟨h1, rfl, RD_41 a1⟩⟩
theorem X_uses {h : Hp} {r : Nat → Int32} (K : KX h r) {p x : Nat} (hp : p < 2) (hx : x < 24) : ∃ h', f_X7_uses h (nI p) (nI x) = some (US r (x * 2 + p), h') ∧ RD h h' := by
  unfold f_X7_uses
  obtain ⟨h1, e1, a1, -, u1⟩ := C_board (Or.inl rfl) K.2 (KX_caps K)
  rw [if_neg (nI_pos (by omega)), L2, if_neg (fun z => by have := (le_iff (by decide) (by omega)).mp z; omega), if_neg (nI_pos (by omega)), L24, if_pos ((lt_iff (by omega) (by decide)).mpr hx), e1, ob_s, C_placeOf, ob_s]
  simp only []
  rw [C_usersAt h1 (by omega), ob_s, u1 _ (by omega)]
  exact ⟨h1, rfl, RD_41 a1⟩
theorem X_uses_no (h : Hp) : f_X7_uses h (2 : Int32) (0 : Int32) = some (-1, h) ∧ f_X7_uses h (0 : Int32) (24 : Int32) = some (-1, h) := by
  unfold f_X7_uses
  exact ⟨by rw [if_neg (by decide), if_pos (by decide)], by rw [if_neg (by decide), if_neg (by decide), if_neg (by decide), if_neg (by decide)]⟩
theorem X_captainOf_no (h : Hp) : f_X7_captainOf h (3 : Int32) (0 : Int32) = some (-1, h) := by
  unfold f_X7_captainOf
  rw [C_isCap, ob_s]
  rfl
def bt0 (r : Nat → Int32) : Nat := (r 1).toNatClampNeg
theorem VR_bt {r : Nat → Int32} (v : VR r) : r 1 = nI (bt0 r) ∧ bt0 r < 12 := by
  obtain ⟨a, -, c⟩ := rng_clamp (by decide) v.1
  exact ⟨a, by unfold bt0; omega⟩
def WM (b d : Nat) : Int32 := wm b d 24 0 0
theorem X_hours {h : Hp} {r : Nat → Int32} (K : KX h r) {c : Nat} (hc : c < 3) : f_X7_hours h (nI c) (0 : Int32) = some (WM (cb r c) (cd r c), h) ∧ f_X7_hours h (nI c) (2 : Int32) = some (WM (cb r c) (cd r c) ^^^ WM (bt0 r) (cd r c), h) := by
  unfold f_X7_hours
  rw [C_isCap_yes h hc, ob_s, ob_s]
  simp only []
  rw [if_neg n10, if_neg n10, if_pos (inb_nI hc (by decide)), if_pos (inb_nI hc (by decide)), nc (by omega)]
  obtain ⟨v0, hb⟩ := VR_b K.2 hc
  obtain ⟨v1, -, hd⟩ := VR_d K.2 hc
  obtain ⟨v2, hbt⟩ := VR_bt K.2
  rw [KX_caps K c hc 0 (by decide), KX_caps K c hc 1 (by decide), v0, v1]
  have z1 : f_X7_hoursWithWater h (nI (cb r c)) (nI (cd r c)) = some (WM (cb r c) (cd r c), h) := C_water_loop h hb hd 24 FU 0 0 (by decide) (by decide)
  have z2 : f_X7_hoursWithWater h (nI (bt0 r)) (nI (cd r c)) = some (WM (bt0 r) (cd r c), h) := C_water_loop h hbt hd 24 FU 0 0 (by decide) (by decide)
  rw [z1, ob_s, ob_s]
  simp only []
  rw [show h 1 3 = nI (bt0 r) from (KX_low K (i := 1) (by decide)).trans v2, KX_caps K c hc 1 (by decide), v1, z2, ob_s, ob_s]
  exact ⟨rfl, rfl⟩
def bl (r : Nat → Int32) (j : Nat) : Nat := if j = 3 then bt0 r else cb r j
theorem bl_lt {r : Nat → Int32} (v : VR r) {j : Nat} (hj : j ≤ 3) : bl r j < 12 := by
  unfold bl
  split
  · exact (VR_bt v).2
  · exact (VR_b v (by omega)).2
theorem X_level {h : Hp} {r : Nat → Int32} (K : KX h r) {j t : Nat} (hj : j ≤ 3) (ht : t < 24) : f_X7_level h (nI j) (nI t) (0 : Int32) = some (nI (lvl (bl r j) t), h) ∧ f_X7_level h (nI j) (nI t) (1 : Int32) = some (nI (lvl (bl r j) t), h) := by
  have e : (if j = 3 then h 1 3 else h (3 + j) 0) = nI (bl r j) := by
    unfold bl
    by_cases h3 : j = 3
    · rw [if_pos h3, if_pos h3]
      exact (KX_low K (i := 1) (by decide)).trans (VR_bt K.2).1
    · rw [if_neg h3, if_neg h3]
      have := KX_caps K j (by omega) 0 (by decide)
      rw [show 1 + 1 + 1 + j = 3 + j by omega] at this
      exact this.trans (VR_b K.2 (by omega)).1
  rw [C_lv1 h hj, C_lv1 h hj, C_lv2 h hj ht, C_lv2 h hj ht, e, C_lv3 h (bl_lt K.2 hj) ht, C_lv3 h (bl_lt K.2 hj) ht]
  exact ⟨rfl, rfl⟩
def nAll (r : Nat → Int32) : Int32 := nI (ul r 0).length + nI (ul r 1).length + nI (ul r 2).length
def cN (r : Nat → Int32) (k : Nat) : Int32 := if k = 0 then r 0 else if k = 1 then r 1 else if k = 2 then r 2 else if k = 3 then nI (ncl r 48 0 0) else if k = 4 then nAll r else if k = 5 then sJ r 4 else if k = 6 then sJ r 8 else if k = 7 then r 5 else if k = 8 then sJ r 5 else if k = 9 then sJ r 6 else if k = 12 then r 3 else r 4
theorem sumsX {h : Hp} {r : Nat → Int32} (K : KX h r) {w : Nat} (h1 : 5 ≤ w) (h2 : w ≤ 10) : f_X5_sumOf h 1 (nI w) = some (sJ r (w - 1), h) := by
  rw [C_sumOf h (j := w - 1) (fun a => C_tell2 h a h1 h2), KX_caps K 0 (by decide) _ (by omega), KX_caps K 1 (by decide) _ (by omega), KX_caps K 2 (by decide) _ (by omega)]
  rfl
theorem X_count {h : Hp} {r : Nat → Int32} (K : KX h r) {k : Nat} (hk : k < 10 ∨ k = 12 ∨ k = 13) : ∃ h', f_X7_count h (nI k) = some (cN r k, h') ∧ RD h h' := by
  have ne : ∀ a b : Nat, a < 14 → b < 14 → a ≠ b → ¬ nI a = nI b := fun a b ha hb z e => z ((eq_iff (by omega) (by omega)).mp e)
  obtain ⟨h1, e1, a1, t1, u1⟩ := C_board (Or.inl rfl) K.2 (KX_caps K)
  unfold f_X7_count
  rcases (show k = 0 ∨ k = 1 ∨ k = 2 ∨ k = 3 ∨ k = 4 ∨ k = 5 ∨ k = 6 ∨ k = 7 ∨ k = 8 ∨ k = 9 ∨ k = 12 ∨ k = 13 by omega) with rfl | rfl | rfl | rfl | rfl | rfl | rfl | rfl | rfl | rfl | rfl | rfl
  · exact ⟨h, by rw [if_pos (by decide), show h 1 6 = r 0 from KX_low K (i := 0) (by decide)]; rfl, RD_rf h⟩
  · exact ⟨h, by rw [if_neg (by decide), if_pos (by decide), show h 1 3 = r 1 from KX_low K (i := 1) (by decide)]; rfl, RD_rf h⟩
  · exact ⟨h, by rw [if_neg (by decide), if_neg (by decide), if_pos (by decide), show h 1 4 = r 2 from KX_low K (i := 2) (by decide)]; rfl, RD_rf h⟩
  · exact ⟨h1, by rw [if_neg (by decide), if_neg (by decide), if_neg (by decide), if_pos (by decide), e1, ob_s, C_clashes u1, ob_s]; rfl, RD_41 a1⟩
  · exact ⟨h1, by rw [if_neg (by decide), if_neg (by decide), if_neg (by decide), if_neg (by decide), if_pos (by decide), e1, ob_s, C_crossings, ob_s, show h1 42 1 = _ from (t1 0 (by decide)).1, show h1 44 1 = _ from (t1 1 (by decide)).1, show h1 46 1 = _ from (t1 2 (by decide)).1]; rfl, RD_41 a1⟩
  · exact ⟨h, by rw [if_neg (by decide), if_neg (by decide), if_neg (by decide), if_neg (by decide), if_neg (by decide), if_pos (by decide), show f_X5_sumOf h 1 (5 : Int32) = _ from sumsX K (w := 5) (by decide) (by decide), ob_s]; rfl, RD_rf h⟩
  · exact ⟨h, by rw [if_neg (by decide), if_neg (by decide), if_neg (by decide), if_neg (by decide), if_neg (by decide), if_neg (by decide), if_pos (by decide), show f_X5_sumOf h 1 (9 : Int32) = _ from sumsX K (w := 9) (by decide) (by decide), ob_s]; rfl, RD_rf h⟩
  · exact ⟨h, by rw [if_neg (by decide), if_neg (by decide), if_neg (by decide), if_neg (by decide), if_neg (by decide), if_neg (by decide), if_neg (by decide), if_pos (by decide), show h 1 5 = r 5 from KX_low K (i := 5) (by decide)]; rfl, RD_rf h⟩
  · exact ⟨h, by rw [if_neg (by decide), if_neg (by decide), if_neg (by decide), if_neg (by decide), if_neg (by decide), if_neg (by decide), if_neg (by decide), if_neg (by decide), if_pos (by decide), show f_X5_sumOf h 1 (6 : Int32) = _ from sumsX K (w := 6) (by decide) (by decide), ob_s]; rfl, RD_rf h⟩
  · exact ⟨h, by rw [if_neg (by decide), if_neg (by decide), if_neg (by decide), if_neg (by decide), if_neg (by decide), if_neg (by decide), if_neg (by decide), if_neg (by decide), if_neg (by decide), if_pos (by decide), show f_X5_sumOf h 1 (7 : Int32) = _ from sumsX K (w := 7) (by decide) (by decide), ob_s]; rfl, RD_rf h⟩
  · exact ⟨h, by rw [if_neg (by decide), if_neg (by decide), if_neg (by decide), if_neg (by decide), if_neg (by decide), if_neg (by decide), if_neg (by decide), if_neg (by decide), if_neg (by decide), if_neg (by decide), if_neg (by decide), if_neg (by decide), if_pos (by decide), show f_X5_tellSetting h 1 (0 : Int32) = _ from C_tellS h 1 (w := 0) (by decide), ob_s, show h 1 (0 + 1) = r 3 from KX_low K (i := 3) (by decide)]; rfl, RD_rf h⟩
  · exact ⟨h, by rw [if_neg (by decide), if_neg (by decide), if_neg (by decide), if_neg (by decide), if_neg (by decide), if_neg (by decide), if_neg (by decide), if_neg (by decide), if_neg (by decide), if_neg (by decide), if_neg (by decide), if_neg (by decide), if_neg (by decide), if_pos (by decide), show f_X5_tellSetting h 1 (1 : Int32) = _ from C_tellS h 1 (w := 1) (by decide), ob_s, show h 1 (1 + 1) = r 4 from KX_low K (i := 4) (by decide)]; rfl, RD_rf h⟩
theorem X_count10 (h : Hp) : f_X7_count h (10 : Int32) = some (h 0 4, h) := by
  unfold f_X7_count
  rw [if_neg (by decide), if_neg (by decide), if_neg (by decide), if_neg (by decide), if_neg (by decide), if_neg (by decide), if_neg (by decide), if_neg (by decide), if_neg (by decide), if_neg (by decide), if_pos (by decide)]
