/-! acts: captain, truth, set, lot; texts and history -/
theorem in_yes {j lo hi : Nat} (h1 : lo ≤ j) (h2 : j ≤ hi) (hh : hi < 2 ^ 31) : (if nI j < nI lo then (0 : Int32) else if nI hi < nI j then 0 else 1) = 1 := by
  rw [if_neg (fun z => by have := (lt_iff (by omega) (by omega)).mp z; omega), if_neg (fun z => by have := (lt_iff (by omega) (by omega)).mp z; omega)]
theorem M_in_yes (hm : Hp) {j lo hi : Nat} (h1 : lo ≤ j) (h2 : j ≤ hi) (hh : hi < 2 ^ 31) : f_X8_in hm (nI j) (nI lo) (nI hi) = some (1, hm) := by rw [M_in, in_yes h1 h2 hh]
theorem M_in_no (hm : Hp) {a : Int32} {lo hi : Nat} (hh : hi < 2 ^ 31) (hl : lo < 2 ^ 31) (h : ∀ j, lo ≤ j → j ≤ hi → a ≠ nI j) : f_X8_in hm a (nI lo) (nI hi) = some (0, hm) := by
  rw [M_in]
  by_cases h0 : a < nI lo
  · rw [if_pos h0]
  · rw [if_neg h0]
    have h00 : ¬ a < 0 := fun z => by
      rcases arg_rng a 0 (by decide) with ⟨j, hj, e⟩ | q | ⟨q, -⟩
      · subst e; exact absurd z (nI_pos (by omega))
      · have hz : nI lo ≤ a := Int32.not_lt.mp h0
        have : (0 : Int32) ≤ nI lo := nI_pos' hl
        exact absurd (Int32.lt_of_lt_of_le (Int32.lt_of_lt_of_le q this) hz) (Int32.lt_irrefl)
      · exact q z
    obtain ⟨j, hj, rfl⟩ := nI_of h00
    have hlo : lo ≤ j := by
      rcases Nat.lt_or_ge j lo with q | q
      · exact absurd ((lt_iff hj hl).mpr q) h0
      · exact q
    have hhi : hi < j := by
      rcases Nat.lt_or_ge hi j with q | q
      · exact q
      · exact absurd rfl (h j hlo q)
    rw [if_pos ((lt_iff hh hj).mpr hhi)]
/-- in the range 0 .. n, or not -/
theorem a_cases (a : Int32) (n : Nat) (hn : n < 2 ^ 31) : (∃ j : Nat, j ≤ n ∧ a = nI j) ∨ ((∀ j, j ≤ n → a ≠ nI j) ∧ (a < 0 ∨ (¬ a < 0 ∧ nI n < a))) := by
  rcases arg_rng a n hn with h | h | ⟨h0, h1, j, hj, hj2, rfl⟩
  · exact Or.inl h
  · exact Or.inr ⟨fun j hj e => by subst e; exact absurd h (nI_pos (by omega)), Or.inl h⟩
  · exact Or.inr ⟨fun i hi e => by have := (eq_iff hj2 (by omega)).mp e; omega, Or.inr ⟨h0, h1⟩⟩
theorem M_change (hm : Hp) {i : Nat} (hi : i < 36) (v : Int32) : f_X8_change hm (nI i) v = if hm 1 i = v then some (-5, hm) else (f_X8_record hm).bind (fun q => some (hm 1 i, hs q 1 i v)) := by
  unfold f_X8_change
  rw [if_pos (inb_nI hi (by decide)), nc (by omega)]
  split
  · rfl
  · congr 1
    funext q
    rw [if_pos (inb_nI hi (by decide))]
/-- one number of the state now is changed, on both sides -/
theorem set_now {h hm : Hp} (s : SIM h hm) {i : Nat} (hi : i < 6) {v : Int32} (hv : VR (upd (hm 1) i v)) : SIM (hs h 1 (sl i) v) (hs hm 1 i v) := by
  have hsl : ∀ j, j < 6 → j ≠ i → sl j ≠ sl i := by
    intro j hj hji
    rcases (show i = 0 ∨ i = 1 ∨ i = 2 ∨ i = 3 ∨ i = 4 ∨ i = 5 by omega) with rfl | rfl | rfl | rfl | rfl | rfl <;> rcases (show j = 0 ∨ j = 1 ∨ j = 2 ∨ j = 3 ∨ j = 4 ∨ j = 5 by omega) with rfl | rfl | rfl | rfl | rfl | rfl <;> first | (exact absurd rfl hji) | decide
  refine SIM_now s (fun j => hs_k (by decide)) (fun a h6 _ => hs_r (by omega)) (hs_r (by decide)) (hs_k (by decide)) (hs_r (by decide)) (fun j _ _ => hs_k (by decide)) ?_ (by rw [hs_row]; exact hv) (hs_r (by decide)) (hs_r (by decide)) (hs_r (by decide))
  refine rC_cases (fun j hj => ?_) (fun c hc j hj => ?_)
  · by_cases hji : j = i
    · subst hji
      rw [rC_low hj, hs_at, hs_at]
    · rw [rC_low hj, hs_j (hsl j hj hji), hs_j hji]
      exact low_at s hj
  · rw [rC_cap hj, hs_k (by omega), hs_j (by omega), show 1 + 2 + c = 3 + c by omega]
    exact cap_at s hc hj
theorem set_cap {h hm : Hp} (s : SIM h hm) {c w : Nat} (hc : c < 3) (hw : w < 4) {v : Int32} (hv : VR (upd (hm 1) (6 + 10 * c + w) v)) : SIM (hs h (3 + c) w v) (hs hm 1 (6 + 10 * c + w) v) := by
  refine SIM_now s (fun j => hs_k (by omega)) (fun a h6 _ => hs_r (by omega)) (hs_r (by omega)) (hs_k (by omega)) (hs_r (by omega)) (fun j _ _ => hs_k (by decide)) ?_ (by rw [hs_row]; exact hv) (hs_r (by decide)) (hs_r (by decide)) (hs_r (by decide))
  refine rC_cases (fun j hj => ?_) (fun c2 hc2 j hj => ?_)
  · rw [rC_low hj, hs_k (by omega), hs_j (by omega)]
    exact low_at s hj
  · rw [rC_cap hj]
    by_cases hcc : c2 = c ∧ j = w
    · obtain ⟨rfl, rfl⟩ := hcc
      rw [show 1 + 2 + c2 = 3 + c2 by omega, hs_at, hs_at]
    · rw [hs_j (show 6 + 10 * c2 + j ≠ 6 + 10 * c + w by omega), ← s.1 _ (by omega : 6 + 10 * c2 + j < 36), rC_cap hj]
      by_cases hc1 : c2 = c
      · exact hs_j (by omega)
      · exact hs_k (by omega)
theorem VR_low {r : Nat → Int32} (h : VR r) {i : Nat} {v : Int32} (h1 : i = 1 → rng v 0 11) (h2 : i = 2 → rng v 0 65536) (h3 : i = 3 → rng v 0 1) (h4 : i = 4 → rng v 1 9) (hi : i < 6) (h0 : i ≠ 0) : VR (upd r i v) := by
  obtain ⟨r1, r2, r3, r4, r5, dy, d1, d2, d3⟩ := h
  have g : ∀ {lo hi j : Nat}, (i = j → rng v lo hi) → rng (r j) lo hi → rng (upd r i v j) lo hi := by
    intro lo hi j ha hb
    unfold upd
    by_cases hji : j = i
    · rw [if_pos hji]; exact ha hji.symm
    · rw [if_neg hji]; exact hb
  refine ⟨g h1 r1, g h2 r2, g h3 r3, g h4 r4, fun c hc => ?_, dy, d1, ?_, fun c hc => ?_⟩
  · have := r5 c hc
    exact ⟨g (fun z => by omega) this.1, g (fun z => by omega) this.2.1, g (fun z => by omega) this.2.2.1, g (fun z => by omega) this.2.2.2⟩
  · unfold upd; rw [if_neg (by omega)]; exact d2
  · unfold upd; rw [if_neg (by omega), if_neg (by omega)]; exact d3 c hc
def loW (w : Nat) : Nat := if w = 1 then 1 else 0
def hiW (w : Nat) : Nat := if w = 0 then 11 else if w = 1 then 6 else if w = 2 then 23 else 1
theorem VR_cap {r : Nat → Int32} (h : VR r) {c w : Nat} {v : Int32} (hc : c < 3) (hw : w < 4) (hv : rng v (loW w) (hiW w)) : VR (upd r (6 + 10 * c + w) v) := by
  obtain ⟨r1, r2, r3, r4, r5, dy, d1, d2, d3⟩ := h
  have o : ∀ {j : Nat}, j ≠ 6 + 10 * c + w → upd r (6 + 10 * c + w) v j = r j := fun hj => if_neg hj
  refine ⟨by rw [o (by omega)]; exact r1, by rw [o (by omega)]; exact r2, by rw [o (by omega)]; exact r3, by rw [o (by omega)]; exact r4, fun c2 hc2 => ?_, dy, d1, by rw [o (by omega)]; exact d2, fun c2 hc2 => by rw [o (by omega), o (by omega)]; exact d3 c2 hc2⟩
  have g : ∀ k, k < 4 → rng (r (6 + 10 * c2 + k)) (loW k) (hiW k) → rng (upd r (6 + 10 * c + w) v (6 + 10 * c2 + k)) (loW k) (hiW k) := by
    intro k hk hb
    by_cases e : 6 + 10 * c2 + k = 6 + 10 * c + w
    · have : k = w := by omega
      subst this
      rw [e]
      unfold upd
      rw [if_pos rfl]
      exact hv
    · rw [o e]; exact hb
  have := r5 c2 hc2
  exact ⟨g 0 (by decide) this.1, g 1 (by decide) this.2.1, g 2 (by decide) this.2.2.1, g 3 (by decide) this.2.2.2⟩
theorem w_tab0 : ∀ w, w < 4 → sL0 w = nI (loW w) ∧ sG0 w = nI (hiW w) ∧ loW w ≤ 1 ∧ hiW w ≤ 23 := by decide
theorem within_yes {N w v lo hi : Nat} {f g : Nat → Int32} (hN : N < 2 ^ 31) (hw : w < N) (h1 : f w = nI lo) (h2 : g w = nI hi) (hlo : lo ≤ v) (hhi : v ≤ hi) (hh : hi < 2 ^ 31) : f_within N f g (nI w) (nI v) = 1 := by
  unfold f_within
  rw [if_neg (nI_pos (by omega)), if_neg (fun z => by have := (le_iff hN (by omega)).mp z; omega), nc (by omega), h1, h2, if_neg (fun z => by have := (lt_iff (by omega) (by omega)).mp z; omega), if_neg (fun z => by have := (lt_iff (by omega) (by omega)).mp z; omega)]
theorem within_no1 {N : Nat} {f g : Nat → Int32} {a b : Int32} (hN : N < 2 ^ 31) (h : ∀ j, j < N → a ≠ nI j) : f_within N f g a b = 0 := by
  unfold f_within
  by_cases h0 : a < 0
  · rw [if_pos h0]
  · rw [if_neg h0]
    obtain ⟨j, hj, rfl⟩ := nI_of h0
    have : N ≤ j := by
      rcases Nat.lt_or_ge j N with q | q
      · exact absurd rfl (h j q)
      · exact q
    rw [show Int32.ofNat N = nI N from rfl, if_pos ((le_iff hN hj).mpr this)]
theorem within_no2 {N w lo hi : Nat} {f g : Nat → Int32} {b : Int32} (hN : N < 2 ^ 31) (hw : w < N) (h1 : f w = nI lo) (h2 : g w = nI hi) (hh : hi < 2 ^ 31) (hl : lo < 2 ^ 31) (h : ∀ j, lo ≤ j → j ≤ hi → b ≠ nI j) : f_within N f g (nI w) b = 0 := by
  unfold f_within
  rw [if_neg (nI_pos (by omega)), if_neg (fun z => by have := (le_iff hN (by omega)).mp z; omega), nc (by omega), h1, h2]
  have h3 := M_in_no (fun _ _ => 0) hh hl h
  rw [M_in] at h3
  exact congrArg Prod.fst (Option.some.inj h3)
theorem M_least (hm : Hp) {w : Nat} (hw : w < 4) : f_X8_least hm (nI w) = some (nI (loW w), hm) := by
  unfold f_X8_least loW
  rcases (show w = 0 ∨ w = 1 ∨ w = 2 ∨ w = 3 by omega) with rfl | rfl | rfl | rfl <;> rfl
theorem M_most (hm : Hp) {w : Nat} (hw : w < 4) : f_X8_most hm (nI w) = some (nI (hiW w), hm) := by
  unfold f_X8_most hiW
  rcases (show w = 0 ∨ w = 1 ∨ w = 2 ∨ w = 3 by omega) with rfl | rfl | rfl | rfl <;> rfl
theorem C_tell (h : Hp) (k : Nat) {w : Nat} (hw : w < 4) : f_X2_tell h k (nI w) = some (h k w, h) := by
  unfold f_X2_tell
  rcases (show w = 0 ∨ w = 1 ∨ w = 2 ∨ w = 3 by omega) with rfl | rfl | rfl | rfl <;> rfl
theorem C_chg (h : Hp) (k : Nat) {w : Nat} (hw : w < 4) (v : Int32) : f_X2_change h k (nI w) v = some (hs h k w v) := by
  unfold f_X2_change f_X2_change_45 f_X2_change_61
  rcases (show w = 0 ∨ w = 1 ∨ w = 2 ∨ w = 3 by omega) with rfl | rfl | rfl | rfl <;> rfl
theorem M_put (hm : Hp) {c w : Nat} (hc : c < 3) (hw : w < 10) (v : Int32) : f_X8_put hm (nI c) (nI w) v = some (hs hm 1 (6 + 10 * c + w) v) := by
  unfold f_X8_put
  simp only [L6, L10, pk_mul, nI_add]
  rw [if_pos (inb_nI (by omega) (by decide)), nc (by omega)]
