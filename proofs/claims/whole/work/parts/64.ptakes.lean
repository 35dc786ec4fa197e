theorem takes0 {h0 : Hp} {s : Nat → Int32} {ln : Nat} {T : Nat → Int32} {k i : Nat} {h : Hp} (m : CM h0 ln T k 0 h) (hi : i < ln) : ∃ h', f_X0_takes h 31 (s i) = some (b2i (isD s ln i && decide (dgv s i < 3)), h') ∧ CM h0 ln T (k + 1) 1 h' ∧ (isD s ln i = true → h' 37 4 = nI (dgv s i)) := by
  unfold f_X0_takes
  rw [m.2.2.1, if_pos nz0]
  unfold f_X0_takesCaptain f_X0_takesCaptain_18
  rw [C_digitOf h hi, ob_s]
  simp only []
  rw [hs_j (show 2 ≠ 4 by decide), m.2.1, nI_1]
  have mm := CM_P (P' := 1) (CM_k (k' := k + 1) (CM_37 m (j := 4) (by decide) (if isD s ln i = true then nI (dgv s i) else -5)))
  refine ⟨_, ?_, mm, fun e => ?_⟩
  · rw [hs_j (show 4 ≠ 3 by decide), hs_j (show 4 ≠ 2 by decide), hs_at]
    by_cases e : isD s ln i = true
    · obtain ⟨d1, d2, d3⟩ := isD_true e
      rw [if_pos e, e]
      by_cases l : dgv s i < 3
      · rw [C_isCap_yes _ l, ob_s, decide_eq_true l]
        simp only []
        rw [if_pos isb_1, ob_s]
        simp only []
        rw [if_pos isb_1]
        rfl
      · rw [C_isCap_no _ (fun j hj z => by have := (eq_iff (by omega) (by omega)).mp z; omega), ob_s, decide_eq_false l]
        simp only []
        rw [if_pos isb_0, ob_s]
        simp only []
        rw [if_pos isb_0]
        rfl
    · rw [if_neg e, C_isCap_no _ (fun j hj z => nI_ne5 (by omega) z.symm), ob_s, show isD s ln i = false by simpa using e]
      simp only []
      rw [if_pos isb_0, ob_s]
      simp only []
      rw [if_pos isb_0]
      rfl
  · rw [hs_j (show 4 ≠ 3 by decide), hs_j (show 4 ≠ 2 by decide), hs_at, if_pos e]
theorem takes1 {h0 : Hp} {s : Nat → Int32} {ln : Nat} {T : Nat → Int32} {k i : Nat} {h : Hp} (m : CM h0 ln T k 1 h) (hi : i < ln) : ∃ h', f_X0_takes h 31 (s i) = some (b2i (isS s ln 58 i), h') ∧ CM h0 ln T k 2 h' ∧ h' 37 4 = h 37 4 := by
  unfold f_X0_takes
  rw [m.2.2.1, if_neg (show ¬ nI 1 = (0 : Int32) by decide), if_pos (show nI 1 = (1 : Int32) by decide)]
  refine ⟨hs h 37 3 2, ?_, CM_P (P' := 2) m, hs_j (by decide)⟩
  unfold isS
  rw [decide_eq_true hi]
  by_cases e : s i = 58
  · rw [if_pos e, decide_eq_true e]
    rfl
  · rw [if_neg e, decide_eq_false e]
    rfl
theorem C_letter {h0 : Hp} {s : Nat → Int32} {ln : Nat} {T : Nat → Int32} {k P i : Nat} {h : Hp} (m : CM h0 ln T k P h) (hi : i < ln) : ∃ h', f_X0_takesLetter h (s i) = some (b2i (ltr s ln i).isSome, h') ∧ CM h0 ln T k 3 h' ∧ h' 37 4 = h 37 4 ∧ ∀ w, ltr s ln i = some w → h' 37 5 = nI w := by
  unfold f_X0_takesLetter f_X0_takesLetter_13
  rw [C_whatOf h hi, ob_s]
  simp only []
  refine ⟨_, ?_, CM_P (P' := 3) (CM_37 m (j := 5) (by decide) (match ltr s ln i with | none => -5 | some w => nI w)), ?_, fun w e => ?_⟩
  · rw [hs_j (show 5 ≠ 3 by decide), hs_at]
    cases hl : ltr s ln i with
    | none =>
      simp only []
      rw [if_pos trivial]
      rfl
    | some w =>
      simp only []
      rw [if_neg (nI_ne5 (by have := (ltr_lt hl).1; omega))]
      rfl
  · rw [hs_j (show 4 ≠ 3 by decide), hs_j (show 4 ≠ 5 by decide)]
  · rw [hs_j (show 5 ≠ 3 by decide), hs_at, e]
theorem takes2 {h0 : Hp} {s : Nat → Int32} {ln : Nat} {T : Nat → Int32} {k i : Nat} {h : Hp} (m : CM h0 ln T k 2 h) (hi : i < ln) : ∃ h', f_X0_takes h 31 (s i) = some (b2i (ltr s ln i).isSome, h') ∧ CM h0 ln T k 3 h' ∧ h' 37 4 = h 37 4 ∧ ∀ w, ltr s ln i = some w → h' 37 5 = nI w := by
  obtain ⟨h', e, r⟩ := C_letter m hi
  refine ⟨h', ?_, r⟩
  unfold f_X0_takes
  rw [m.2.2.1, if_neg (show ¬ nI 2 = (0 : Int32) by decide), if_neg (show ¬ nI 2 = (1 : Int32) by decide), if_pos (show nI 2 = (2 : Int32) by decide), e, ob_s]
  simp only []
  rw [if_pos (b2i_isb _)]
/-- what the machine knows behind a letter -/
def KN (h : Hp) (c w : Nat) : Prop := h 37 4 = nI c ∧ h 37 5 = nI w
theorem CM_lay {h0 : Hp} {ln : Nat} {T : Nat → Int32} {k P c w v : Nat} {h : Hp} (hc : c < 3) (hw : w < 10) (m : CM h0 ln T k P h) : CM h0 ln (lay3 T c w v) k P (hs h (31 + 1 + 1 + c) w (nI v)) := by
  obtain ⟨m1, m2, m3, m4, m5⟩ := m
  refine ⟨by rw [hs_k (by omega)]; exact m1, by rw [hs_k (by omega)]; exact m2, by rw [hs_k (by omega)]; exact m3, fun c' hc' j hj => ?_, fun a ha h2 => by rw [hs_r (by omega)]; exact m5 a ha h2⟩
  unfold lay3
  by_cases e : 6 + 10 * c' + j = 6 + 10 * c + w
  · obtain ⟨rfl, rfl⟩ : c' = c ∧ j = w := by omega
    rw [hs_at, upd_same]
  · rw [upd_ne e]
    by_cases ec : c' = c
    · subst ec
      rw [hs_j (by omega)]
      exact m4 c' hc' j hj
    · rw [hs_k (by omega)]
      exact m4 c' hc' j hj
theorem C_tells_yes {h0 : Hp} {ln : Nat} {T : Nat → Int32} {k P c w v : Nat} {h : Hp} (hc : c < 3) (hw : w < 4) (m : CM h0 ln T k P h) (kn : KN h c w) (h6 : h 37 6 = nI v) (v1 : loW w ≤ v) (v2 : v ≤ hiW w) : f_X0_tellsNumber h 31 = some (1, hs h (31 + 1 + 1 + c) w (nI v)) := by
  unfold f_X0_tellsNumber f_X7_isValueOfCaptain
  obtain ⟨t1, t2, t3, t4⟩ := w_tab0 w hw
  rw [kn.1, C_isCap_yes _ hc, ob_s]
  simp only []
  rw [if_neg n10, ob_s, kn.2, h6]
  simp only []
  rw [within_yes (by decide) hw t1 t2 v1 v2 (by omega), if_neg n10, kn.1, if_pos (inb_nI hc (by decide)), nc (by omega), kn.2, h6, C_chg _ _ hw, ob_s]
theorem C_tells_no {h0 : Hp} {ln : Nat} {T : Nat → Int32} {k P c w : Nat} {h : Hp} (hc : c < 3) (hw : w < 4) (m : CM h0 ln T k P h) (kn : KN h c w) (h6 : ∀ v, loW w ≤ v → v ≤ hiW w → h 37 6 ≠ nI v) : f_X0_tellsNumber h 31 = some (0, h) := by
  unfold f_X0_tellsNumber f_X7_isValueOfCaptain
  obtain ⟨t1, t2, t3, t4⟩ := w_tab0 w hw
  rw [kn.1, C_isCap_yes _ hc, ob_s]
  simp only []
  rw [if_neg n10, ob_s, kn.2]
  simp only []
  rw [within_no2 (by decide) hw t1 t2 (by omega) (by omega) h6, if_pos z00]
