/-! the machine at a number -/
theorem takes3 {h0 : Hp} {s : Nat → Int32} {ln : Nat} {T : Nat → Int32} {k c w i : Nat} {h : Hp} (hc : c < 3) (hw : w < 4) (m : CM h0 ln T k 3 h) (kn : KN h c w) (hi : i < ln) :
    (nxt s ln (nI (48 + loW w)) (nI (48 + min (hiW w) 9)) i = true → ∃ h', f_X0_takes h 31 (s i) = some (1, h') ∧ CM h0 ln (lay3 T c w (dgv s i)) k 4 h' ∧ KN h' c w ∧ h' 37 6 = nI (dgv s i)) ∧
    (¬ nxt s ln (nI (48 + loW w)) (nI (48 + min (hiW w) 9)) i = true → ∃ h', f_X0_takes h 31 (s i) = some (0, h') ∧ CM h0 ln T k 4 h') := by
  obtain ⟨w9, w23⟩ := @W_small w
  have hT : ∀ r, f_X0_takesFirstDigit h 31 (s i) = some r → isb r.1 = true → f_X0_takes h 31 (s i) = some (r.1, r.2) := by
    intro r e eb
    unfold f_X0_takes
    rw [m.2.2.1, if_neg (show ¬ nI 3 = (0 : Int32) by decide), if_neg (show ¬ nI 3 = (1 : Int32) by decide), if_neg (show ¬ nI 3 = (2 : Int32) by decide), if_pos (show nI 3 = (3 : Int32) by decide), e, ob_s, if_pos eb]
  have mm : ∀ v : Int32, CM h0 ln T k 4 (hs (hs h 37 6 v) 37 3 (nI 4)) := fun v => CM_P (P' := 4) (CM_37 m (j := 6) (by decide) v)
  have kk : ∀ v : Int32, KN (hs (hs h 37 6 v) 37 3 (nI 4)) c w := fun v => ⟨by rw [hs_j (by decide), hs_j (by decide)]; exact kn.1, by rw [hs_j (by decide), hs_j (by decide)]; exact kn.2⟩
  have h6 : ∀ v : Int32, hs (hs h 37 6 v) 37 3 (nI 4) 37 6 = v := fun v => by rw [hs_j (by decide), hs_at]
  constructor
  · intro e
    obtain ⟨d1, d2, d3, d4, d5⟩ := fst_true e w9
    have hd : isD s ln i = true := nxt_of (by decide) d1 d5 (by omega) (by omega)
    refine ⟨hs (hs (hs h 37 6 (nI (dgv s i))) 37 3 (nI 4)) (31 + 1 + 1 + c) w (nI (dgv s i)), hT (1, hs (hs (hs h 37 6 (nI (dgv s i))) 37 3 (nI 4)) (31 + 1 + 1 + c) w (nI (dgv s i))) ?_ isb_1, CM_lay hc (by omega) (mm _), ?_, ?_⟩
    · unfold f_X0_takesFirstDigit f_X0_takesFirstDigit_13
      rw [C_digitOf h hi, ob_s, if_pos hd]
      show (f_X0_tellsNumber (hs (hs h 37 6 (nI (dgv s i))) 37 3 (nI 4)) 31).bind _ = _
      rw [C_tells_yes hc hw (mm _) (kk _) (h6 _) d2 d3, ob_s, if_pos isb_1]
    · exact ⟨by rw [hs_k (by omega)]; exact (kk _).1, by rw [hs_k (by omega)]; exact (kk _).2⟩
    · rw [hs_k (by omega)]; exact h6 _
  · intro e
    refine ⟨hs (hs h 37 6 (if isD s ln i = true then nI (dgv s i) else -5)) 37 3 (nI 4), hT (0, hs (hs h 37 6 (if isD s ln i = true then nI (dgv s i) else -5)) 37 3 (nI 4)) ?_ isb_0, mm _⟩
    have hno : ∀ v, loW w ≤ v → v ≤ hiW w → hs (hs h 37 6 (if isD s ln i = true then nI (dgv s i) else -5)) 37 3 (nI 4) 37 6 ≠ nI v := by
      intro v v1 v2 z
      rw [h6] at z
      by_cases hd : isD s ln i = true
      · obtain ⟨d1, d2, d3⟩ := isD_true hd
        rw [if_pos hd] at z
        have : dgv s i = v := (eq_iff (by omega) (by omega)).mp z
        exact e (nxt_of (by omega) d1 d3 (by omega) (by omega))
      · rw [if_neg hd] at z
        exact nI_ne5 (show v < 2 ^ 31 by omega) z.symm
    unfold f_X0_takesFirstDigit f_X0_takesFirstDigit_13
    rw [C_digitOf h hi, ob_s]
    show (f_X0_tellsNumber (hs (hs h 37 6 (if isD s ln i = true then nI (dgv s i) else -5)) 37 3 (nI 4)) 31).bind _ = _
    rw [C_tells_no hc hw (mm _) (kk _) hno, ob_s, if_pos isb_0]
