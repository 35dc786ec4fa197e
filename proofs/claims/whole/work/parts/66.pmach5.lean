/-! the machine behind a digit -/
theorem isS_true {s : Nat → Int32} {ln i : Nat} {a : Int32} (h : isS s ln a i = true) : s i = a := by
  unfold isS at h
  simp only [Bool.and_eq_true, decide_eq_true_eq] at h
  exact h.2
theorem isS_of {s : Nat → Int32} {ln i : Nat} {a : Int32} (hi : i < ln) (e : s i = a) : isS s ln a i = true := by
  unfold isS
  rw [decide_eq_true hi, decide_eq_true e]
  rfl
theorem takes_4 {h0 : Hp} {ln : Nat} {T : Nat → Int32} {k : Nat} {h : Hp} {a : Int32} (m : CM h0 ln T k 4 h) {r : Int32 × Hp} (e : f_X0_takesBehindDigit h 31 a = some r) (eb : isb r.1 = true) : f_X0_takes h 31 a = some (r.1, r.2) := by
  unfold f_X0_takes
  rw [m.2.2.1, if_neg (show ¬ nI 4 = (0 : Int32) by decide), if_neg (show ¬ nI 4 = (1 : Int32) by decide), if_neg (show ¬ nI 4 = (2 : Int32) by decide), if_neg (show ¬ nI 4 = (3 : Int32) by decide), e, ob_s, if_pos eb]
theorem takes4s {h0 : Hp} {s : Nat → Int32} {ln : Nat} {T : Nat → Int32} {k i : Nat} {h : Hp} (m : CM h0 ln T k 4 h) (e : isS s ln 59 i = true) : ∃ h', f_X0_takes h 31 (s i) = some (1, h') ∧ CM h0 ln T k 0 h' := by
  refine ⟨hs h 37 3 0, takes_4 (r := (1, hs h 37 3 0)) m ?_ isb_1, CM_P (P' := 0) m⟩
  unfold f_X0_takesBehindDigit
  rw [if_pos (isS_true e)]
theorem takes4l {h0 : Hp} {s : Nat → Int32} {ln : Nat} {T : Nat → Int32} {k i : Nat} {h : Hp} (m : CM h0 ln T k 4 h) (hi : i < ln) (e : ¬ isS s ln 59 i = true) (hd : ¬ isD s ln i = true) : ∃ h', f_X0_takes h 31 (s i) = some (b2i (ltr s ln i).isSome, h') ∧ CM h0 ln T k 3 h' ∧ h' 37 4 = h 37 4 ∧ ∀ w, ltr s ln i = some w → h' 37 5 = nI w := by
  obtain ⟨h', el, r⟩ := C_letter m hi
  refine ⟨h', takes_4 (r := (b2i (ltr s ln i).isSome, h')) m ?_ (b2i_isb _), r⟩
  unfold f_X0_takesBehindDigit
  rw [if_neg (fun z => e (isS_of hi z)), C_digitOf h hi, if_neg hd, ob_s]
  show (if (-5 : Int32) = (-5 : Int32) then (f_X0_takesLetter h (s i)).bind (fun q3 => if isb q3.1 = true then some (q3.1, q3.2) else none) else _) = _
  rw [if_pos rfl, el, ob_s, if_pos (b2i_isb _)]
theorem takes4d {h0 : Hp} {s : Nat → Int32} {ln : Nat} {T : Nat → Int32} {k c w v i : Nat} {h : Hp} (hc : c < 3) (hw : w < 4) (m : CM h0 ln T k 4 h) (kn : KN h c w) (h6 : h 37 6 = nI v) (v1 : loW w ≤ v) (v2 : v ≤ hiW w) (hi : i < ln) (hd : isD s ln i = true) :
    ((v = 0 ∨ hiW w < 10 * v + dgv s i) → ∃ h', f_X0_takes h 31 (s i) = some (0, h') ∧ CM h0 ln T k 4 h') ∧
    (v ≠ 0 → 10 * v + dgv s i ≤ hiW w → ∃ h', f_X0_takes h 31 (s i) = some (1, h') ∧ CM h0 ln (lay3 T c w (10 * v + dgv s i)) k 4 h' ∧ KN h' c w ∧ h' 37 6 = nI (10 * v + dgv s i)) := by
  obtain ⟨w9, w23⟩ := @W_small w
  obtain ⟨t1, t2, t3, t4⟩ := w_tab0 w hw
  obtain ⟨d1, d2, d3⟩ := isD_true hd
  have h59 : ¬ s i = 59 := fun z => by
    rw [d3] at z
    have := (eq_iff (b := 59) (by omega) (by decide)).mp z
    omega
  have hvd : nI v * (10 : Int32) + nI (dgv s i) = nI (10 * v + dgv s i) := by
    rw [show nI v * (10 : Int32) = nI (v * 10) from pk_mul v 10, nI_add, Nat.mul_comm v 10]
  have body : f_X0_takesBehindDigit h 31 (s i) = if nI v = 0 then some ((0 : Int32), h) else (f_X0_tellsNumber (hs h 37 6 (nI (10 * v + dgv s i))) 31).bind (fun q2 => if isb q2.1 = true then some (q2.1, q2.2) else none) := by
    unfold f_X0_takesBehindDigit
    rw [if_neg h59, C_digitOf h hi, if_pos hd, ob_s]
    show (if nI (dgv s i) = (-5 : Int32) then _ else (if h 37 6 = 0 then some ((0 : Int32), h) else (f_X0_tellsNumber (hs h 37 6 (h 37 6 * (10 : Int32) + nI (dgv s i))) 31).bind (fun q2 => if isb q2.1 = true then some (q2.1, q2.2) else none))) = _
    rw [if_neg (nI_ne5 (by omega)), h6, hvd]
  have mm := CM_37 m (j := 6) (by decide) (nI (10 * v + dgv s i))
  have kk : KN (hs h 37 6 (nI (10 * v + dgv s i))) c w := ⟨by rw [hs_j (by decide)]; exact kn.1, by rw [hs_j (by decide)]; exact kn.2⟩
  have k6 : hs h 37 6 (nI (10 * v + dgv s i)) 37 6 = nI (10 * v + dgv s i) := hs_at _ _ _ _
  constructor
  · intro hst
    by_cases hz : v = 0
    · refine ⟨h, takes_4 (r := (0, h)) m ?_ isb_0, m⟩
      rw [body, if_pos (by rw [hz]; exact nz0)]
    · refine ⟨hs h 37 6 (nI (10 * v + dgv s i)), takes_4 (r := (0, hs h 37 6 (nI (10 * v + dgv s i)))) m ?_ isb_0, mm⟩
      rw [body, if_neg (fun (z : nI v = (0 : Int32)) => hz ((eq_iff (b := 0) (by omega) (by decide)).mp z)), C_tells_no hc hw mm kk (fun v' a b z => by
        rw [k6] at z
        have := (eq_iff (by omega) (by omega)).mp z
        omega), ob_s, if_pos isb_0]
  · intro hz hle
    refine ⟨hs (hs h 37 6 (nI (10 * v + dgv s i))) (31 + 1 + 1 + c) w (nI (10 * v + dgv s i)), takes_4 (r := (1, hs (hs h 37 6 (nI (10 * v + dgv s i))) (31 + 1 + 1 + c) w (nI (10 * v + dgv s i)))) m ?_ isb_1, CM_lay hc (by omega) mm, ?_, ?_⟩
    · rw [body, if_neg (fun (z : nI v = (0 : Int32)) => hz ((eq_iff (b := 0) (by omega) (by decide)).mp z)), C_tells_yes hc hw mm kk k6 (by omega) hle, ob_s, if_pos isb_1]
    · exact ⟨by rw [hs_k (by omega)]; exact kk.1, by rw [hs_k (by omega)]; exact kk.2⟩
    · rw [hs_k (by omega)]; exact k6
