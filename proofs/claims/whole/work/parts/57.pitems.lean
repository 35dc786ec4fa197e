/-! the reference's parts -/
def RW (g : Hp) (T : Nat → Int32) : Hp := fun a => if a = 1 then T else g a
theorem RW_k {g : Hp} {T : Nat → Int32} {a : Nat} (h : a ≠ 1) : RW g T a = g a := if_neg h
theorem RW_TX {g : Hp} {T : Nat → Int32} {s : Nat → Int32} {ln : Nat} (t : TX g s ln) : TX (RW g T) s ln :=
  ⟨t.1, by rw [RW_k (by decide)]; exact t.2.1, fun i hi => by rw [RW_k (by decide)]; exact t.2.2 i hi⟩
theorem RW_put (g : Hp) (T : Nat → Int32) (i j : Nat) (v : Int32) : hs (AT (RW g T) i) 1 j v = AT (RW g (upd T j v)) i := by
  funext a b
  by_cases ha : a = 1
  · subst ha
    by_cases hb : b = j <;> simp [AT, RW, hs, upd, hb]
  · by_cases h0 : a = 0
    · subst h0
      simp [AT, RW, hs]
    · simp [AT, RW, hs, ha, h0]
theorem M_items1 {g : Hp} {s : Nat → Int32} {ln c : Nat} (t : TX g s ln) : ∀ (n fu w i : Nat) (T : Nat → Int32), ln ≤ i + n → n + 2 < fu → w < 4 → i ≤ 60 → f_X8_readPart_37 fu (AT g i) (0 : Int32) (nI c) (nI w) = some (b2i (items s ln c n w i T).1, AT g (items s ln c n w i T).2.1) := by
  intro n
  have hln := t.1
  induction n with
  | zero =>
    intro fu w i T h1 h2 hw h3
    obtain ⟨fu, rfl⟩ : ∃ q, fu = q + 1 := ⟨fu - 1, by omega⟩
    have hno : numAt s ln (loW w) (hiW w) i = none := by
      cases h : numAt s ln (loW w) (hiW w) i with
      | none => rfl
      | some q =>
        have := (numAt_lt (W_small (w := w)).1 h).1
        omega
    rw [f_X8_readPart_37_s, if_neg (nI_ne5 (by omega)), M_least _ hw, ob_s]
    simp only []
    rw [M_most _ hw, ob_s]
    simp only []
    rw [M_number t W_small.1 W_small.2 h3, hno, ob_s]
    rfl
  | succ n ih =>
    intro fu w i T h1 h2 hw h3
    obtain ⟨fu, rfl⟩ : ∃ q, fu = q + 1 := ⟨fu - 1, by omega⟩
    rw [f_X8_readPart_37_s, if_neg (nI_ne5 (by omega)), M_least _ hw, ob_s]
    simp only []
    rw [M_most _ hw, ob_s]
    simp only []
    rw [M_number t W_small.1 W_small.2 h3, items]
    cases h : numAt s ln (loW w) (hiW w) i with
    | none =>
      rw [ob_s]
      rfl
    | some q =>
      obtain ⟨q1, q2, q3, q4⟩ := numAt_lt (W_small (w := w)).1 h
      have hw23 := (W_small (w := w)).2
      rw [ob_s]
      simp only []
      rw [if_neg (nI_ne5 (by omega))]
      unfold f_X8_readPart_78
      rw [M_aboutOf t (by omega), ob_s]
      cases hl : ltr s ln q.2 with
      | none =>
        simp only [if_true]
        obtain ⟨fu, rfl⟩ : ∃ q, fu = q + 1 := ⟨fu - 1, by omega⟩
        rw [f_X8_readPart_37_s, if_pos rfl]
        rfl
      | some w2 =>
        obtain ⟨l1, l2⟩ := ltr_lt hl
        simp only [if_true]
        exact ih fu w2 (q.2 + 1) _ (by omega) (by omega) l1 (by omega)
theorem M_items2 {g : Hp} {s : Nat → Int32} {ln c : Nat} (hc : c < 3) (t : TX g s ln) : ∀ (n fu w i : Nat) (T : Nat → Int32), ln ≤ i + n → n + 2 < fu → w < 4 → i ≤ 60 → f_X8_readPart_37 fu (AT (RW g T) i) (1 : Int32) (nI c) (nI w) = some (b2i (items s ln c n w i T).1, AT (RW g (items s ln c n w i T).2.2) (items s ln c n w i T).2.1) := by
  intro n
  have hln := t.1
  induction n with
  | zero =>
    intro fu w i T h1 h2 hw h3
    obtain ⟨fu, rfl⟩ : ∃ q, fu = q + 1 := ⟨fu - 1, by omega⟩
    have hno : numAt s ln (loW w) (hiW w) i = none := by
      cases h : numAt s ln (loW w) (hiW w) i with
      | none => rfl
      | some q =>
        have := (numAt_lt (W_small (w := w)).1 h).1
        omega
    rw [f_X8_readPart_37_s, if_neg (nI_ne5 (by omega)), M_least _ hw, ob_s]
    simp only []
    rw [M_most _ hw, ob_s]
    simp only []
    rw [M_number (RW_TX t) W_small.1 W_small.2 h3, hno, ob_s]
    rfl
  | succ n ih =>
    intro fu w i T h1 h2 hw h3
    obtain ⟨fu, rfl⟩ : ∃ q, fu = q + 1 := ⟨fu - 1, by omega⟩
    rw [f_X8_readPart_37_s, if_neg (nI_ne5 (by omega)), M_least _ hw, ob_s]
    simp only []
    rw [M_most _ hw, ob_s]
    simp only []
    rw [M_number (RW_TX t) W_small.1 W_small.2 h3, items]
    cases h : numAt s ln (loW w) (hiW w) i with
    | none =>
      rw [ob_s]
      rfl
    | some q =>
      obtain ⟨q1, q2, q3, q4⟩ := numAt_lt (W_small (w := w)).1 h
      have hw23 := (W_small (w := w)).2
      rw [ob_s]
      simp only []
      rw [if_neg (nI_ne5 (by omega)), if_neg n10, M_put _ hc (by omega), ob_s, RW_put]
      unfold f_X8_readPart_78
      rw [M_aboutOf (RW_TX t) (by omega), ob_s]
      cases hl : ltr s ln q.2 with
      | none =>
        obtain ⟨fu, rfl⟩ : ∃ q, fu = q + 1 := ⟨fu - 1, by omega⟩
        simp only []
        rw [f_X8_readPart_37_s, if_pos rfl]
        rfl
      | some w2 =>
        obtain ⟨l1, l2⟩ := ltr_lt hl
        simp only []
        exact ih fu w2 (q.2 + 1) _ (by omega) (by omega) l1 (by omega)
/-- a part at i -/
def part (s : Nat → Int32) (ln i : Nat) (T : Nat → Int32) : Bool × Nat × (Nat → Int32) :=
  match numAt s ln 0 2 i with
  | none => (false, i, T)
  | some q => if isS s ln 58 q.2 = true then (match ltr s ln (q.2 + 1) with
      | none => (false, q.2 + 1, T)
      | some w => items s ln q.1 60 w (q.2 + 2) T) else (false, q.2, T)
theorem isS_lt {s : Nat → Int32} {ln i : Nat} {a : Int32} (h : isS s ln a i = true) : i < ln := by
  unfold isS at h
  simp only [Bool.and_eq_true, decide_eq_true_eq] at h
  exact h.1
theorem M_part1 {g : Hp} {s : Nat → Int32} {ln i : Nat} (t : TX g s ln) (hi : i ≤ 60) (T : Nat → Int32) : f_X8_readPart (AT g i) (0 : Int32) = some (b2i (part s ln i T).1, AT g (part s ln i T).2.1) := by
  unfold f_X8_readPart part
  have hln := t.1
  rw [show f_X8_number (AT g i) (0 : Int32) (2 : Int32) = _ from M_number t (lo := 0) (hi := 2) (by decide) (by decide) hi]
  cases h : numAt s ln 0 2 i with
  | none =>
    rw [ob_s]
    rfl
  | some q =>
    obtain ⟨q1, q2, q3, q4⟩ := numAt_lt (by decide) h
    rw [ob_s]
    simp only []
    rw [if_neg (nI_ne5 (by omega)), M_sign t (by omega), ob_s]
    simp only []
    by_cases e : isS s ln 58 q.2 = true
    · have e1 := isS_lt e
      rw [if_pos e, if_pos e, e, if_neg b2t, M_aboutOf t (by omega), ob_s]
      cases hl : ltr s ln (q.2 + 1) with
      | none =>
        simp only []
        rw [if_pos trivial]
        rfl
      | some w =>
        obtain ⟨l1, l2⟩ := ltr_lt hl
        simp only []
        rw [if_neg (nI_ne5 (by omega))]
        exact M_items1 t 60 FU w (q.2 + 2) T (by omega) (by decide) l1 (by omega)
    · rw [if_neg e, if_neg e, show isS s ln 58 q.2 = false by simpa using e, if_pos b2f]
      rfl
