/-! the reference's two passes -/
theorem M_part2 {g : Hp} {s : Nat → Int32} {ln i : Nat} (t : TX g s ln) (hi : i ≤ 60) (T : Nat → Int32) : f_X8_readPart (AT (RW g T) i) (1 : Int32) = some (b2i (part s ln i T).1, AT (RW g (part s ln i T).2.2) (part s ln i T).2.1) := by
  unfold f_X8_readPart part
  have hln := t.1
  rw [show f_X8_number (AT (RW g T) i) (0 : Int32) (2 : Int32) = _ from M_number (RW_TX t) (lo := 0) (hi := 2) (by decide) (by decide) hi]
  cases h : numAt s ln 0 2 i with
  | none =>
    rw [ob_s]
    rfl
  | some q =>
    obtain ⟨q1, q2, q3, q4⟩ := numAt_lt (by decide) h
    rw [ob_s]
    simp only []
    rw [if_neg (nI_ne5 (by omega)), M_sign (RW_TX t) (by omega), ob_s]
    simp only []
    by_cases e : isS s ln 58 q.2 = true
    · have e1 := isS_lt e
      rw [if_pos e, if_pos e, e, if_neg b2t, M_aboutOf (RW_TX t) (by omega), ob_s]
      cases hl : ltr s ln (q.2 + 1) with
      | none =>
        simp only []
        rw [if_pos trivial]
        rfl
      | some w =>
        obtain ⟨l1, l2⟩ := ltr_lt hl
        simp only []
        rw [if_neg (nI_ne5 (by omega))]
        exact M_items2 (by omega) t 60 FU w (q.2 + 2) T (by omega) (by decide) l1 (by omega)
    · rw [if_neg e, if_neg e, show isS s ln 58 q.2 = false by simpa using e, if_pos b2f]
      rfl
/-- all parts from i on, k read before: where the fault is, or how many and the row -/
def allT (s : Nat → Int32) (ln : Nat) : Nat → Nat → Nat → (Nat → Int32) → Nat ⊕ (Nat × (Nat → Int32))
  | 0, _, i, _ => .inl i
  | n + 1, k, i, T =>
    if (part s ln i T).1 = true then
      (if isS s ln 59 (part s ln i T).2.1 = true then allT s ln n (k + 1) ((part s ln i T).2.1 + 1) (part s ln i T).2.2
       else if ln ≤ (part s ln i T).2.1 then .inr (k + 1, (part s ln i T).2.2) else .inl (part s ln i T).2.1)
    else .inl (part s ln i T).2.1
theorem items_le {s : Nat → Int32} {ln c : Nat} : ∀ (n w i : Nat) (T : Nat → Int32), i ≤ ln → i ≤ (items s ln c n w i T).2.1 ∧ (items s ln c n w i T).2.1 ≤ ln ∧ ((items s ln c n w i T).1 = true → i < (items s ln c n w i T).2.1) := by
  intro n
  induction n with
  | zero => intro w i T h; exact ⟨Nat.le_refl i, h, fun z => by cases z⟩
  | succ n ih =>
    intro w i T h
    rw [items]
    cases hq : numAt s ln (loW w) (hiW w) i with
    | none => exact ⟨Nat.le_refl i, h, fun z => by cases z⟩
    | some q =>
      obtain ⟨q1, q2, q3, q4⟩ := numAt_lt (W_small (w := w)).1 hq
      simp only []
      cases hl : ltr s ln q.2 with
      | none => exact ⟨by show i ≤ q.2; omega, q4, fun _ => q3⟩
      | some w2 =>
        obtain ⟨l1, l2⟩ := ltr_lt hl
        obtain ⟨a, b, d⟩ := ih w2 (q.2 + 1) (lay3 T c w q.1) (by omega)
        simp only []
        exact ⟨by omega, b, fun z => by omega⟩
theorem part_le {s : Nat → Int32} {ln i : Nat} {T : Nat → Int32} (h : i ≤ ln) : i ≤ (part s ln i T).2.1 ∧ (part s ln i T).2.1 ≤ ln ∧ ((part s ln i T).1 = true → i < (part s ln i T).2.1) := by
  unfold part
  cases hq : numAt s ln 0 2 i with
  | none => exact ⟨Nat.le_refl i, h, fun z => by cases z⟩
  | some q =>
    obtain ⟨q1, q2, q3, q4⟩ := numAt_lt (by decide) hq
    simp only []
    by_cases e : isS s ln 58 q.2 = true
    · have e1 := isS_lt e
      rw [if_pos e]
      cases hl : ltr s ln (q.2 + 1) with
      | none => exact ⟨by show i ≤ q.2 + 1; omega, by show q.2 + 1 ≤ ln; omega, fun z => by cases z⟩
      | some w =>
        obtain ⟨l1, l2⟩ := ltr_lt hl
        obtain ⟨a, b, d⟩ := @items_le s ln q.1 60 w (q.2 + 2) T (by omega)
        simp only []
        exact ⟨by omega, b, fun z => by omega⟩
    · rw [if_neg e]
      exact ⟨by show i ≤ q.2; omega, q4, fun z => by cases z⟩
/-- the row does not bear on where a part ends -/
theorem items_T {s : Nat → Int32} {ln c : Nat} : ∀ (n w i : Nat) (T T' : Nat → Int32), (items s ln c n w i T).1 = (items s ln c n w i T').1 ∧ (items s ln c n w i T).2.1 = (items s ln c n w i T').2.1 := by
  intro n
  induction n with
  | zero => intro w i T T'; exact ⟨rfl, rfl⟩
  | succ n ih =>
    intro w i T T'
    rw [items, items]
    cases numAt s ln (loW w) (hiW w) i with
    | none => exact ⟨rfl, rfl⟩
    | some q =>
      simp only []
      cases ltr s ln q.2 with
      | none => exact ⟨rfl, rfl⟩
      | some w2 => exact ih w2 (q.2 + 1) _ _
