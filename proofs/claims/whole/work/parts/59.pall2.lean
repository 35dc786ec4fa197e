theorem part_T {s : Nat → Int32} {ln i : Nat} (T T' : Nat → Int32) : (part s ln i T).1 = (part s ln i T').1 ∧ (part s ln i T).2.1 = (part s ln i T').2.1 := by
  unfold part
  cases numAt s ln 0 2 i with
  | none => exact ⟨rfl, rfl⟩
  | some q =>
    simp only []
    by_cases e : isS s ln 58 q.2 = true
    · rw [if_pos e, if_pos e]
      cases ltr s ln (q.2 + 1) with
      | none => exact ⟨rfl, rfl⟩
      | some w => exact items_T 60 w (q.2 + 2) T T'
    · rw [if_neg e, if_neg e]
      exact ⟨rfl, rfl⟩
/-- what readAll answers -/
def ansAll (x : Nat ⊕ (Nat × (Nat → Int32))) : Int32 := match x with
  | .inl j => (-100 : Int32) - nI j
  | .inr q => nI q.1
theorem M_readAll {g : Hp} {s : Nat → Int32} {ln : Nat} (t : TX g s ln) : ∀ (n fu k i : Nat) (T : Nat → Int32), ln + 1 ≤ i + n → n < fu → i ≤ ln → ∃ j, f_X8_readAll_9 fu (AT g i) (nI k) (1 : Int32) = some (ansAll (allT s ln n k i T), AT g j) := by
  intro n
  have hln := t.1
  induction n with
  | zero => intro fu k i T h1; omega
  | succ n ih =>
    intro fu k i T h1 h2 h3
    obtain ⟨fu, rfl⟩ : ∃ q, fu = q + 1 := ⟨fu - 1, by omega⟩
    obtain ⟨p1, p2, p3⟩ := @part_le s ln i T h3
    rw [f_X8_readAll_9_s, if_neg n10, M_part1 t (by omega) T, ob_s, allT]
    simp only []
    cases e : (part s ln i T).1
    · rw [if_pos b2f, if_neg fft, AT_11]
      exact ⟨_, rfl⟩
    · have p4 := p3 e
      rw [if_neg b2t, if_pos ttt, M_sign t (by omega), ob_s]
      simp only []
      cases e2 : isS s ln 59 (part s ln i T).2.1
      · rw [if_neg fft, if_neg fft]
        obtain ⟨fu, rfl⟩ : ∃ q, fu = q + 1 := ⟨fu - 1, by omega⟩
        rw [f_X8_readAll_9_s, if_pos b2f, AT_11, AT_o (by decide), t.2.1, nI_1]
        by_cases l : ln ≤ (part s ln i T).2.1
        · rw [if_pos ((le_iff (by omega) (by omega)).mpr l), if_pos l]
          exact ⟨_, rfl⟩
        · rw [if_neg (fun z => l ((le_iff (by omega) (by omega)).mp z)), if_neg l]
          exact ⟨_, rfl⟩
      · have e3 := isS_lt e2
        rw [if_pos ttt, if_pos ttt, nI_1]
        exact ih fu (k + 1) _ _ (by omega) (by omega) (by omega)
