/-- the second pass lays what the first has read -/
theorem M_pass2 {g : Hp} {s : Nat → Int32} {ln : Nat} (t : TX g s ln) : ∀ (n fu k i K : Nat) (T T' : Nat → Int32), ln + 1 ≤ i + n → n + 1 < fu → i ≤ ln → K < 200 → allT s ln n k i T = .inr (K, T') → k < K ∧ ∃ j, f_X8_captains_22 fu (AT (RW g T) i) (nI K) (nI k) = some (nI K, AT (RW g T') j) := by
  intro n
  have hln := t.1
  induction n with
  | zero => intro fu k i K T T' h1; omega
  | succ n ih =>
    intro fu k i K T T' h1 h2 h3 hK h4
    obtain ⟨fu, rfl⟩ : ∃ q, fu = q + 1 := ⟨fu - 1, by omega⟩
    obtain ⟨p1, p2, p3⟩ := @part_le s ln i T h3
    rw [allT] at h4
    by_cases e : (part s ln i T).1 = true
    · have p4 := p3 e
      rw [if_pos e] at h4
      have go : k < K → f_X8_captains_22 (fu + 1) (AT (RW g T) i) (nI K) (nI k) = f_X8_captains_22 fu (AT (RW g (part s ln i T).2.2) ((part s ln i T).2.1 + 1)) (nI K) (nI (k + 1)) := by
        intro hk
        rw [f_X8_captains_22_s, if_neg (fun z => by have := (le_iff (by omega) (by omega)).mp z; omega), M_part2 t (by omega) T, ob_s]
        simp only []
        rw [AT_11, nI_1, nI_1, AT_AT]
      by_cases e2 : isS s ln 59 (part s ln i T).2.1 = true
      · rw [if_pos e2] at h4
        have e3 := isS_lt e2
        obtain ⟨a, j, b⟩ := ih fu (k + 1) ((part s ln i T).2.1 + 1) K _ T' (by omega) (by omega) (by omega) hK h4
        exact ⟨by omega, j, by rw [go (by omega), b]⟩
      · rw [if_neg e2] at h4
        by_cases l : ln ≤ (part s ln i T).2.1
        · rw [if_pos l] at h4
          cases h4
          refine ⟨by omega, (part s ln i T).2.1 + 1, ?_⟩
          rw [go (by omega)]
          obtain ⟨fu, rfl⟩ : ∃ q, fu = q + 1 := ⟨fu - 1, by omega⟩
          rw [f_X8_captains_22_s, if_pos ((le_iff (by omega) (by omega)).mpr (by omega))]
        · rw [if_neg l] at h4
          cases h4
    · rw [if_neg e] at h4
      cases h4
theorem allT_k {s : Nat → Int32} {ln : Nat} : ∀ (n k i : Nat) (T T' : Nat → Int32) (K : Nat), allT s ln n k i T = .inr (K, T') → K ≤ k + n := by
  intro n
  induction n with
  | zero => intro k i T T' K h; cases h
  | succ n ih =>
    intro k i T T' K h
    rw [allT] at h
    split at h
    · split at h
      · have := ih _ _ _ _ _ h
        omega
      · split at h
        · cases h
          omega
        · cases h
    · cases h
