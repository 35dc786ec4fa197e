/-! numbers, parts, texts: what they are -/
/-- a number between lo and hi at i: its value and where it ends -/
def numAt (s : Nat → Int32) (ln lo hi i : Nat) : Option (Nat × Nat) := if nxt s ln (nI (48 + lo)) (nI (48 + min hi 9)) i = true then some (numGo s ln hi 60 (dgv s i) (i + 1)) else none
theorem numGo_le {s : Nat → Int32} {ln hi : Nat} : ∀ (n v i : Nat), v ≤ hi → (numGo s ln hi n v i).1 ≤ hi ∧ i ≤ (numGo s ln hi n v i).2 ∧ (i ≤ ln → (numGo s ln hi n v i).2 ≤ ln) := by
  intro n
  induction n with
  | zero => intro v i hv; exact ⟨hv, Nat.le_refl i, fun h => h⟩
  | succ n ih =>
    intro v i hv
    rw [numGo]
    by_cases hz : v = 0
    · rw [if_pos hz]; exact ⟨hv, Nat.le_refl i, fun h => h⟩
    · rw [if_neg hz]
      by_cases hd : isD s ln i = true
      · rw [if_pos hd]
        by_cases l : hi < 10 * v + dgv s i
        · rw [if_pos l]; exact ⟨hv, Nat.le_refl i, fun h => h⟩
        · rw [if_neg l]
          obtain ⟨a, b, c⟩ := ih (10 * v + dgv s i) (i + 1) (by omega)
          have := (isD_true hd).1
          exact ⟨a, by omega, fun _ => c (by omega)⟩
      · rw [if_neg hd]; exact ⟨hv, Nat.le_refl i, fun h => h⟩
theorem fst_true {s : Nat → Int32} {ln lo hi i : Nat} (h : nxt s ln (nI (48 + lo)) (nI (48 + min hi 9)) i = true) (hl : lo ≤ 9) : i < ln ∧ lo ≤ dgv s i ∧ dgv s i ≤ hi ∧ dgv s i ≤ 9 ∧ s i = nI (48 + dgv s i) := by
  obtain ⟨h1, m, m1, m2, e⟩ := nxt_true (by omega) (by omega) h
  have : dgv s i = m - 48 := by
    unfold dgv
    rw [e, nc (by omega)]
  exact ⟨h1, by omega, by omega, by omega, by rw [this, e]; congr 1; omega⟩
theorem M_number {g : Hp} {s : Nat → Int32} {ln lo hi i : Nat} (t : TX g s ln) (hl : lo ≤ 9) (hhi : hi ≤ 23) (hi60 : i ≤ 60) : f_X8_number (AT g i) (nI lo) (nI hi) = some (match numAt s ln lo hi i with | none => (-5, AT g i) | some q => (nI q.1, AT g q.2)) := by
  have hln := t.1
  have key : f_X8_number_20 (AT g i) (nI hi) (nI (48 + lo)) (nI (48 + min hi 9)) = some (match numAt s ln lo hi i with | none => (-5, AT g i) | some q => (nI q.1, AT g q.2)) := by
    unfold f_X8_number_20 numAt
    rw [M_isNext t (by omega), ob_s]
    simp only []
    by_cases e : nxt s ln (nI (48 + lo)) (nI (48 + min hi 9)) i = true
    · obtain ⟨d1, d2, d3, d4, d5⟩ := fst_true e hl
      rw [if_pos e, e, if_neg b2t, AT_11, if_pos (inb_nI (by omega) (by decide)), nc (by omega), AT_k (by decide), t.2.2 i d1, d5, nI_1, AT_AT, show nI (48 + dgv s i) - (48 : Int32) = nI (dgv s i) by rw [← nI_add 48]; exact i_cancel _ _]
      exact M_numGo t hhi 60 FU (dgv s i) (i + 1) (by omega) (by decide) (by omega) (by omega)
    · rw [if_neg e, show nxt s ln (nI (48 + lo)) (nI (48 + min hi 9)) i = false by simpa using e, if_pos b2f]
  unfold f_X8_number
  rw [show (48 : Int32) + nI lo = nI (48 + lo) from nI_add 48 lo, show (48 : Int32) + nI hi = nI (48 + hi) from nI_add 48 hi]
  by_cases h9 : 9 ≤ hi
  · rw [if_pos (show (9 : Int32) ≤ nI hi from (le_iff (a := 9) (by decide) (by omega)).mpr h9), ← key, show 48 + min hi 9 = 57 by omega]
    rfl
  · rw [if_neg (fun (z : (9 : Int32) ≤ nI hi) => h9 ((le_iff (a := 9) (by decide) (by omega)).mp z)), ← key, show 48 + min hi 9 = 48 + hi by omega]
/-- the rows that are laid: captain, place, value -/
def lay3 (T : Nat → Int32) (c w v : Nat) : Nat → Int32 := upd T (6 + 10 * c + w) (nI v)
/-- the items behind a letter w of the captain c; the number is at i: is it well, where it ends, the row -/
def items (s : Nat → Int32) (ln c : Nat) : Nat → Nat → Nat → (Nat → Int32) → Bool × Nat × (Nat → Int32)
  | 0, _, i, T => (false, i, T)
  | n + 1, w, i, T => match numAt s ln (loW w) (hiW w) i with
    | none => (false, i, T)
    | some q => match ltr s ln q.2 with
      | none => (true, q.2, lay3 T c w q.1)
      | some w2 => items s ln c n w2 (q.2 + 1) (lay3 T c w q.1)
theorem ltr_lt {s : Nat → Int32} {ln i w : Nat} (h : ltr s ln i = some w) : w < 4 ∧ i < ln := by
  have hs : ∀ a, isS s ln a i = true → i < ln := fun a z => by
    unfold isS at z
    simp only [Bool.and_eq_true, decide_eq_true_eq] at z
    exact z.1
  unfold ltr at h
  split at h
  · cases h; exact ⟨by decide, hs _ (by assumption)⟩
  · split at h
    · cases h; exact ⟨by decide, hs _ (by assumption)⟩
    · split at h
      · cases h; exact ⟨by decide, hs _ (by assumption)⟩
      · split at h
        · cases h; exact ⟨by decide, hs _ (by assumption)⟩
        · cases h
theorem numAt_lt {s : Nat → Int32} {ln lo hi i : Nat} {q : Nat × Nat} (hl : lo ≤ 9) (h : numAt s ln lo hi i = some q) : i < ln ∧ q.1 ≤ hi ∧ i < q.2 ∧ q.2 ≤ ln := by
  unfold numAt at h
  by_cases e : nxt s ln (nI (48 + lo)) (nI (48 + min hi 9)) i = true
  · rw [if_pos e] at h
    obtain ⟨d1, d2, d3, d4, d5⟩ := fst_true e hl
    cases h
    obtain ⟨a, b, c⟩ := @numGo_le s ln hi 60 (dgv s i) (i + 1) d3
    exact ⟨d1, a, by omega, c (by omega)⟩
  · rw [if_neg e] at h
    cases h
theorem W_small {w : Nat} : loW w ≤ 9 ∧ hiW w ≤ 23 := by
  unfold loW hiW
  constructor
  · split <;> omega
  · split
    · omega
    · split
      · omega
      · split <;> omega
