/-! numbers, in the reference -/
theorem nxt_true {s : Nat → Int32} {ln a b i : Nat} (ha : a < 2 ^ 31) (hb : b < 2 ^ 31) (h : nxt s ln (nI a) (nI b) i = true) : i < ln ∧ ∃ m : Nat, a ≤ m ∧ m ≤ b ∧ s i = nI m := by
  unfold nxt at h
  simp only [Bool.and_eq_true, decide_eq_true_eq, Bool.not_eq_true', decide_eq_false_iff_not] at h
  obtain ⟨h1, h2, h3⟩ := h
  refine ⟨h1, ?_⟩
  have h0 : ¬ s i < 0 := fun z => h2 (Int32.lt_of_lt_of_le z (nI_pos' ha))
  obtain ⟨m, hm, e⟩ := nI_of h0
  rw [e] at h2 h3
  refine ⟨m, ?_, ?_, e⟩
  · rcases Nat.lt_or_ge m a with q | q
    · exact absurd ((lt_iff hm ha).mpr q) h2
    · exact q
  · rcases Nat.lt_or_ge b m with q | q
    · exact absurd ((lt_iff hb hm).mpr q) h3
    · exact q
theorem nxt_of {s : Nat → Int32} {ln a b i m : Nat} (hb : b < 2 ^ 31) (hi : i < ln) (e : s i = nI m) (h1 : a ≤ m) (h2 : m ≤ b) : nxt s ln (nI a) (nI b) i = true := by
  unfold nxt
  rw [decide_eq_true hi, e, decide_eq_false (fun z => by have := (lt_iff (by omega) (by omega)).mp z; omega), decide_eq_false (fun z => by have := (lt_iff hb (by omega)).mp z; omega)]
  rfl
def dgv (s : Nat → Int32) (i : Nat) : Nat := (s i).toNatClampNeg - 48
def isD (s : Nat → Int32) (ln i : Nat) : Bool := nxt s ln (nI 48) (nI 57) i
theorem isD_true {s : Nat → Int32} {ln i : Nat} (h : isD s ln i = true) : i < ln ∧ dgv s i ≤ 9 ∧ s i = nI (48 + dgv s i) := by
  obtain ⟨h1, m, m1, m2, e⟩ := nxt_true (by decide) (by decide) h
  have : dgv s i = m - 48 := by
    unfold dgv
    rw [e, nc (by omega)]
  exact ⟨h1, by omega, by rw [this, e]; congr 1; omega⟩
/-- a number goes on -/
def numGo (s : Nat → Int32) (ln hi : Nat) : Nat → Nat → Nat → Nat × Nat
  | 0, v, i => (v, i)
  | n + 1, v, i => if v = 0 then (v, i) else if isD s ln i = true then (if hi < 10 * v + dgv s i then (v, i) else numGo s ln hi n (10 * v + dgv s i) (i + 1)) else (v, i)
theorem isD_out {s : Nat → Int32} {ln i : Nat} (h : ln ≤ i) : isD s ln i = false := by
  unfold isD nxt
  rw [decide_eq_false (by omega)]
  rfl
theorem M_numGo {g : Hp} {s : Nat → Int32} {ln hi : Nat} (t : TX g s ln) (hhi : hi ≤ 23) : ∀ (m n v i : Nat), ln ≤ i + m → m < n → v ≤ 23 → i ≤ 60 → f_X8_number_52 n (AT g i) (nI hi) (nI v) = some (nI (numGo s ln hi m v i).1, AT g (numGo s ln hi m v i).2) := by
  intro m
  have hln := t.1
  induction m with
  | zero =>
    intro n v i h1 h2 hv h3
    obtain ⟨n, rfl⟩ : ∃ q, n = q + 1 := ⟨n - 1, by omega⟩
    rw [f_X8_number_52_s, show f_X8_isNext (AT g i) (48 : Int32) (57 : Int32) = some (b2i (isD s ln i), AT g i) from M_isNext t (by omega) _ _, isD_out (by omega), ob_s, if_pos b2f]
    by_cases hz : v = 0
    · subst hz
      rw [if_pos (by decide)]
      rfl
    · rw [if_neg (nI_nle (by omega) (by omega))]
      rfl
  | succ m ih =>
    intro n v i h1 h2 hv h3
    obtain ⟨n, rfl⟩ : ∃ q, n = q + 1 := ⟨n - 1, by omega⟩
    rw [f_X8_number_52_s, show f_X8_isNext (AT g i) (48 : Int32) (57 : Int32) = some (b2i (isD s ln i), AT g i) from M_isNext t (by omega) _ _, ob_s, numGo]
    by_cases hz : v = 0
    · subst hz
      rw [if_pos (by decide), if_pos rfl]
    · rw [if_neg (nI_nle (by omega) (by omega)), if_neg hz]
      cases hd : isD s ln i
      · rw [if_pos b2f]
        rfl
      · obtain ⟨d1, d2, d3⟩ := isD_true hd
        simp only []
        rw [if_neg b2t, AT_11, if_pos (inb_nI (by omega) (by decide)), if_pos (inb_nI (by omega) (by decide)), nc (by omega), AT_k (by decide), t.2.2 i d1, d3, show (10 : Int32) * nI v = nI (10 * v) from pk_mul 10 v, nI_add]
        rw [show nI (10 * v + (48 + dgv s i)) - (48 : Int32) = nI (10 * v + dgv s i) by rw [show 10 * v + (48 + dgv s i) = 48 + (10 * v + dgv s i) by omega, ← nI_add 48]; exact i_cancel _ _]
        simp only [if_true]
        by_cases l : hi < 10 * v + dgv s i
        · rw [if_pos ((lt_iff (by omega) (by omega)).mpr l), if_pos l]
        · rw [if_neg (fun z => l ((lt_iff (by omega) (by omega)).mp z)), if_neg l, nI_1, AT_AT]
          exact ih n (10 * v + dgv s i) (i + 1) (by omega) (by omega) (by omega) (by omega)
