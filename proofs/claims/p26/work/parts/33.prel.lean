/-! the history and the snapshot: what the two sides record -/
theorem M_rec_copy : ∀ (n i kp : Nat) (h : Hp), 36 < n + i → i ≤ 36 → kp < 4 → h 0 12 = nI kp → ∃ h', f_X8_record_49 n h (nI i) = some h' ∧ (∀ a, a ≠ 0 → a ≠ 4 → h' a = h a) ∧ (∀ j, j ≠ 12 → h' 0 j = h 0 j) ∧ h' 0 12 = nI (kp + 1) ∧ (∀ j, j < 36 * kp + i ∨ 36 * kp + 36 ≤ j → h' 4 j = h 4 j) ∧ ∀ j, i ≤ j → j < 36 → h' 4 (36 * kp + j) = h 1 j := by
  intro n
  induction n with
  | zero => intro i kp h h1 h2; omega
  | succ n ih =>
    intro i kp h hn hi hk hkp
    rw [f_X8_record_49_s]
    simp only [L36]
    by_cases h36 : 36 ≤ i
    · rw [if_pos ((le_iff (by decide) (by omega)).mpr h36)]
      refine ⟨_, rfl, fun a h0 h4 => hs_r h0, fun j hj => hs_j hj, ?_, fun j _ => hs_k (by decide), fun j h1 h2 => by omega⟩
      rw [hs_at, hkp]
      exact nI_1 kp
    · rw [if_neg (fun z => h36 ((le_iff (by decide) (by omega)).mp z)), if_pos (inb_nI (by omega) (by decide)), hkp, pk_mul, nI_add, if_pos (inb_nI (by omega) (by decide)), nc (by omega), nc (by omega), nI_1]
      obtain ⟨h', r1, r2, r3, r4, r5, r6⟩ := ih (i + 1) kp (hs h 4 (36 * kp + i) (h 1 i)) (by omega) (by omega) hk (by rw [hs_k (by decide), hkp])
      refine ⟨h', r1, fun a h0 h4 => by rw [r2 a h0 h4, hs_r h4], fun j hj => by rw [r3 j hj, hs_k (by decide)], r4, fun j hj => ?_, fun j h1 h2 => ?_⟩
      · rw [r5 j (by omega), hs_j (by omega)]
      · by_cases hji : j = i
        · subst hji
          rw [r5 (36 * kp + j) (by omega), hs_at]
        · rw [r6 j (by omega) h2, hs_k (by decide)]
theorem M_rec_shift : ∀ (n i : Nat) (h : Hp), 108 < n + i → i ≤ 108 → ∃ h', f_X8_record_10 n h (nI i) = f_X8_record_47 (hs h' 0 12 (h' 0 12 - 1)) ∧ (∀ a, a ≠ 4 → h' a = h a) ∧ (∀ j, j < i ∨ 108 ≤ j → h' 4 j = h 4 j) ∧ ∀ j, i ≤ j → j < 108 → h' 4 j = h 4 (j + 36) := by
  intro n
  induction n with
  | zero => intro i h h1 h2; omega
  | succ n ih =>
    intro i h hn hi
    rw [f_X8_record_10_s]
    simp only [show (108 : Int32) = nI 108 from rfl, L36]
    by_cases h108 : 108 ≤ i
    · rw [if_pos ((le_iff (by decide) (by omega)).mpr h108)]
      exact ⟨h, rfl, fun _ _ => rfl, fun _ _ => rfl, fun j h1 h2 => by omega⟩
    · rw [if_neg (fun z => h108 ((le_iff (by decide) (by omega)).mp z)), nI_add, if_pos (inb_nI (by omega) (by decide)), if_pos (inb_nI (by omega) (by decide)), nc (by omega), nc (by omega), nI_1]
      obtain ⟨h', r1, r2, r3, r4⟩ := ih (i + 1) (hs h 4 i (h 4 (i + 36))) (by omega) (by omega)
      refine ⟨h', r1, fun a ha => by rw [r2 a ha, hs_r ha], fun j hj => ?_, fun j h1 h2 => ?_⟩
      · rw [r3 j (by omega), hs_j (by omega)]
      · by_cases hji : j = i
        · subst hji
          rw [r3 j (by omega), hs_at]
        · rw [r4 j (by omega) h2, hs_j (by omega)]
/-- the reference records: the row 1 comes behind the kept ones, the oldest goes where there are four -/
theorem M_record {h : Hp} {kp : Nat} (hk : kp ≤ 4) (hkp : h 0 12 = nI kp) : ∃ h', f_X8_record h = some h' ∧ (∀ a, a ≠ 0 → a ≠ 4 → h' a = h a) ∧ (∀ j, j ≠ 12 → h' 0 j = h 0 j) ∧ h' 0 12 = nI (if kp = 4 then 4 else kp + 1) ∧ (∀ q i, q < (if kp = 4 then 3 else kp) → i < 36 → h' 4 (36 * q + i) = h 4 (36 * (if kp = 4 then q + 1 else q) + i)) ∧ ∀ i, i < 36 → h' 4 (36 * (if kp = 4 then 3 else kp) + i) = h 1 i := by
  unfold f_X8_record
  by_cases h4 : kp = 4
  · subst h4
    rw [hkp, L4, if_pos (show nI 4 = nI 4 from rfl)]
    obtain ⟨h1, e1, a1, a2, a3⟩ := M_rec_shift FU 0 h (by have := FUv; omega) (by omega)
    obtain ⟨h2, e2, b1, b2, b3, b4, b5⟩ := M_rec_copy FU 0 3 (hs h1 0 12 (h1 0 12 - 1)) (by have := FUv; omega) (by omega) (by decide) (by rw [hs_at, a1 0 (by decide), hkp]; exact nI_pred 3)
    refine ⟨h2, ?_, fun a x0 x4 => ?_, fun j hj => ?_, ?_, fun q i hq hi => ?_, fun i hi => ?_⟩
    · rw [L0, e1]
      unfold f_X8_record_47
      rw [L0]
      exact e2
    · rw [b1 a x0 x4, hs_r x0, a1 a x4]
    · rw [b2 j hj, hs_j hj, a1 0 (by decide)]
    · rw [b3, if_pos rfl]
    · simp only [if_true] at hq ⊢
      rw [b4 _ (by omega), hs_k (by decide), a3 _ (by omega) (by omega)]
      rw [show 36 * q + i + 36 = 36 * (q + 1) + i by omega]
    · simp only [if_true]
      rw [b5 i (by omega) hi, hs_k (by decide), a1 1 (by decide)]
  · have hlt : kp < 4 := by omega
    rw [hkp, L4, if_neg (fun z => h4 ((eq_iff (by omega) (by decide)).mp z))]
    obtain ⟨h2, e2, b1, b2, b3, b4, b5⟩ := M_rec_copy FU 0 kp h (by have := FUv; omega) (by omega) hlt hkp
    refine ⟨h2, by
      unfold f_X8_record_47
      rw [L0]
      exact e2, b1, b2, ?_, fun q i hq hi => ?_, fun i hi => ?_⟩
    · rw [b3, if_neg h4]
    · simp only [if_neg h4] at hq ⊢
      rw [b4 _ (by omega)]
    · simp only [if_neg h4]
      rw [b5 i (by omega) hi]
/-- the class's history: which of its four states comes at which place -/
def hiAt (h : Hp) (pm : Nat → Nat) : Prop := (∀ j, j < 4 → pm j < 4 ∧ h 36 j = nI (pm j)) ∧ ∀ i j, i < 4 → j < 4 → pm i = pm j → i = j
theorem C_record {h : Hp} {kp : Nat} {pm : Nat → Nat} (hk : kp ≤ 4) (hkp : h 0 4 = nI kp) (hp : hiAt h pm) : ∃ h' pm', f_X7_record h = some h' ∧ hiAt h' pm' ∧ (∀ a, a ≠ 0 → a < 11 ∨ 31 ≤ a → a ≠ 36 → h' a = h a) ∧ (∀ j, j ≠ 4 → h' 0 j = h 0 j) ∧ h' 0 4 = nI (if kp = 4 then 4 else kp + 1) ∧ (∀ q i, q < (if kp = 4 then 3 else kp) → i < 36 → rC h' (11 + 5 * pm' q) i = rC h (11 + 5 * pm (if kp = 4 then q + 1 else q)) i) ∧ ∀ i, i < 36 → rC h' (11 + 5 * pm' (if kp = 4 then 3 else kp)) i = rC h 1 i := by
  obtain ⟨hp1, hp2⟩ := hp
  have put : ∀ (h : Hp) (pm : Nat → Nat) (q : Nat), q < 4 → hiAt h pm → h 0 4 = nI q → ∃ h', f_X7_record_74 h = some h' ∧ (∀ a, a ≠ 0 → a < 11 + 5 * pm q ∨ 11 + 5 * pm q + 5 ≤ a → h' a = h a) ∧ (∀ j, j ≠ 4 → h' 0 j = h 0 j) ∧ h' 0 4 = nI (q + 1) ∧ ∀ i, i < 36 → rC h' (11 + 5 * pm q) i = rC h 1 i := by
    intro h pm q hq hp hk4
    obtain ⟨p1, p2⟩ := hp.1 q hq
    unfold f_X7_record_74
    rw [hk4, if_pos (inb_nI hq (by decide)), nc (by omega), p2, if_pos (inb_nI p1 (by decide)), nc (by omega)]
    obtain ⟨h1, e1, a1, a2⟩ := C5_copy h (k := 11 + 5 * pm q) (k1 := 1) (by omega)
    rw [e1, ob_s]
    refine ⟨_, rfl, fun a h0 ha => by rw [hs_r h0, a1 a ha], fun j hj => by rw [hs_j hj, a1 0 (by omega)], ?_, fun i hi => ?_⟩
    · rw [hs_at, a1 0 (by omega), hk4]
      exact nI_1 q
    · rw [← a2 i hi]
      exact rC_congr (fun j _ _ => hs_k (by omega)) (fun c _ j _ => hs_k (by omega)) i hi
  unfold f_X7_record
  by_cases h4 : kp = 4
  · subst h4
    rw [hkp, if_neg (by decide), if_pos (by decide)]
    have z0 : (0 : Int32).toNatClampNeg = 0 := by decide
    obtain ⟨p0, q0⟩ := hp1 0 (by decide)
    obtain ⟨p1, q1⟩ := hp1 1 (by decide)
    obtain ⟨p2, q2⟩ := hp1 2 (by decide)
    obtain ⟨p3, q3⟩ := hp1 3 (by decide)
    rw [z0, q0, if_pos (inb_nI p0 (by decide)), nc (by omega)]
    rw [show FU = 196 + 1 + 1 + 1 + 1 from rfl]
    have s1 : (1 - 1 : Int32).toNatClampNeg = 0 := by decide
    have s2 : (1 + 1 - 1 : Int32).toNatClampNeg = 1 := by decide
    have s3 : (1 + 1 + 1 - 1 : Int32).toNatClampNeg = 2 := by decide
    have s4 : (4 - 1 : Int32).toNatClampNeg = 3 := by decide
    have t1 : (1 : Int32).toNatClampNeg = 1 := by decide
    have t2 : (1 + 1 : Int32).toNatClampNeg = 2 := by decide
    have t3 : (1 + 1 + 1 : Int32).toNatClampNeg = 3 := by decide
    rw [f_X7_record_21_s, if_neg (by decide), if_pos (by decide), t1, q1, if_pos (inb_nI p1 (by decide)), if_pos (by decide), s1]
    rw [f_X7_record_21_s, if_neg (by decide), if_pos (by decide), t2, hs_j (by decide), q2, if_pos (inb_nI p2 (by decide)), if_pos (by decide), s2]
    rw [f_X7_record_21_s, if_neg (by decide), if_pos (by decide), t3, hs_j (by decide), hs_j (by decide), q3, if_pos (inb_nI p3 (by decide)), if_pos (by decide), s3]
    rw [f_X7_record_21_s, if_pos (by decide), if_pos (by decide), if_pos (by omega), s4]
    unfold f_X7_record_63
    have e0 : (11 + 5 * pm 0 - 11) / 5 = pm 0 := by omega
    rw [e0]
    have hpm : hiAt (hs (hs (hs (hs (hs h 36 0 (nI (pm 1))) 36 1 (nI (pm 2))) 36 2 (nI (pm 3))) 36 3 (nI (pm 0))) 0 4 (4 - 1)) (fun j => if j = 3 then pm 0 else pm (j + 1)) := by
      refine ⟨fun j hj => ?_, fun i j hi hj e => ?_⟩
      · rcases (show j = 0 ∨ j = 1 ∨ j = 2 ∨ j = 3 by omega) with rfl | rfl | rfl | rfl <;> simp [hs, p0, p1, p2, p3]
      · have n01 : pm 0 ≠ pm 1 := fun z => by have := hp2 0 1 (by decide) (by decide) z; omega
        have n02 : pm 0 ≠ pm 2 := fun z => by have := hp2 0 2 (by decide) (by decide) z; omega
        have n03 : pm 0 ≠ pm 3 := fun z => by have := hp2 0 3 (by decide) (by decide) z; omega
        have n12 : pm 1 ≠ pm 2 := fun z => by have := hp2 1 2 (by decide) (by decide) z; omega
        have n13 : pm 1 ≠ pm 3 := fun z => by have := hp2 1 3 (by decide) (by decide) z; omega
        have n23 : pm 2 ≠ pm 3 := fun z => by have := hp2 2 3 (by decide) (by decide) z; omega
        rcases (show i = 0 ∨ i = 1 ∨ i = 2 ∨ i = 3 by omega) with rfl | rfl | rfl | rfl <;> rcases (show j = 0 ∨ j = 1 ∨ j = 2 ∨ j = 3 by omega) with rfl | rfl | rfl | rfl <;> simp at e ⊢ <;> omega
    obtain ⟨h1, e1, a1, a2, a3, a4⟩ := put _ _ 3 (by decide) hpm (by rw [hs_at]; rfl)
    have hfr : ∀ a, a ≠ 0 → a ≠ 36 → hs (hs (hs (hs (hs h 36 0 (nI (pm 1))) 36 1 (nI (pm 2))) 36 2 (nI (pm 3))) 36 3 (nI (pm 0))) 0 4 (4 - 1) a = h a := fun a x0 x36 => by
      rw [hs_r x0, hs_r x36, hs_r x36, hs_r x36, hs_r x36]
    refine ⟨h1, _, e1, ⟨fun j hj => ⟨(hpm.1 j hj).1, ?_⟩, hpm.2⟩, fun a x0 ha x36 => ?_, fun j hj => ?_, a3, fun q i hq hi => ?_, fun i hi => ?_⟩
    · rw [a1 36 (by decide) (by simp; omega)]
      exact (hpm.1 j hj).2
    · rw [a1 a x0 (by simp; omega), hfr a x0 x36]
    · rw [a2 j hj, hs_j hj, hs_k (by decide), hs_k (by decide), hs_k (by decide), hs_k (by decide)]
    · simp only [if_true] at hq ⊢
      have hq3 : q ≠ 3 := by omega
      have hne : pm (q + 1) ≠ pm 0 := fun z => by have := hp2 (q + 1) 0 (by omega) (by decide) z; omega
      simp only [if_neg hq3]
      have hlt := (hp1 (q + 1) (by omega)).1
      refine rC_congr (fun j _ _ => ?_) (fun c _ j _ => ?_) i hi
      · rw [a1 _ (by omega) (by simp; omega), hfr _ (by omega) (by omega)]
      · rw [a1 _ (by omega) (by simp; omega), hfr _ (by omega) (by omega)]
    · simp only [if_true]
      have a4' := a4 i hi
      rw [if_pos rfl] at a4'
      rw [a4']
      exact rC_congr (fun j _ _ => by rw [hfr 1 (by decide) (by decide)]) (fun c _ j _ => by rw [hfr _ (by omega) (by omega)]) i hi
  · have hlt : kp < 4 := by omega
    rw [hkp, L4, if_pos ((lt_iff (by omega) (by decide)).mpr hlt)]
    obtain ⟨h1, e1, a1, a2, a3, a4⟩ := put h pm kp hlt ⟨hp1, hp2⟩ hkp
    have hpk := (hp1 kp hlt).1
    refine ⟨h1, pm, e1, ⟨fun j hj => ⟨(hp1 j hj).1, ?_⟩, hp2⟩, fun a x0 ha x36 => a1 a x0 (by omega), a2, ?_, fun q i hq hi => ?_, fun i hi => ?_⟩
    · rw [a1 36 (by decide) (by omega)]
      exact (hp1 j hj).2
    · rw [a3, if_neg h4]
    · simp only [if_neg h4] at hq ⊢
      have hne : pm q ≠ pm kp := fun z => by have := hp2 q kp (by omega) hlt z; omega
      have hpq := (hp1 q (by omega)).1
      refine rC_congr (fun j _ _ => ?_) (fun c _ j _ => ?_) i hi
      · rw [a1 _ (by omega) (by omega)]
      · rw [a1 _ (by omega) (by omega)]
    · simp only [if_neg h4]
      exact a4 i hi
