/-! the reference copies rows of 36 numbers -/
theorem M_undo_loop : ∀ (n i : Nat) (h : Hp) (kp : Nat), 36 < n + i → i ≤ 36 → kp < 4 → h 0 12 = nI kp → ∃ h', f_X8_undo_22 n h (nI i) = some (h' 0 12, h') ∧ (∀ a, a ≠ 1 → h' a = h a) ∧ (∀ j, j < i ∨ 36 ≤ j → h' 1 j = h 1 j) ∧ ∀ j, i ≤ j → j < 36 → h' 1 j = h 4 (36 * kp + j) := by
  intro n
  induction n with
  | zero => intro i h kp h1 h2; omega
  | succ n ih =>
    intro i h kp hn hi hk hkp
    rw [f_X8_undo_22_s]
    simp only [L36]
    by_cases h36 : 36 ≤ i
    · rw [if_pos ((le_iff (by decide) (by omega)).mpr h36)]
      exact ⟨h, rfl, fun _ _ => rfl, fun _ _ => rfl, fun j h1 h2 => by omega⟩
    · rw [if_neg (fun z => h36 ((le_iff (by decide) (by omega)).mp z)), hkp, pk_mul, nI_add, if_pos (inb_nI (by omega) (by decide)), if_pos (inb_nI (by omega) (by decide)), nc (by omega), nc (by omega), nI_1]
      obtain ⟨h', r1, r2, r3, r4⟩ := ih (i + 1) (hs h 1 i (h 4 (36 * kp + i))) kp (by omega) (by omega) hk (by rw [hs_k (by decide), hkp])
      refine ⟨h', r1, fun a ha => by rw [r2 a ha, hs_r ha], fun j hj => ?_, fun j h1 h2 => ?_⟩
      · rw [r3 j (by omega), hs_j (by omega)]
      · by_cases hji : j = i
        · subst hji
          rw [r3 j (by omega), hs_at]
        · rw [r4 j (by omega) h2, hs_k (by decide)]
theorem M_keep_loop : ∀ (n i : Nat) (h : Hp), 36 < n + i → i ≤ 36 → ∃ h', f_X8_keep_2 n h (nI i) = f_X8_keep_31 (hs h' 0 14 1) ∧ (∀ a, a ≠ 2 → h' a = h a) ∧ (∀ j, j < i ∨ 36 ≤ j → h' 2 j = h 2 j) ∧ ∀ j, i ≤ j → j < 36 → h' 2 j = h 1 (j) := by
  intro n
  induction n with
  | zero => intro i h h1 h2; omega
  | succ n ih =>
    intro i h hn hi
    rw [f_X8_keep_2_s]
    simp only [L36]
    by_cases h36 : 36 ≤ i
    · rw [if_pos ((le_iff (by decide) (by omega)).mpr h36)]
      exact ⟨h, rfl, fun _ _ => rfl, fun _ _ => rfl, fun j h1 h2 => by omega⟩
    · rw [if_neg (fun z => h36 ((le_iff (by decide) (by omega)).mp z)), if_pos (inb_nI (by omega) (by decide)), if_pos (inb_nI (by omega) (by decide)), nc (by omega), nI_1]
      obtain ⟨h', r1, r2, r3, r4⟩ := ih (i + 1) (hs h 2 i (h 1 (i))) (by omega) (by omega)
      refine ⟨h', r1, fun a ha => by rw [r2 a ha, hs_r ha], fun j hj => ?_, fun j h1 h2 => ?_⟩
      · rw [r3 j (by omega), hs_j (by omega)]
      · by_cases hji : j = i
        · subst hji
          rw [r3 j (by omega), hs_at]
        · rw [r4 j (by omega) h2, hs_k (by decide)]
theorem M_restore_loop : ∀ (n i : Nat) (h : Hp), 36 < n + i → i ≤ 36 → ∃ h', f_X8_restore_16 n h (nI i) = some (h' 1 0, h') ∧ (∀ a, a ≠ 1 → h' a = h a) ∧ (∀ j, j < i ∨ 36 ≤ j → h' 1 j = h 1 j) ∧ ∀ j, i ≤ j → j < 36 → h' 1 j = h 2 (j) := by
  intro n
  induction n with
  | zero => intro i h h1 h2; omega
  | succ n ih =>
    intro i h hn hi
    rw [f_X8_restore_16_s]
    simp only [L36]
    by_cases h36 : 36 ≤ i
    · rw [if_pos ((le_iff (by decide) (by omega)).mpr h36)]
      exact ⟨h, by rw [if_pos (by decide)]; rfl, fun _ _ => rfl, fun _ _ => rfl, fun j h1 h2 => by omega⟩
    · rw [if_neg (fun z => h36 ((le_iff (by decide) (by omega)).mp z)), if_pos (inb_nI (by omega) (by decide)), if_pos (inb_nI (by omega) (by decide)), nc (by omega), nI_1]
      obtain ⟨h', r1, r2, r3, r4⟩ := ih (i + 1) (hs h 1 i (h 2 (i))) (by omega) (by omega)
      refine ⟨h', r1, fun a ha => by rw [r2 a ha, hs_r ha], fun j hj => ?_, fun j h1 h2 => ?_⟩
      · rw [r3 j (by omega), hs_j (by omega)]
      · by_cases hji : j = i
        · subst hji
          rw [r3 j (by omega), hs_at]
        · rw [r4 j (by omega) h2, hs_k (by decide)]
theorem M_lay_loop : ∀ (n i : Nat) (h : Hp), 36 < n + i → i ≤ 36 → ∃ h', f_X8_lay_2 n h (nI i) = some h' ∧ (∀ a, a ≠ 3 → h' a = h a) ∧ (∀ j, j < i ∨ 36 ≤ j → h' 3 j = h 3 j) ∧ ∀ j, i ≤ j → j < 36 → h' 3 j = h 1 (j) := by
  intro n
  induction n with
  | zero => intro i h h1 h2; omega
  | succ n ih =>
    intro i h hn hi
    rw [f_X8_lay_2_s]
    simp only [L36]
    by_cases h36 : 36 ≤ i
    · rw [if_pos ((le_iff (by decide) (by omega)).mpr h36)]
      exact ⟨h, rfl, fun _ _ => rfl, fun _ _ => rfl, fun j h1 h2 => by omega⟩
    · rw [if_neg (fun z => h36 ((le_iff (by decide) (by omega)).mp z)), if_pos (inb_nI (by omega) (by decide)), if_pos (inb_nI (by omega) (by decide)), nc (by omega), nI_1]
      obtain ⟨h', r1, r2, r3, r4⟩ := ih (i + 1) (hs h 3 i (h 1 (i))) (by omega) (by omega)
      refine ⟨h', r1, fun a ha => by rw [r2 a ha, hs_r ha], fun j hj => ?_, fun j h1 h2 => ?_⟩
      · rw [r3 j (by omega), hs_j (by omega)]
      · by_cases hji : j = i
        · subst hji
          rw [r3 j (by omega), hs_at]
        · rw [r4 j (by omega) h2, hs_k (by decide)]
theorem M_back_loop : ∀ (n i : Nat) (h : Hp), 36 < n + i → i ≤ 36 → ∃ h', f_X8_takeBack_2 n h (nI i) = some h' ∧ (∀ a, a ≠ 1 → h' a = h a) ∧ (∀ j, j < i ∨ 36 ≤ j → h' 1 j = h 1 j) ∧ ∀ j, i ≤ j → j < 36 → h' 1 j = h 3 (j) := by
  intro n
  induction n with
  | zero => intro i h h1 h2; omega
  | succ n ih =>
    intro i h hn hi
    rw [f_X8_takeBack_2_s]
    simp only [L36]
    by_cases h36 : 36 ≤ i
    · rw [if_pos ((le_iff (by decide) (by omega)).mpr h36)]
      exact ⟨h, rfl, fun _ _ => rfl, fun _ _ => rfl, fun j h1 h2 => by omega⟩
    · rw [if_neg (fun z => h36 ((le_iff (by decide) (by omega)).mp z)), if_pos (inb_nI (by omega) (by decide)), if_pos (inb_nI (by omega) (by decide)), nc (by omega), nI_1]
      obtain ⟨h', r1, r2, r3, r4⟩ := ih (i + 1) (hs h 1 i (h 3 (i))) (by omega) (by omega)
      refine ⟨h', r1, fun a ha => by rw [r2 a ha, hs_r ha], fun j hj => ?_, fun j h1 h2 => ?_⟩
      · rw [r3 j (by omega), hs_j (by omega)]
      · by_cases hji : j = i
        · subst hji
          rw [r3 j (by omega), hs_at]
        · rw [r4 j (by omega) h2, hs_k (by decide)]
theorem M_lay (h : Hp) : ∃ h', f_X8_lay h = some h' ∧ (∀ a, a ≠ 3 → h' a = h a) ∧ ∀ j, j < 36 → h' 3 j = h 1 j := by
  obtain ⟨h', e, a, _, b⟩ := M_lay_loop FU 0 h (by decide) (by omega)
  exact ⟨h', e, a, fun j hj => b j (by omega) hj⟩
theorem M_back (h : Hp) : ∃ h', f_X8_takeBack h = some h' ∧ (∀ a, a ≠ 1 → h' a = h a) ∧ (∀ j, 36 ≤ j → h' 1 j = h 1 j) ∧ ∀ j, j < 36 → h' 1 j = h 3 j := by
  obtain ⟨h', e, a, c, b⟩ := M_back_loop FU 0 h (by decide) (by omega)
  exact ⟨h', e, a, fun j hj => c j (Or.inr hj), fun j hj => b j (by omega) hj⟩
theorem st_type : ST_6 SIM := by
  intro h hm s a
  obtain ⟨s1, s2, s3, s4, ln, l1, l2, l3, l4⟩ := s
  have hs0 : SIM h hm := ⟨s1, s2, s3, s4, ln, l1, l2, l3, l4⟩
  unfold f_X7_type f_X8_type f_X0_append
  rw [l2, l3, if_neg (nI_pos (by omega))]
  simp only [L60]
  by_cases hl : ln < 60
  · rw [if_pos ((lt_iff (by omega) (by decide)).mpr hl), if_pos (inb_nI hl (by decide)), if_neg (fun z => by have := (eq_iff (by omega) (by decide)).mp z; omega), if_pos (inb_nI hl (by decide)), nc (by omega), ob_s]
    simp only []
    rw [if_neg (by decide), hs_at, hs_k (by decide), l2]
    unfold f_X8_type_32
    rw [hs_at, hs_k (by decide), l3]
    refine ⟨_, _, _, rfl, rfl, ?_⟩
    have hch : vp_nar .char (a.toUInt32 % 65536).toInt32 = (a.toUInt32 % 65536).toInt32 := pk_vc a
    rw [hch]
    refine ⟨fun i hi => ?_, by rw [hs_r (by decide), hs_r (by decide)]; exact s2, ?_, ?_, ln + 1, by omega, ?_, ?_, fun i hi => ?_⟩
    · rw [hs_r (by decide), hs_r (by decide), rC_row (fun b _ _ => by rw [hs_r (by omega), hs_r (by omega)]) i hi]
      exact s1 i hi
    · obtain ⟨z, z1, z2, z3, z4⟩ := s3
      refine ⟨z, z1, by rw [hs_k (by decide), hs_k (by decide)]; exact z2, by rw [hs_j (by decide), hs_k (by decide)]; exact z3, fun hz => ?_⟩
      rw [hs_r (by decide), hs_r (by decide)]
      exact ⟨fun i hi => by rw [rC_row (fun b _ _ => by rw [hs_r (by omega), hs_r (by omega)]) i hi]; exact (z4 hz).1 i hi, (z4 hz).2⟩
    · obtain ⟨kp, pm, k1, k2, k3, k4, k5⟩ := s4
      refine ⟨kp, pm, k1, by rw [hs_k (by decide), hs_k (by decide)]; exact k2, by rw [hs_j (by decide), hs_k (by decide)]; exact k3, ⟨fun j hj => by rw [hs_k (by decide), hs_k (by decide)]; exact k4.1 j hj, k4.2⟩, fun q hq => ?_⟩
      have hp := (k4.1 q (by omega)).1
      rw [hs_r (by decide), hs_r (by decide)]
      exact ⟨fun i hi => by rw [rC_row (fun b _ _ => by rw [hs_r (by omega), hs_r (by omega)]) i hi]; exact (k5 q hq).1 i hi, (k5 q hq).2⟩
    · rw [hs_at]; exact nI_1 ln
    · rw [hs_at]; exact nI_1 ln
    · rw [hs_k (show 38 ≠ 37 by decide), hs_k (show 5 ≠ 0 by decide)]
      by_cases hil : i = ln
      · subst hil; rw [hs_at, hs_at]
      · rw [hs_j hil, hs_j hil]; exact l4 i (by omega)
  · have : ln = 60 := by omega
    subst this
    rw [if_neg (fun z => by have := (lt_iff (by decide) (by decide)).mp z; omega), if_pos rfl, ob_s]
    simp only []
    rw [if_pos trivial]
    exact ⟨_, h, hm, rfl, rfl, hs0⟩
theorem st_clearText : ST_7 SIM := by
  intro h hm s
  obtain ⟨s1, s2, s3, s4, ln, l1, l2, l3, l4⟩ := s
  unfold f_X7_clearText f_X8_clearText
  rw [l2, l3]
  refine ⟨_, _, _, rfl, rfl, ?_⟩
  refine ⟨fun i hi => ?_, by rw [hs_r (by decide)]; exact s2, ?_, ?_, 0, by omega, by rw [hs_at]; rfl, by rw [hs_at]; rfl, fun i hi => absurd hi (Nat.not_lt_zero i)⟩
  · rw [hs_r (by decide), rC_row (fun b _ _ => hs_r (by omega)) i hi]
    exact s1 i hi
  · obtain ⟨z, z1, z2, z3, z4⟩ := s3
    refine ⟨z, z1, by rw [hs_k (by decide)]; exact z2, by rw [hs_j (by decide)]; exact z3, fun hz => ?_⟩
    rw [hs_r (by decide)]
    exact ⟨fun i hi => by rw [rC_row (fun b _ _ => hs_r (by omega)) i hi]; exact (z4 hz).1 i hi, (z4 hz).2⟩
  · obtain ⟨kp, pm, k1, k2, k3, k4, k5⟩ := s4
    refine ⟨kp, pm, k1, by rw [hs_k (by decide)]; exact k2, by rw [hs_j (by decide)]; exact k3, ⟨fun j hj => by rw [hs_k (by decide)]; exact k4.1 j hj, k4.2⟩, fun q hq => ?_⟩
    have hp := (k4.1 q (by omega)).1
    rw [hs_r (by decide)]
    exact ⟨fun i hi => by rw [rC_row (fun b _ _ => hs_r (by omega)) i hi]; exact (k5 q hq).1 i hi, (k5 q hq).2⟩
theorem st_undo : ST_9 SIM := by
  intro h hm s
  obtain ⟨s1, s2, s3, ⟨kp, pm, k1, k2, k3, k4, k5⟩, ln, l1, l2, l3, l4⟩ := s
  have hs0 : SIM h hm := ⟨s1, s2, s3, ⟨kp, pm, k1, k2, k3, k4, k5⟩, ln, l1, l2, l3, l4⟩
  unfold f_X7_undo f_X8_undo
  rw [k2, k3]
  by_cases hk : kp = 0
  · subst hk
    rw [if_pos (by decide), if_pos nz0]
    exact ⟨_, h, hm, rfl, rfl, hs0⟩
  · obtain ⟨q, rfl⟩ : ∃ q, kp = q + 1 := ⟨kp - 1, by omega⟩
    have hq : q < 4 := by omega
    obtain ⟨p1, p2⟩ := k4.1 q hq
    rw [nI_pred, if_neg (nI_pos (by omega)), L4, if_pos ((lt_iff (by omega) (by decide)).mpr hq), if_pos (inb_nI hq (by decide)), nc (by omega), p2, if_pos (inb_nI p1 (by decide)), nc (by omega)]
    rw [if_neg (fun z => by have := (eq_iff (by omega) (by decide)).mp (show nI (q + 1) = nI 0 from z); omega)]
    obtain ⟨h1, e1, a1, a2⟩ := C5_copy h (k := 1) (k1 := 11 + 5 * pm q) (by omega)
    obtain ⟨hm1, e2, b1, _, b2⟩ := M_undo_loop FU 0 (hs hm 0 12 (nI q)) q (by decide) (by omega) hq (hs_at _ _ _ _)
    rw [e1, ob_s]
    simp only [L0]
    rw [e2]
    refine ⟨nI q, hs h1 0 4 (nI q), hm1, by rw [hs_at], by rw [b1 0 (by decide), hs_at], ?_⟩
    have hrow := k5 q (by omega)
    refine ⟨fun i hi => ?_, ?_, ?_, ⟨q, pm, by omega, hs_at _ _ _ _, by rw [b1 0 (by decide), hs_at], ⟨fun j hj => by rw [hs_k (by decide), a1 36 (by omega)]; exact k4.1 j hj, k4.2⟩, fun q2 hq2 => ?_⟩, ln, l1, by rw [hs_k (by decide), a1 37 (by omega)]; exact l2, by rw [b1 0 (by decide), hs_j (by decide)]; exact l3, fun i hi => by rw [hs_k (by decide), a1 38 (by omega), b1 5 (by decide), hs_k (by decide)]; exact l4 i hi⟩
    · rw [rC_row (fun b _ _ => hs_r (by omega)) i hi, a2 i hi, b2 i (by omega) hi, hs_k (by decide)]
      exact hrow.1 i hi
    · exact VR_congr hrow.2 (fun i hi => by rw [b2 i (by omega) hi, hs_k (by decide)])
    · obtain ⟨z, z1, z2, z3, z4⟩ := s3
      refine ⟨z, z1, by rw [hs_j (by decide), a1 0 (by omega)]; exact z2, by rw [b1 0 (by decide), hs_j (by decide)]; exact z3, fun hz => ?_⟩
      rw [b1 2 (by decide), hs_r (by decide)]
      exact ⟨fun i hi => by rw [rC_row (fun b _ _ => by rw [hs_r (by omega), a1 b (by omega)]) i hi]; exact (z4 hz).1 i hi, (z4 hz).2⟩
    · have hp2 := (k4.1 q2 (by omega)).1
      rw [b1 4 (by decide), hs_r (by decide)]
      have := k5 q2 (by omega)
      exact ⟨fun i hi => by rw [rC_row (fun b _ _ => by rw [hs_r (by omega), a1 b (by omega)]) i hi]; exact this.1 i hi, this.2⟩
theorem st_keep : ST_10 SIM := by
  intro h hm s
  obtain ⟨s1, s2, s3, ⟨kp, pm, k1, k2, k3, k4, k5⟩, ln, l1, l2, l3, l4⟩ := s
  unfold f_X7_keep f_X8_keep
  obtain ⟨h1, e1, a1, a2⟩ := C5_copy h (k := 6) (k1 := 1) (by omega)
  obtain ⟨hm1, e2, b1, _, b2⟩ := M_keep_loop FU 0 hm (by decide) (by omega)
  rw [e1, ob_s]
  simp only [L0]
  rw [e2]
  unfold f_X8_keep_31
  rw [if_pos (by decide), hs_k (by decide), hs_k (by decide), a1 1 (by omega), b1 1 (by decide)]
  have hr : h 1 6 = hm 1 0 := by have := s1 0 (by decide); rwa [rC_low (by decide)] at this
  refine ⟨hm 1 0, hs h1 0 2 1, hs hm1 0 14 1, by rw [hr], rfl, ?_⟩
  refine ⟨fun i hi => ?_, by rw [hs_r (by decide), b1 1 (by decide)]; exact s2, ⟨1, by omega, hs_at _ _ _ _, hs_at _ _ _ _, fun _ => ⟨fun i hi => ?_, ?_⟩⟩, ⟨kp, pm, k1, by rw [hs_j (by decide), a1 0 (by omega)]; exact k2, by rw [hs_j (by decide), b1 0 (by decide)]; exact k3, ⟨fun j hj => by rw [hs_k (by decide), a1 36 (by omega)]; exact k4.1 j hj, k4.2⟩, fun q hq => ?_⟩, ln, l1, by rw [hs_k (by decide), a1 37 (by omega)]; exact l2, by rw [hs_j (by decide), b1 0 (by decide)]; exact l3, fun i hi => by rw [hs_k (by decide), a1 38 (by omega), hs_k (by decide), b1 5 (by decide)]; exact l4 i hi⟩
  · rw [rC_row (fun b _ _ => by rw [hs_r (by omega), a1 b (by omega)]) i hi, hs_k (by decide), b1 1 (by decide)]
    exact s1 i hi
  · rw [rC_row (fun b _ _ => hs_r (by omega)) i hi, a2 i hi, hs_k (by decide), b2 i (by omega) hi]
    exact s1 i hi
  · exact VR_congr s2 (fun i hi => by rw [hs_k (by decide), b2 i (by omega) hi])
  · have hp := (k4.1 q (by omega)).1
    rw [hs_r (by decide), b1 4 (by decide)]
    exact ⟨fun i hi => by rw [rC_row (fun b _ _ => by rw [hs_r (by omega), a1 b (by omega)]) i hi]; exact (k5 q hq).1 i hi, (k5 q hq).2⟩
theorem st_restore : ST_11 SIM := by
  intro h hm s
  have hs0 := s
  obtain ⟨s1, s2, ⟨z, z1, z2, z3, z4⟩, s4, s5⟩ := s
  unfold f_X7_restore f_X8_restore
  rw [z2, z3]
  by_cases hz : z = 0
  · subst hz
    rw [if_pos nz0, if_pos nz0]
    exact ⟨_, h, hm, rfl, rfl, hs0⟩
  · have hz1 : z = 1 := by omega
    subst hz1
    rw [if_neg (by decide), if_neg (by decide)]
    obtain ⟨h1, hm1, x1, x2, t1, f1, f2, g1, g2⟩ := REC hs0
    rw [x1, x2, ob_s, ob_s]
    obtain ⟨h2, e1, a1, a2⟩ := C5_copy h1 (k := 1) (k1 := 6) (by omega)
    obtain ⟨hm2, e2, b1, _, b2⟩ := M_restore_loop FU 0 hm1 (by decide) (by omega)
    rw [e1, ob_s]
    simp only [L0]
    rw [e2]
    have t0 := t1
    obtain ⟨_, _, ⟨z', w1, w2, w3, w4⟩, _, _⟩ := t1
    have hz' : z' = 1 := by
      rw [f2 2 (by decide), z2] at w2
      exact ((eq_iff (by decide) (by omega)).mp w2).symm
    obtain ⟨w5, w6⟩ := w4 hz'
    have hrow : ∀ i, i < 36 → rC h2 1 i = hm2 1 i := fun i hi => by rw [a2 i hi, b2 i (by omega) hi]; exact w5 i hi
    have hr : h2 1 6 = hm2 1 0 := by have := hrow 0 (by decide); rwa [rC_low (by decide)] at this
    refine ⟨hm2 1 0, h2, hm2, by rw [hr], rfl, ?_⟩
    exact SIM_now t0 (fun j => by rw [a1 0 (by omega)]) (fun a h6 _ => a1 a (by omega)) (a1 36 (by omega)) (by rw [a1 37 (by omega)]) (a1 38 (by omega)) (fun j _ _ => by rw [b1 0 (by decide)]) hrow (VR_congr w6 (fun i hi => b2 i (by omega) hi)) (b1 2 (by decide)) (b1 4 (by decide)) (b1 5 (by decide))
