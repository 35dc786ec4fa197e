/-! the reference prints -/
theorem M_of (h : Hp) {c j : Nat} (hc : c < 3) (hj : j < 10) : f_X8_of h (nI c) (nI j) = some (h 1 (6 + 10 * c + j), h) := by
  unfold f_X8_of
  simp only [L6, L10, pk_mul, nI_add]
  rw [if_pos (inb_nI (by omega) (by decide)), nc (by omega)]
theorem M_isEnough (h : Hp) {c b d t : Nat} (hc : c < 3) (hb : b < 12) (ht : t < 24) (hd : d ≤ 6) (h1 : h 1 (6 + 10 * c + 1) = nI d) : f_X8_isEnough h (nI c) (nI b) (nI t) = some (if d ≤ lvl b t then 1 else 0, h) := by
  unfold f_X8_isEnough
  have hle := @lvl_le b t
  rw [M_levelOf h hb ht, ob_s]
  simp only [L1]
  rw [M_of h hc (by decide), ob_s]
  simp only []
  rw [h1]
  by_cases hw : d ≤ lvl b t
  · rw [if_neg (fun z => by have := (lt_iff (by omega) (by omega)).mp z; omega), if_pos hw]
  · rw [if_pos ((lt_iff (by omega) (by omega)).mpr (by omega)), if_neg hw]
theorem M_print_loop {c : Nat} (hc : c < 3) {b d : Nat} (hb : b < 12) (hd : d ≤ 6) : ∀ (n x cnt : Nat) (h : Hp), 24 < n + x → x ≤ 24 → h 1 (6 + 10 * c + 0) = nI b → h 1 (6 + 10 * c + 1) = nI d → h 7 c = nI cnt → cnt + (tt b d x).length ≤ 8 →
    ∃ h', f_X8_print_14 n h (nI c) (nI x) = some h' ∧ (∀ a, a ≠ 6 → a ≠ 7 → h' a = h a) ∧ (∀ j, j ≠ c → h' 7 j = h 7 j) ∧ h' 7 c = nI (cnt + (tt b d x).length) ∧ (∀ j, j < 8 * c ∨ 8 * c + 8 ≤ j → h' 6 j = h 6 j) ∧ (∀ i, i < cnt → h' 6 (8 * c + i) = h 6 (8 * c + i)) ∧ (∀ i, i < (tt b d x).length → h' 6 (8 * c + cnt + i) = nI ((tt b d x).getD i 0)) := by
  intro n
  induction n with
  | zero => intro x cnt h h1 h2; omega
  | succ n ih =>
    intro x cnt h hn hx h0 h1 hcn hl
    rw [f_X8_print_14_s]
    simp only [L23, L2, nI_add]
    by_cases hx21 : 21 < x
    · rw [if_pos ((lt_iff (by decide) (by omega)).mpr (by omega))]
      have hz : tt b d x = [] := tt_out hx21
      rw [hz]
      exact ⟨h, rfl, fun _ _ _ => rfl, fun _ _ => rfl, by simpa using hcn, fun _ _ => rfl, fun _ _ => rfl, fun i hi => absurd hi (Nat.not_lt_zero i)⟩
    · rw [if_neg (fun z => hx21 (by have := (lt_iff (by decide) (by omega)).mp z; omega))]
      simp only [L0]
      rw [M_of h hc (by decide), ob_s]
      simp only []
      rw [h0, M_isEnough h hc hb (by omega) hd h1, ob_s]
      simp only []
      by_cases hw : d ≤ lvl b x
      · have hty : tt b d x = x :: tt b d (x + 3) := tt_yes hx21 hw
        rw [hty] at hl ⊢
        simp only [List.length_cons] at hl ⊢
        rw [if_pos hw, if_neg (by decide), if_pos (inb_nI hc (by decide)), nc (by omega), hcn]
        simp only [L8, pk_mul, nI_add, L1]
        rw [if_pos (inb_nI (by omega) (by decide)), if_pos (inb_nI hc (by decide)), if_pos (inb_nI hc (by decide)), nc (by omega)]
        unfold f_X8_print_64
        simp only [L3, nI_add]
        have e1 : hs h 6 (8 * c + cnt) (nI x) 7 c = nI cnt := by rw [hs_k (by decide), hcn]
        rw [e1, nI_add]
        obtain ⟨h', r1, r2, r3, r4, r5, r6, r7⟩ := ih (x + 3) (cnt + 1) (hs (hs h 6 (8 * c + cnt) (nI x)) 7 c (nI (cnt + 1))) (by omega) (by omega)
          (by rw [hs_k (by decide), hs_k (by decide), h0]) (by rw [hs_k (by decide), hs_k (by decide), h1]) (hs_at _ _ _ _) (by omega)
        refine ⟨h', r1, fun a ha hb => ?_, fun j hj => ?_, ?_, fun j hj => ?_, fun i hi => ?_, fun i hi => ?_⟩
        · rw [r2 a ha hb, hs_r hb, hs_r ha]
        · rw [r3 j hj, hs_j hj, hs_k (by decide)]
        · rw [r4]; congr 1; omega
        · rw [r5 j hj, hs_k (by decide), hs_j (by omega)]
        · rw [r6 i (by omega), hs_k (by decide), hs_j (by omega)]
        · cases i with
          | zero =>
            show h' 6 (8 * c + cnt) = nI x
            rw [r6 cnt (by omega), hs_k (by decide), hs_at]
          | succ i =>
            have r8 := r7 i (by omega)
            rw [show 8 * c + cnt + (i + 1) = 8 * c + (cnt + 1) + i by omega, r8]
            rfl
      · have hty : tt b d x = tt b d (x + 1) := tt_no hx21 hw
        rw [if_neg hw, if_pos (show (0 : Int32) = nI 0 by decide), hty]
        rw [hty] at hl
        rw [nI_1]
        exact ih (x + 1) cnt h (by omega) (by omega) h0 h1 hcn hl
/-- what the reference has printed of the captain c -/
def ttAtM (h : Hp) (c b d f : Nat) : Prop := h 7 c = nI (tt b d f).length ∧ ∀ i, i < (tt b d f).length → h 6 (8 * c + i) = nI ((tt b d f).getD i 0)
theorem M_print {c : Nat} (hc : c < 3) {b d f : Nat} (hb : b < 12) (hd : d ≤ 6) (hf : f < 24) {h : Hp} (h0 : h 1 (6 + 10 * c + 0) = nI b) (h1 : h 1 (6 + 10 * c + 1) = nI d) (h2 : h 1 (6 + 10 * c + 2) = nI f) :
    ∃ h', f_X8_print h (nI c) = some h' ∧ (∀ a, a ≠ 6 → a ≠ 7 → h' a = h a) ∧ (∀ j, j ≠ c → h' 7 j = h 7 j) ∧ (∀ j, j < 8 * c ∨ 8 * c + 8 ≤ j → h' 6 j = h 6 j) ∧ ttAtM h' c b d f := by
  unfold f_X8_print
  rw [if_pos (inb_nI hc (by decide)), nc (by omega)]
  simp only [L2]
  rw [M_of _ hc (by decide), ob_s]
  simp only []
  rw [hs_k (by decide), h2]
  obtain ⟨h', r1, r2, r3, r4, r5, r6, r7⟩ := M_print_loop hc hb hd FU f 0 (hs h 7 c 0) (by have := FUv; omega) (by omega) (by rw [hs_k (by decide), h0]) (by rw [hs_k (by decide), h1]) (by rw [hs_at]; rfl) (by rw [Nat.zero_add]; exact tt_len _ _ _)
  refine ⟨h', r1, fun a ha hb => ?_, fun j hj => ?_, fun j hj => ?_, ?_, fun i hi => ?_⟩
  · rw [r2 a ha hb, hs_r hb]
  · rw [r3 j hj, hs_j hj]
  · rw [r5 j hj, hs_k (by decide)]
  · rw [r4, Nat.zero_add]
  · have := r7 i hi
    rwa [Nat.add_zero] at this
