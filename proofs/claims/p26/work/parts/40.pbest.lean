/-! bestHour, made -/
theorem upd_same (r : Nat → Int32) (i : Nat) (v : Int32) : upd r i v i = v := by simp [upd]
theorem upd_ne {r : Nat → Int32} {i j : Nat} {v : Int32} (h : j ≠ i) : upd r i v j = r j := by simp [upd, h]
theorem upd_upd (r : Nat → Int32) (i : Nat) (v w : Int32) : upd (upd r i v) i w = upd r i w := by
  funext j
  by_cases h : j = i
  · subst h
    rw [upd_same, upd_same]
  · rw [upd_ne h, upd_ne h, upd_ne h]
theorem upd_self (r : Nat → Int32) (i : Nat) : upd r i (r i) = r := by
  funext j
  by_cases h : j = i
  · subst h
    rw [upd_same]
  · rw [upd_ne h]
def rF (r : Nat → Int32) (c f : Nat) : Nat → Int32 := upd r (6 + 10 * c + 2) (nI f)
theorem VR_rF {r : Nat → Int32} (v : VR r) {c f : Nat} (hc : c < 3) (hf : f < 24) : VR (rF r c f) :=
  VR_cap v hc (by decide) ⟨f, Nat.zero_le f, by show f ≤ 23; omega, rfl⟩
def kF (r : Nat → Int32) (c f : Nat) : Nat := ncl (rF r c f) 48 0 0
def nF (r : Nat → Int32) (c f : Nat) : Nat := (tt (cb (rF r c f) c) (cd (rF r c f) c) (cf (rF r c f) c)).length
theorem kF_le (r : Nat → Int32) (c f : Nat) : kF r c f ≤ 48 := by
  have := ncl_le (rF r c f) 48 0 0
  unfold kF
  omega
theorem nF_le (r : Nat → Int32) (c f : Nat) : nF r c f ≤ 8 := tt_len _ _ _
theorem rF_other {r : Nat → Int32} {c c' f : Nat} (h : c' ≠ c) : cb (rF r c f) c' = cb r c' ∧ cd (rF r c f) c' = cd r c' ∧ cf (rF r c f) c' = cf r c' := by
  unfold cb cd cf rF
  rw [upd_ne (by omega), upd_ne (by omega), upd_ne (by omega)]
  exact ⟨rfl, rfl, rfl⟩
def BC (h0 : Hp) (r : Nat → Int32) (c : Nat) (h : Hp) : Prop := (∀ a, a < 31 ∨ (36 ≤ a ∧ a < 41) → h a = h0 a) ∧ ∀ c', c' < 3 → ∀ j, j < 10 → 6 + 10 * c' + j ≠ 6 + 10 * c + 2 → h (31 + 1 + 1 + c') j = r (6 + 10 * c' + j)
theorem C_bh_step {h h0 : Hp} {r : Nat → Int32} {c f : Nat} (hc : c < 3) (v : VR r) (hf : f < 24) (I : BC h0 r c h) : ∃ h2, f_X1_print (hs h (31 + 1 + 1 + c) 2 (nI f)) 31 = some h2 ∧ f_X1_clashes h2 = some (nI (kF r c f), h2) ∧ h2 (42 + 2 * c) 1 = nI (nF r c f) ∧ BC h0 r c h2 := by
  have hcaps : capsAt (hs h (31 + 1 + 1 + c) 2 (nI f)) 31 (rF r c f) := by
    intro c' hc' j hj
    unfold rF
    by_cases e : 6 + 10 * c' + j = 6 + 10 * c + 2
    · obtain ⟨rfl, rfl⟩ : c' = c ∧ j = 2 := by omega
      rw [hs_at, upd_same]
    · rw [upd_ne e]
      by_cases ec : c' = c
      · subst ec
        rw [hs_j (by omega)]
        exact I.2 c' hc' j hj e
      · rw [hs_k (by omega)]
        exact I.2 c' hc' j hj e
  obtain ⟨h2, e1, a1, t1, u1⟩ := C_board (Or.inr rfl) (VR_rF v hc hf) hcaps
  refine ⟨h2, e1, C_clashes u1, (t1 c hc).1, fun a ha => ?_, fun c' hc' j hj hne => ?_⟩
  · rw [a1 a (by omega), hs_r (by omega)]
    exact I.1 a ha
  · rw [a1 _ (by omega), hcaps c' hc' j hj]
    exact upd_ne hne
def BM (hm0 : Hp) (r : Nat → Int32) (c : Nat) (hm : Hp) : Prop := (∀ a, a ≠ 1 → a ≠ 6 → a ≠ 7 → hm a = hm0 a) ∧ (∃ x, hm 1 = upd r (6 + 10 * c + 2) x) ∧ ∀ c', c' < 3 → c' ≠ c → ttAtM hm c' (cb r c') (cd r c') (cf r c')
/-- the best hour from f on -/
def bhs (r : Nat → Int32) (c : Nat) : Nat → Nat → Nat → Nat → Nat → Nat
  | 0, _, b, _, _ => b
  | n + 1, f, b, k, m => if kF r c f < k then bhs r c n (f + 1) f (kF r c f) (nF r c f) else if kF r c f = k then (if nF r c f ≤ m then bhs r c n (f + 1) b k m else bhs r c n (f + 1) f (kF r c f) (nF r c f)) else bhs r c n (f + 1) b k m
theorem C_bh_loop {h0 : Hp} {r : Nat → Int32} {c : Nat} (hc : c < 3) (v : VR r) : ∀ (n fu f b k m : Nat) (h : Hp), n < fu → f + n = 24 → k ≤ 49 → m ≤ 8 → BC h0 r c h → ∃ h', f_X7_bestHour_31 fu h (nI c) (nI b) (nI k) (nI m) (nI f) = some (nI (bhs r c n f b k m), h') ∧ BC h0 r c h' := by
  intro n
  induction n with
  | zero =>
    intro fu f b k m h hfu hf hk hm I
    obtain ⟨fu, rfl⟩ : ∃ q, fu = q + 1 := ⟨fu - 1, by omega⟩
    rw [f_X7_bestHour_31_s, L24, if_pos ((le_iff (by decide) (by omega)).mpr (by omega))]
    exact ⟨h, rfl, I⟩
  | succ n ih =>
    intro fu f b k m h hfu hf hk hm I
    obtain ⟨fu, rfl⟩ : ∃ q, fu = q + 1 := ⟨fu - 1, by omega⟩
    obtain ⟨h2, e1, e2, e3, I2⟩ := C_bh_step hc v (by omega : f < 24) I
    have hkF := kF_le r c f
    have hnF := nF_le r c f
    rw [f_X7_bestHour_31_s, L24, if_neg (fun z => by have := (le_iff (by decide) (by omega)).mp z; omega), if_pos (inb_nI hc (by decide)), nc (by omega), e1, ob_s, e2, ob_s, if_pos (inb_nI hc (by decide))]
    simp only []
    rw [e3]
    unfold f_X7_bestHour_105 f_X7_bestHour_115
    rw [nI_1, bhs]
    by_cases c1 : kF r c f < k
    · rw [if_pos ((lt_iff (by omega) (by omega)).mpr c1), if_pos c1]
      exact ih fu (f + 1) f _ _ h2 (by omega) (by omega) (by omega) hnF I2
    · rw [if_neg (fun z => c1 ((lt_iff (by omega) (by omega)).mp z)), if_neg c1]
      by_cases c2 : kF r c f = k
      · rw [if_pos ((eq_iff (by omega) (by omega)).mpr c2), if_pos c2]
        by_cases c3 : nF r c f ≤ m
        · rw [if_pos ((le_iff (by omega) (by omega)).mpr c3), if_pos c3]
          exact ih fu (f + 1) b k m h2 (by omega) (by omega) hk hm I2
        · rw [if_neg (fun z => c3 ((le_iff (by omega) (by omega)).mp z)), if_neg c3]
          exact ih fu (f + 1) f _ _ h2 (by omega) (by omega) (by omega) hnF I2
      · rw [if_neg (fun z => c2 ((eq_iff (by omega) (by omega)).mp z)), if_neg c2]
        exact ih fu (f + 1) b k m h2 (by omega) (by omega) hk hm I2
theorem nI_ne5 {q : Nat} (hq : q < 2 ^ 31) : ¬ nI q = (-5 : Int32) := fun z => by
  have := nI_pos hq
  rw [z] at this
  exact this (by decide)
/-! made -/
theorem VR_sum {r : Nat → Int32} (v : VR r) : ∃ a b : Nat, a + b ≤ 240000 ∧ r (6 + 10 * 0 + 4) + r (6 + 10 * 1 + 4) + r (6 + 10 * 2 + 4) = nI a ∧ r (6 + 10 * 0 + 8) + r (6 + 10 * 1 + 8) + r (6 + 10 * 2 + 8) = nI b := by
  obtain ⟨-, -, -, -, -, dy, d1, d2, d3⟩ := v
  obtain ⟨m0, c0, x0, y0, z0⟩ := d3 0 (by decide)
  obtain ⟨m1, c1, x1, y1, z1⟩ := d3 1 (by decide)
  obtain ⟨m2, c2, x2, y2, z2⟩ := d3 2 (by decide)
  exact ⟨m0 + m1 + m2, c0 + c1 + c2, by omega, by rw [x0, x1, x2, nI_add, nI_add], by rw [y0, y1, y2, nI_add, nI_add]⟩
theorem one_n32 : vf_n32 FP.fconst1 := by
  show (0x3f800000 : UInt32) &&& 0x7fffffff ≤ 0x7f800000
  decide
