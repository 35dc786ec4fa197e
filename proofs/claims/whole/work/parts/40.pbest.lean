/-! bestHour, made -/
theorem upd_same (r : Nat → Int32) (i : Nat) (v : Int32) : upd r i v i = v := by simp [upd]
theorem upd_ne {r : Nat → Int32} {i j : Nat} {v : Int32} (h : j ≠ i) : upd r i v j = r j := by simp [upd, h]
theorem upd_upd (r : Nat → Int32) (i : Nat) (v w : Int32) : upd (upd r i v) i w = upd r i w := by
  funext j
  by_cases h : j = i
  · subst h
    rw [upd_same, upd_same]
  · rw [upd_ne h, upd_ne h, upd_ne h]
theorem upd_self (r : Nat → Int32) (i : Nat) : upd r i (r i) = r := by
  funext j
  by_cases h : j = i
  · subst h
    rw [upd_same]
  · rw [upd_ne h]
def rF (r : Nat → Int32) (c f : Nat) : Nat → Int32 := upd r (6 + 10 * c + 2) (nI f)
theorem VR_rF {r : Nat → Int32} (v : VR r) {c f : Nat} (hc : c < 3) (hf : f < 24) : VR (rF r c f) :=
  VR_cap v hc (by decide) ⟨f, Nat.zero_le f, by show f ≤ 23; omega, rfl⟩
def kF (r : Nat → Int32) (c f : Nat) : Nat := ncl (rF r c f) 48 0 0
def nF (r : Nat → Int32) (c f : Nat) : Nat := (tt (cb (rF r c f) c) (cd (rF r c f) c) (cf (rF r c f) c)).length
theorem kF_le (r : Nat → Int32) (c f : Nat) : kF r c f ≤ 48 := by
  have := ncl_le (rF r c f) 48 0 0
  unfold kF
  omega
theorem nF_le (r : Nat → Int32) (c f : Nat) : nF r c f ≤ 8 := tt_len _ _ _
theorem rF_other {r : Nat → Int32} {c c' f : Nat} (h : c' ≠ c) : cb (rF r c f) c' = cb r c' ∧ cd (rF r c f) c' = cd r c' ∧ cf (rF r c f) c' = cf r c' := by
  unfold cb cd cf rF
  rw [upd_ne (by omega), upd_ne (by omega), upd_ne (by omega)]
  exact ⟨rfl, rfl, rfl⟩
def BC (h0 : Hp) (r : Nat → Int32) (c : Nat) (h : Hp) : Prop := (∀ a, a < 31 ∨ (36 ≤ a ∧ a < 41) → h a = h0 a) ∧ ∀ c', c' < 3 → ∀ j, j < 10 → 6 + 10 * c' + j ≠ 6 + 10 * c + 2 → h (31 + 1 + 1 + c') j = r (6 + 10 * c' + j)
theorem C_bh_step {h h0 : Hp} {r : Nat → Int32} {c f : Nat} (hc : c < 3) (v : VR r) (hf : f < 24) (I : BC h0 r c h) : ∃ h2, f_X1_print (hs h (31 + 1 + 1 + c) 2 (nI f)) 31 = some h2 ∧ f_X1_clashes h2 = some (nI (kF r c f), h2) ∧ h2 (42 + 2 * c) 1 = nI (nF r c f) ∧ BC h0 r c h2 := by
  have hcaps : capsAt (hs h (31 + 1 + 1 + c) 2 (nI f)) 31 (rF r c f) := by
    intro c' hc' j hj
    unfold rF
    by_cases e : 6 + 10 * c' + j = 6 + 10 * c + 2
    · obtain ⟨rfl, rfl⟩ : c' = c ∧ j = 2 := by omega
      rw [hs_at, upd_same]
    · rw [upd_ne e]
      by_cases ec : c' = c
      · subst ec
        rw [hs_j (by omega)]
        exact I.2 c' hc' j hj e
      · rw [hs_k (by omega)]
        exact I.2 c' hc' j hj e
  obtain ⟨h2, e1, a1, t1, u1⟩ := C_board (Or.inr rfl) (VR_rF v hc hf) hcaps
  refine ⟨h2, e1, C_clashes u1, (t1 c hc).1, fun a ha => ?_, fun c' hc' j hj hne => ?_⟩
  · rw [a1 a (by omega), hs_r (by omega)]
    exact I.1 a ha
  · rw [a1 _ (by omega), hcaps c' hc' j hj]
    exact upd_ne hne
def BM (hm0 : Hp) (r : Nat → Int32) (c : Nat) (hm : Hp) : Prop := (∀ a, a ≠ 1 → a ≠ 6 → a ≠ 7 → hm a = hm0 a) ∧ (∃ x, hm 1 = upd r (6 + 10 * c + 2) x) ∧ ∀ c', c' < 3 → c' ≠ c → ttAtM hm c' (cb r c') (cd r c') (cf r c')
theorem M_bh_step {hm hm0 : Hp} {r : Nat → Int32} {c f : Nat} (hc : c < 3) (v : VR r) (hf : f < 24) (I : BM hm0 r c hm) : ∃ h1 h3, f_X8_put hm (nI c) (2 : Int32) (nI f) = some h1 ∧ f_X8_print h1 (nI c) = some h3 ∧ f_X8_clashes h3 = some (nI (kF r c f), h3) ∧ h3 7 c = nI (nF r c f) ∧ BM hm0 r c h3 := by
  obtain ⟨I1, ⟨x, I2⟩, I3⟩ := I
  have e1 : f_X8_put hm (nI c) (2 : Int32) (nI f) = some (hs hm 1 (6 + 10 * c + 2) (nI f)) := M_put hm hc (w := 2) (by decide) (nI f)
  have hrow : hs hm 1 (6 + 10 * c + 2) (nI f) 1 = rF r c f := by
    rw [hs_row, I2, upd_upd]
    rfl
  have vF := VR_rF v hc hf
  obtain ⟨h3, e2, a2, b2, d2, t2⟩ := M_pr (hm := hs hm 1 (6 + 10 * c + 2) (nI f)) (by rw [hrow]; exact vF) hc
  rw [hrow] at t2
  have hrow3 : h3 1 = rF r c f := (a2 1 (by decide) (by decide)).trans hrow
  have tall : ∀ c', c' < 3 → c' ≠ c → ttAtM h3 c' (cb r c') (cd r c') (cf r c') := by
    intro c' hc' hne
    refine ttAtM_keep hne (I3 c' hc' hne) (fun j hj => ?_) (fun j hj => ?_)
    · rw [b2 j hj, hs_k (by decide)]
    · rw [d2 j hj, hs_k (by decide)]
  have tF : ∀ c', c' < 3 → ttAtM h3 c' (cb (rF r c f) c') (cd (rF r c f) c') (cf (rF r c f) c') := by
    intro c' hc'
    by_cases e : c' = c
    · subst e
      exact t2
    · obtain ⟨z1, z2, z3⟩ := rF_other (r := r) (f := f) e
      rw [z1, z2, z3]
      exact tall c' hc' e
  refine ⟨_, h3, e1, e2, M_clashes (fun pp x hpp hx => M_usesSet vF hrow3 tF hpp hx), t2.1, fun a z1 z6 z7 => ?_, ⟨nI f, hrow3⟩, tall⟩
  rw [a2 a z6 z7, hs_r z1]
  exact I1 a z1 z6 z7
/-- the best hour from f on -/
def bhs (r : Nat → Int32) (c : Nat) : Nat → Nat → Nat → Nat → Nat → Nat
  | 0, _, b, _, _ => b
  | n + 1, f, b, k, m => if kF r c f < k then bhs r c n (f + 1) f (kF r c f) (nF r c f) else if kF r c f = k then (if nF r c f ≤ m then bhs r c n (f + 1) b k m else bhs r c n (f + 1) f (kF r c f) (nF r c f)) else bhs r c n (f + 1) b k m
theorem C_bh_loop {h0 : Hp} {r : Nat → Int32} {c : Nat} (hc : c < 3) (v : VR r) : ∀ (n fu f b k m : Nat) (h : Hp), n < fu → f + n = 24 → k ≤ 49 → m ≤ 8 → BC h0 r c h → ∃ h', f_X7_bestHour_31 fu h (nI c) (nI b) (nI k) (nI m) (nI f) = some (nI (bhs r c n f b k m), h') ∧ BC h0 r c h' := by
  intro n
  induction n with
  | zero =>
    intro fu f b k m h hfu hf hk hm I
    obtain ⟨fu, rfl⟩ : ∃ q, fu = q + 1 := ⟨fu - 1, by omega⟩
    rw [f_X7_bestHour_31_s, L24, if_pos ((le_iff (by decide) (by omega)).mpr (by omega))]
    exact ⟨h, rfl, I⟩
  | succ n ih =>
    intro fu f b k m h hfu hf hk hm I
    obtain ⟨fu, rfl⟩ : ∃ q, fu = q + 1 := ⟨fu - 1, by omega⟩
    obtain ⟨h2, e1, e2, e3, I2⟩ := C_bh_step hc v (by omega : f < 24) I
    have hkF := kF_le r c f
    have hnF := nF_le r c f
    rw [f_X7_bestHour_31_s, L24, if_neg (fun z => by have := (le_iff (by decide) (by omega)).mp z; omega), if_pos (inb_nI hc (by decide)), nc (by omega), e1, ob_s, e2, ob_s, if_pos (inb_nI hc (by decide))]
    simp only []
    rw [e3]
    unfold f_X7_bestHour_105 f_X7_bestHour_115
    rw [nI_1, bhs]
    by_cases c1 : kF r c f < k
    · rw [if_pos ((lt_iff (by omega) (by omega)).mpr c1), if_pos c1]
      exact ih fu (f + 1) f _ _ h2 (by omega) (by omega) (by omega) hnF I2
    · rw [if_neg (fun z => c1 ((lt_iff (by omega) (by omega)).mp z)), if_neg c1]
      by_cases c2 : kF r c f = k
      · rw [if_pos ((eq_iff (by omega) (by omega)).mpr c2), if_pos c2]
        by_cases c3 : nF r c f ≤ m
        · rw [if_pos ((le_iff (by omega) (by omega)).mpr c3), if_pos c3]
          exact ih fu (f + 1) b k m h2 (by omega) (by omega) hk hm I2
        · rw [if_neg (fun z => c3 ((le_iff (by omega) (by omega)).mp z)), if_neg c3]
          exact ih fu (f + 1) f _ _ h2 (by omega) (by omega) (by omega) hnF I2
      · rw [if_neg (fun z => c2 ((eq_iff (by omega) (by omega)).mp z)), if_neg c2]
        exact ih fu (f + 1) b k m h2 (by omega) (by omega) hk hm I2
theorem nI_ne5 {q : Nat} (hq : q < 2 ^ 31) : ¬ nI q = (-5 : Int32) := fun z => by
  have := nI_pos hq
  rw [z] at this
  exact this (by decide)
theorem M_bh_loop {hm0 : Hp} {r : Nat → Int32} {c : Nat} (hc : c < 3) (v : VR r) : ∀ (n fu f b k m : Nat) (h : Hp), n < fu → f + n = 24 → b < 24 → k ≤ 49 → m ≤ 8 → BM hm0 r c h → ∃ h', f_X8_bestHour_32 fu h (nI c) (r (6 + 10 * c + 2)) (nI b) (nI k) (nI m) (nI f) = some (nI (bhs r c n f b k m), h') ∧ (∀ a, a ≠ 1 → a ≠ 6 → a ≠ 7 → h' a = hm0 a) ∧ h' 1 = r := by
  intro n
  induction n with
  | zero =>
    intro fu f b k m h hfu hf hb hk hm I
    obtain ⟨fu, rfl⟩ : ∃ q, fu = q + 1 := ⟨fu - 1, by omega⟩
    rw [f_X8_bestHour_32_s, L24, if_pos ((le_iff (by decide) (by omega)).mpr (by omega)), show f_X8_put h (nI c) (2 : Int32) (r (6 + 10 * c + 2)) = _ from M_put h hc (w := 2) (by decide) _, ob_s]
    obtain ⟨I1, ⟨x, I2⟩, -⟩ := I
    refine ⟨_, rfl, fun a z1 z6 z7 => ?_, ?_⟩
    · rw [hs_r z1]
      exact I1 a z1 z6 z7
    · rw [hs_row, I2, upd_upd, upd_self]
  | succ n ih =>
    intro fu f b k m h hfu hf hb hk hm I
    obtain ⟨fu, rfl⟩ : ∃ q, fu = q + 1 := ⟨fu - 1, by omega⟩
    obtain ⟨h1, h3, e1, e2, e3, e4, I2⟩ := M_bh_step hc v (by omega : f < 24) I
    have hkF := kF_le r c f
    have hnF := nF_le r c f
    rw [f_X8_bestHour_32_s, L24, if_neg (fun z => by have := (le_iff (by decide) (by omega)).mp z; omega), e1, ob_s, e2, ob_s, e3, ob_s, if_neg (nI_ne5 (by omega))]
    unfold f_X8_bestHour_89 f_X8_bestHour_104
    simp only []
    rw [if_pos (inb_nI hc (by decide)), if_pos (inb_nI hc (by decide)), nc (by omega), e4, nI_1, bhs]
    by_cases c1 : kF r c f < k
    · rw [if_pos ((lt_iff (by omega) (by omega)).mpr c1), if_pos c1]
      exact ih fu (f + 1) f _ _ h3 (by omega) (by omega) (by omega) (by omega) hnF I2
    · rw [if_neg (fun z => c1 ((lt_iff (by omega) (by omega)).mp z)), if_neg c1]
      by_cases c2 : kF r c f = k
      · rw [if_pos ((eq_iff (by omega) (by omega)).mpr c2), if_pos c2]
        by_cases c3 : nF r c f ≤ m
        · rw [if_pos ((le_iff (by omega) (by omega)).mpr c3), if_pos c3]
          exact ih fu (f + 1) b k m h3 (by omega) (by omega) hb hk hm I2
        · rw [if_neg (fun z => c3 ((le_iff (by omega) (by omega)).mp z)), if_neg c3]
          exact ih fu (f + 1) f _ _ h3 (by omega) (by omega) (by omega) (by omega) hnF I2
      · rw [if_neg (fun z => c2 ((eq_iff (by omega) (by omega)).mp z)), if_neg c2]
        exact ih fu (f + 1) b k m h3 (by omega) (by omega) hb hk hm I2
theorem st_bestHour : ST_21 SIM := by
  intro h hm s a1
  unfold f_X7_bestHour f_X8_bestHour
  rcases cap_cases h hm a1 with ⟨c, hc, rfl, e1, e2⟩ | ⟨e1, e2⟩
  · rw [e1, e2, ob_s, ob_s]
    simp only []
    rw [if_neg n10, if_neg n10]
    obtain ⟨h1, x1, a1', a2'⟩ := C5_copy h (k := 31) (k1 := 1) (by omega)
    have IC : BC h (hm 1) c h1 := by
      refine ⟨fun a ha => a1' a (by omega), fun c' hc' j hj _ => ?_⟩
      have := a2' (6 + 10 * c' + j) (by omega)
      rw [rC_cap hj, rC_cap hj] at this
      rw [show 31 + 1 + 1 + c' = 31 + 2 + c' by omega, this, show 1 + 2 + c' = 3 + c' by omega]
      exact cap_at s hc' hj
    obtain ⟨h2, y1, IC2⟩ := C_bh_loop hc s.2.1 24 FU 0 0 49 0 h1 (by decide) (by decide) (by decide) (by decide) IC
    obtain ⟨hm1, x2, b1, t2⟩ := M_printAll s.2.1
    have IM : BM hm (hm 1) c hm1 := ⟨fun a _ z6 z7 => b1 a z6 z7, ⟨hm 1 (6 + 10 * c + 2), by rw [b1 1 (by decide) (by decide), upd_self]⟩, fun c' hc' _ => t2 c' hc'⟩
    obtain ⟨g1, g3, p1, p2, p3, p4, IM2⟩ := M_bh_step hc s.2.1 (show 0 < 24 by decide) IM
    obtain ⟨hm2, y2, d1, d2⟩ := M_bh_loop hc s.2.1 23 199 1 0 (kF (hm 1) c 0) (nF (hm 1) c 0) g3 (by decide) (by decide) (by decide) (by have := kF_le (hm 1) c 0; omega) (nF_le _ _ _) IM2
    have hb0 : bhs (hm 1) c 24 0 0 49 0 = bhs (hm 1) c 23 1 0 (kF (hm 1) c 0) (nF (hm 1) c 0) := by
      rw [bhs, if_pos (by have := kF_le (hm 1) c 0; omega)]
    rw [x1, ob_s, show f_X7_bestHour_31 FU h1 (nI c) (0 : Int32) (49 : Int32) (0 : Int32) (0 : Int32) = _ from y1, show f_X8_of hm (nI c) (2 : Int32) = _ from M_of hm hc (j := 2) (by decide), ob_s]
    simp only []
    rw [x2, ob_s, show FU = 199 + 1 from rfl, f_X8_bestHour_32_s, if_neg (by decide), show f_X8_put hm1 (nI c) (2 : Int32) (0 : Int32) = _ from p1, ob_s, p2, ob_s, p3, ob_s, if_pos rfl]
    unfold f_X8_bestHour_89 f_X8_bestHour_104
    simp only []
    rw [if_pos (inb_nI hc (by decide)), nc (by omega), p4, show (0 + 1 : Int32) = nI 1 by decide, show f_X8_bestHour_32 199 g3 (nI c) (hm 1 (6 + 10 * c + 2)) (0 : Int32) (nI (kF (hm 1) c 0)) (nI (nF (hm 1) c 0)) (nI 1) = _ from y2, hb0]
    refine ⟨_, _, _, rfl, rfl, ?_⟩
    refine SIM_keep s (fun a ha => IC2.1 a (Or.inl ha)) (IC2.1 36 (by omega)) (by rw [IC2.1 37 (by omega)]) (IC2.1 38 (by omega)) (fun j _ _ => by rw [d1 0 (by decide) (by decide) (by decide)]) d2 (d1 2 (by decide) (by decide) (by decide)) (d1 4 (by decide) (by decide) (by decide)) (d1 5 (by decide) (by decide) (by decide))
  · rw [e1, e2, ob_s, ob_s]
    exact ⟨_, h, hm, rfl, rfl, s⟩
/-! made -/
theorem VR_sum {r : Nat → Int32} (v : VR r) : ∃ a b : Nat, a + b ≤ 240000 ∧ r (6 + 10 * 0 + 4) + r (6 + 10 * 1 + 4) + r (6 + 10 * 2 + 4) = nI a ∧ r (6 + 10 * 0 + 8) + r (6 + 10 * 1 + 8) + r (6 + 10 * 2 + 8) = nI b := by
  obtain ⟨-, -, -, -, -, dy, d1, d2, d3⟩ := v
  obtain ⟨m0, c0, x0, y0, z0⟩ := d3 0 (by decide)
  obtain ⟨m1, c1, x1, y1, z1⟩ := d3 1 (by decide)
  obtain ⟨m2, c2, x2, y2, z2⟩ := d3 2 (by decide)
  exact ⟨m0 + m1 + m2, c0 + c1 + c2, by omega, by rw [x0, x1, x2, nI_add, nI_add], by rw [y0, y1, y2, nI_add, nI_add]⟩
theorem one_n32 : vf_n32 FP.fconst1 := by
  show (0x3f800000 : UInt32) &&& 0x7fffffff ≤ 0x7f800000
  decide
theorem st_made : ST_19 SIM := by
  intro h hm s
  obtain ⟨a, b, hab, ha, hb⟩ := VR_sum s.2.1
  have e1 : f_X5_sumOf h 1 (5 : Int32) = some (nI a, h) := by
    rw [← ha]
    exact sums s (w := 5) (by decide) (by decide)
  have e2 : f_X5_sumOf h 1 (9 : Int32) = some (nI b, h) := by
    rw [← hb]
    exact sums s (w := 9) (by decide) (by decide)
  have e3 : f_X8_sumOf hm (4 : Int32) = some (nI a, hm) := by
    rw [← ha]
    exact M_sumOf hm (j := 4) (by decide)
  have e4 : f_X8_sumOf hm (8 : Int32) = some (nI b, hm) := by
    rw [← hb]
    exact M_sumOf hm (j := 8) (by decide)
  unfold f_X7_made f_X8_made
  rw [e1, ob_s, e2, ob_s, e3, ob_s]
  simp only []
  rw [e4, ob_s]
  simp only []
  rw [e3, ob_s, nI_add]
  by_cases hz : a + b = 0
  · rw [hz, if_pos (show nI 0 ≤ (0 : Int32) by decide), if_pos nz0]
    exact ⟨_, h, hm, rfl, rfl, one_n32, s⟩
  · have hn : ¬ nI (a + b) = 0 := nI_ne0 (by omega) (by omega)
    rw [if_neg (nI_nle (by omega) (by omega)), if_pos hn, if_neg hn, if_pos hn]
    exact ⟨_, h, hm, rfl, rfl, fdiv_n32 hn, s⟩
