/-! bestPhase -/
def rB (r : Nat → Int32) (c f : Nat) : Nat → Int32 := upd r (6 + 10 * c + 0) (nI f)
theorem VR_rB {r : Nat → Int32} (v : VR r) {c f : Nat} (hc : c < 3) (hf : f < 12) : VR (rB r c f) :=
  VR_cap v hc (by decide) ⟨f, Nat.zero_le f, by show f ≤ 11; omega, rfl⟩
/-- the class's heap amid bestPhase -/
def PC (h0 : Hp) (r : Nat → Int32) (c : Nat) (h : Hp) : Prop := (∀ a, a < 31 ∨ (36 ≤ a ∧ a < 48) → h a = h0 a) ∧ (h 31 3 = r 1 ∧ h 31 4 = r 2) ∧ ∀ c', c' < 3 → ∀ j, j < 10 → 6 + 10 * c' + j ≠ 6 + 10 * c + 0 → h (31 + 1 + 1 + c') j = r (6 + 10 * c' + j)
/-- the reference's -/
def PM (hm0 : Hp) (r : Nat → Int32) (hm : Hp) : Prop := (∀ a, a = 2 ∨ a = 4 ∨ a = 5 → hm a = hm0 a) ∧ (∀ j, j ≠ 15 → hm 0 j = hm0 0 j) ∧ (∀ j, j < 36 → hm 1 j = r j) ∧ ∀ j, j < 36 → hm 3 j = r j
theorem bp_step {h0 hm0 h hm : Hp} {r : Nat → Int32} {c f : Nat} (hc : c < 3) (v : VR r) (hf : f < 12) (I : PC h0 r c h) (J : PM hm0 r hm) : ∃ h2 S hm1 hm3 hm5, f_X4_run (hs h (31 + 1 + 1 + c) 0 (nI f)) 31 = some h2 ∧ f_X4_sumOf h2 (5 : Int32) = some (S, h2) ∧ (∃ n : Nat, n ≤ 24 ∧ S = nI n) ∧ PC h0 r c h2 ∧ f_X8_put hm (nI c) (0 : Int32) (nI f) = some hm1 ∧ f_X8_sumOf hm1 (4 : Int32) = some (sJ (hm1 1) 4, hm1) ∧ f_X8_sailDay hm1 = some hm3 ∧ f_X8_sumOf hm3 (4 : Int32) = some (sJ (hm3 1) 4, hm3) ∧ sJ (hm3 1) 4 - sJ (hm1 1) 4 = S ∧ f_X8_takeBack hm3 = some hm5 ∧ PM hm0 r hm5 := by
  obtain ⟨I1, ⟨I3, I4⟩, I2⟩ := I
  obtain ⟨J1, J0, J2, J3⟩ := J
  have e1 : f_X8_put hm (nI c) (0 : Int32) (nI f) = some (hs hm 1 (6 + 10 * c + 0) (nI f)) := M_put hm hc (w := 0) (by decide) (nI f)
  have hrow : hs hm 1 (6 + 10 * c + 0) (nI f) 1 = rB (hm 1) c f := by
    rw [hs_row]
    rfl
  have vm : VR (hm 1) := VR_congr v J2
  have hcaps : capsAt (hs h (31 + 1 + 1 + c) 0 (nI f)) 31 (rB (hm 1) c f) := by
    intro c' hc' j hj
    unfold rB
    by_cases e : 6 + 10 * c' + j = 6 + 10 * c + 0
    · obtain ⟨rfl, rfl⟩ : c' = c ∧ j = 0 := by omega
      rw [hs_at, upd_same]
    · rw [upd_ne e, J2 _ (by omega)]
      by_cases ec : c' = c
      · subst ec
        rw [hs_j (by omega)]
        exact I2 c' hc' j hj e
      · rw [hs_k (by omega)]
        exact I2 c' hc' j hj e
  obtain ⟨h2, hm3, x1, x2, fr, E, m25, m0, -⟩ := dayBeside (h := hs h (31 + 1 + 1 + c) 0 (nI f)) (hm := hs hm 1 (6 + 10 * c + 0) (nI f)) (k1 := 31) (r := rB (hm 1) c f) (Or.inr rfl) (VR_rB vm hc hf) hcaps (by unfold rB; rw [hs_k (by omega), upd_ne (by omega), J2 1 (by decide)]; exact I3) (by unfold rB; rw [hs_k (by omega), upd_ne (by omega), J2 2 (by decide)]; exact I4) hrow
  obtain ⟨hm5, y1, b1, -, b2⟩ := M_back hm3
  obtain ⟨G1, G2, _⟩ : True ∧ True ∧ True := ⟨trivial, trivial, trivial⟩
  have hS : ∃ n : Nat, n ≤ 24 ∧ md7 h2 0 + md7 h2 1 + md7 h2 2 = nI n := by
    obtain ⟨hh, hhm, z1, -, Z⟩ := day (h := hs h (31 + 1 + 1 + c) 0 (nI f)) (hm := hs hm 1 (6 + 10 * c + 0) (nI f)) (k1 := 31) (r := rB (hm 1) c f) (Or.inr rfl) (VR_rB vm hc hf) hcaps (by unfold rB; rw [hs_k (by omega), upd_ne (by omega), J2 1 (by decide)]; exact I3) (by unfold rB; rw [hs_k (by omega), upd_ne (by omega), J2 2 (by decide)]; exact I4) hrow
    have : hh = h2 := Option.some.inj (z1.symm.trans x1)
    subst this
    have n : ∀ c', c' < 3 → ∃ n : Nat, n ≤ 8 ∧ md7 hh c' = nI n := by
      intro c' hc'
      obtain ⟨⟨-, -, -, ⟨n, n1, n2, -⟩, -⟩, -⟩ := Z.1 c' hc'
      have := tt_len (cb (rB (hm 1) c f) c') (cd (rB (hm 1) c f) c') (cf (rB (hm 1) c f) c')
      exact ⟨n, by omega, n2⟩
    obtain ⟨n0, p0, q0⟩ := n 0 (by decide)
    obtain ⟨n1, p1, q1⟩ := n 1 (by decide)
    obtain ⟨n2, p2, q2⟩ := n 2 (by decide)
    exact ⟨n0 + n1 + n2, by omega, by rw [q0, q1, q2, nI_add, nI_add]⟩
  refine ⟨h2, md7 h2 0 + md7 h2 1 + md7 h2 2, _, hm3, hm5, x1, tell5 h2, hS, ⟨fun a ha => ?_, ⟨?_, ?_⟩, fun c' hc' j hj hne => ?_⟩, e1, M_sumJ _ (j := 4) (by decide), x2, M_sumJ _ (j := 4) (by decide), ?_, y1, ⟨fun a ha => ?_, fun j hj => ?_, fun j hj => ?_, fun j hj => ?_⟩⟩
  · rw [fr a (by omega), hs_r (by omega)]
    exact I1 a ha
  · rw [fr 31 (by decide), hs_k (by omega)]; exact I3
  · rw [fr 31 (by decide), hs_k (by omega)]; exact I4
  · rw [fr _ (by omega), hcaps c' hc' j hj]
    unfold rB
    rw [upd_ne hne, J2 _ (by omega)]
  · rw [hrow, s_sum (g := md7 h2) (fun c' hc' => (E.2 c' hc').2.2.1), i_cancel]
  · rw [b1 a (by omega), m25 a (by omega) (by omega), hs_r (by omega)]; exact J1 a ha
  · rw [b1 0 (by decide), m0 j hj, hs_k (by decide)]; exact J0 j hj
  · rw [b2 j hj, m25 3 (by decide) (by decide), hs_k (by decide)]; exact J3 j hj
  · rw [b1 3 (by decide), m25 3 (by decide) (by decide), hs_k (by decide)]; exact J3 j hj
theorem bp_loop {h0 hm0 : Hp} {r : Nat → Int32} {c : Nat} (hc : c < 3) (v : VR r) : ∀ (n fu f b : Nat) (x : Int32) (h hm : Hp), n < fu → f + n = 12 → b < 12 → PC h0 r c h → PM hm0 r hm → ∃ q h' hm', f_X7_bestPhase_27 fu h (nI c) (nI b) x (nI f) = some (q, h') ∧ f_X8_bestPhase_21 fu hm (nI c) (nI b) x (nI f) = some (q, hm') ∧ PC h0 r c h' ∧ PM hm0 r hm' := by
  intro n
  induction n with
  | zero =>
    intro fu f b x h hm hfu hf hb I J
    obtain ⟨fu, rfl⟩ : ∃ q, fu = q + 1 := ⟨fu - 1, by omega⟩
    refine ⟨nI b, h, hm, ?_, ?_, I, J⟩
    · rw [f_X7_bestPhase_27_s, L12, if_pos ((le_iff (by decide) (by omega)).mpr (by omega))]
    · rw [f_X8_bestPhase_21_s, L12, if_pos ((le_iff (by decide) (by omega)).mpr (by omega))]
  | succ n ih =>
    intro fu f b x h hm hfu hf hb I J
    obtain ⟨fu, rfl⟩ : ∃ q, fu = q + 1 := ⟨fu - 1, by omega⟩
    obtain ⟨h2, S, hm1, hm3, hm5, e1, e2, -, I2, k1, k2, k3, k4, k5, k6, J2⟩ := bp_step hc v (by omega : f < 12) I J
    have goC : f_X7_bestPhase_27 (fu + 1) h (nI c) (nI b) x (nI f) = if S ≤ x then f_X7_bestPhase_27 fu h2 (nI c) (nI b) x (nI (f + 1)) else f_X7_bestPhase_27 fu h2 (nI c) (nI f) S (nI (f + 1)) := by
      rw [f_X7_bestPhase_27_s, L12, if_neg (fun z => by have := (le_iff (by decide) (by omega)).mp z; omega), if_pos (inb_nI hc (by decide)), nc (by omega), e1, ob_s, e2, ob_s]
      unfold f_X7_bestPhase_81
      rw [nI_1]
    have goM : f_X8_bestPhase_21 (fu + 1) hm (nI c) (nI b) x (nI f) = if S ≤ x then f_X8_bestPhase_21 fu hm5 (nI c) (nI b) x (nI (f + 1)) else f_X8_bestPhase_21 fu hm5 (nI c) (nI f) S (nI (f + 1)) := by
      rw [f_X8_bestPhase_21_s, L12, if_neg (fun z => by have := (le_iff (by decide) (by omega)).mp z; omega), k1, ob_s, k2, ob_s]
      simp only []
      rw [k3, ob_s, k4, ob_s, if_neg (nI_ne5 (by omega))]
      unfold f_X8_bestPhase_69 f_X8_bestPhase_75
      simp only []
      rw [k5, k6, ob_s, ob_s, nI_1]
    rw [goC, goM]
    by_cases l : S ≤ x
    · rw [if_pos l, if_pos l]
      exact ih fu (f + 1) b x h2 hm5 (by omega) (by omega) hb I2 J2
    · rw [if_neg l, if_neg l]
      exact ih fu (f + 1) f S h2 hm5 (by omega) (by omega) (by omega) I2 J2
theorem st_bestPhase : ST_22 SIM := by
  intro h hm s a1
  unfold f_X7_bestPhase f_X8_bestPhase
  rcases cap_cases h hm a1 with ⟨c, hc, rfl, e1, e2⟩ | ⟨e1, e2⟩
  · rw [e1, e2, ob_s, ob_s]
    simp only []
    rw [if_neg n10, if_neg n10]
    have v := s.2.1
    obtain ⟨h1, x1, a1', a2'⟩ := C5_copy h (k := 31) (k1 := 1) (by omega)
    have IC : PC h (hm 1) c h1 := by
      refine ⟨fun a ha => a1' a (by omega), ⟨?_, ?_⟩, fun c' hc' j hj _ => ?_⟩
      · have := a2' 1 (by decide)
        rw [rC_low (by decide), rC_low (by decide)] at this
        exact this.trans (low_at s (i := 1) (by decide))
      · have := a2' 2 (by decide)
        rw [rC_low (by decide), rC_low (by decide)] at this
        exact this.trans (low_at s (i := 2) (by decide))
      · have := a2' (6 + 10 * c' + j) (by omega)
        rw [rC_cap hj, rC_cap hj] at this
        rw [show 31 + 1 + 1 + c' = 31 + 2 + c' by omega, this, show 1 + 2 + c' = 3 + c' by omega]
        exact cap_at s hc' hj
    obtain ⟨hA, f1, g1, g2⟩ := M_lay hm
    have IM : PM hm (hm 1) hA := ⟨fun a ha => g1 a (by omega), fun j _ => by rw [g1 0 (by decide)], fun j _ => by rw [g1 1 (by decide)], g2⟩
    obtain ⟨h2, S, hm1, hm3, hm5, y1, y2, ⟨n, n1, n2⟩, I2, k1, k2, k3, k4, k5, k6, J2⟩ := bp_step hc v (show 0 < 12 by decide) IC IM
    obtain ⟨q, h', hm', z1, z2, I3, J3⟩ := bp_loop hc v 11 199 1 0 S h2 hm5 (by decide) (by decide) (by decide) I2 J2
    rw [x1, ob_s, f1, ob_s]
    have goC : f_X7_bestPhase_27 FU h1 (nI c) (0 : Int32) (-1 : Int32) (0 : Int32) = some (q, h') := by
      rw [show FU = 199 + 1 from rfl, f_X7_bestPhase_27_s, if_neg (by decide), if_pos (inb_nI hc (by decide)), nc (by omega), show f_X4_run (hs h1 (31 + 1 + 1 + c) 0 (0 : Int32)) 31 = some h2 from y1, ob_s, y2, ob_s]
      unfold f_X7_bestPhase_81
      simp only []
      rw [if_neg (fun (z : S ≤ (-1 : Int32)) => by
        rw [n2] at z
        exact nI_pos (show n < 2 ^ 31 by omega) (Int32.lt_of_le_of_lt z (by decide)))]
      exact z1
    have goM : f_X8_bestPhase_21 FU hA (nI c) (-5 : Int32) (0 : Int32) (0 : Int32) = some (q, hm') := by
      rw [show FU = 199 + 1 from rfl, f_X8_bestPhase_21_s, if_neg (by decide), show f_X8_put hA (nI c) (0 : Int32) (0 : Int32) = some hm1 from k1, ob_s, k2, ob_s]
      simp only []
      rw [k3, ob_s, k4, ob_s, if_pos trivial]
      unfold f_X8_bestPhase_69 f_X8_bestPhase_75
      simp only []
      rw [k5, k6, ob_s]
      exact z2
    rw [goC, goM]
    refine ⟨q, h', hm', rfl, rfl, ?_⟩
    exact SIM_now s (fun j => by rw [I3.1 0 (Or.inl (by decide))]) (fun a h6 h31 => I3.1 a (Or.inl h31)) (I3.1 36 (by omega)) (by rw [I3.1 37 (by omega)]) (I3.1 38 (by omega)) (fun j _ _ => J3.2.1 j (by omega)) (fun i hi => by rw [J3.2.2.1 i hi, rC_row (fun a _ _ => I3.1 a (by omega)) i hi]; exact s.1 i hi) (VR_congr v J3.2.2.1) (J3.1 2 (by omega)) (J3.1 4 (by omega)) (J3.1 5 (by omega))
  · rw [e1, e2, ob_s, ob_s]
    exact ⟨_, h, hm, rfl, rfl, s⟩
