/-! p26: THE BEST FIRST HOUR -/
theorem bhs_min (r : Nat → Int32) (c : Nat) : ∀ (n f b k m : Nat), f + n = 24 → b < 24 → kF r c b = k → bhs r c n f b k m < 24 ∧ kF r c (bhs r c n f b k m) ≤ k ∧ ∀ g, f ≤ g → g < 24 → kF r c (bhs r c n f b k m) ≤ kF r c g := by
  intro n
  induction n with
  | zero =>
    intro f b k m hf hb hk
    refine ⟨hb, ?_, fun g h1 h2 => absurd h2 (Nat.not_lt.mpr (Nat.le_trans (Nat.le_of_eq hf.symm) h1))⟩
    show kF r c b ≤ k
    exact Nat.le_of_eq hk
  | succ n ih =>
    intro f b k m hf hb hk
    have hf1 : f + 1 + n = 24 := by omega
    have hf2 : f < 24 := by omega
    have keep : ∀ m', k ≤ kF r c f → bhs r c n (f + 1) b k m' < 24 ∧ kF r c (bhs r c n (f + 1) b k m') ≤ k ∧ ∀ g, f ≤ g → g < 24 → kF r c (bhs r c n (f + 1) b k m') ≤ kF r c g := fun m' hle => by
      obtain ⟨a1, a2, a3⟩ := ih (f + 1) b k m' hf1 hb hk
      refine ⟨a1, a2, fun g h1 h2 => ?_⟩
      rcases Nat.eq_or_lt_of_le h1 with e | e
      · rw [← e]
        exact Nat.le_trans a2 hle
      · exact a3 g e h2
    have take : ∀ m', kF r c f ≤ k → bhs r c n (f + 1) f (kF r c f) m' < 24 ∧ kF r c (bhs r c n (f + 1) f (kF r c f) m') ≤ k ∧ ∀ g, f ≤ g → g < 24 → kF r c (bhs r c n (f + 1) f (kF r c f) m') ≤ kF r c g := fun m' hle => by
      obtain ⟨a1, a2, a3⟩ := ih (f + 1) f (kF r c f) m' hf1 hf2 rfl
      refine ⟨a1, Nat.le_trans a2 hle, fun g h1 h2 => ?_⟩
      rcases Nat.eq_or_lt_of_le h1 with e | e
      · rw [← e]
        exact a2
      · exact a3 g e h2
    rw [bhs]
    by_cases c1 : kF r c f < k
    · rw [if_pos c1]
      exact take _ (Nat.le_of_lt c1)
    · rw [if_neg c1]
      by_cases c2 : kF r c f = k
      · rw [if_pos c2]
        by_cases c3 : nF r c f ≤ m
        · rw [if_pos c3]
          exact keep _ (Nat.not_lt.mp c1)
        · rw [if_neg c3]
          exact take _ (Nat.le_of_eq c2)
      · rw [if_neg c2]
        exact keep _ (Nat.not_lt.mp c1)
def BH (r : Nat → Int32) (c : Nat) : Nat := bhs r c 24 0 0 49 0
theorem BH_min (r : Nat → Int32) (c : Nat) : BH r c < 24 ∧ ∀ g, g < 24 → kF r c (BH r c) ≤ kF r c g := by
  have e : BH r c = bhs r c 23 1 0 (kF r c 0) (nF r c 0) := by
    unfold BH
    rw [bhs, if_pos (Nat.lt_of_le_of_lt (kF_le r c 0) (by decide))]
  rw [e]
  obtain ⟨a1, a2, a3⟩ := bhs_min r c 23 1 0 (kF r c 0) (nF r c 0) (by decide) (by decide) rfl
  refine ⟨a1, fun g hg => ?_⟩
  rcases Nat.eq_zero_or_pos g with z | z
  · rw [z]
    exact a2
  · exact a3 g z hg
theorem rF_rF (r : Nat → Int32) (c b f : Nat) : rF (rF r c b) c f = rF r c f := upd_upd _ _ _ _
theorem kF_rF (r : Nat → Int32) (c b f : Nat) : kF (rF r c b) c f = kF r c f := by
  unfold kF
  rw [rF_rF]
theorem nF_rF (r : Nat → Int32) (c b f : Nat) : nF (rF r c b) c f = nF r c f := by
  unfold nF
  rw [rF_rF]
theorem bhs_rF (r : Nat → Int32) (c y : Nat) : ∀ (n f b k m : Nat), bhs (rF r c y) c n f b k m = bhs r c n f b k m
  | 0, _, _, _, _ => rfl
  | n + 1, f, b, k, m => by
    rw [bhs, bhs, kF_rF, nF_rF, bhs_rF r c y n, bhs_rF r c y n]
theorem BH_rF (r : Nat → Int32) (c y : Nat) : BH (rF r c y) c = BH r c := bhs_rF r c y 24 0 0 49 0
theorem rF_own {r : Nat → Int32} {c f : Nat} (e : r (6 + 10 * c + 2) = nI f) : rF r c f = r := by
  unfold rF
  rw [← e, upd_self]
theorem X_bestHour {h : Hp} {r : Nat → Int32} (K : KX h r) {c : Nat} (hc : c < 3) : ∃ h', f_X7_bestHour h (nI c) = some (nI (BH r c), h') ∧ RD h h' := by
  unfold f_X7_bestHour
  rw [C_isCap_yes h hc, ob_s]
  simp only []
  rw [if_neg n10]
  obtain ⟨h1, x1, a1, a2⟩ := C5_copy h (k := 31) (k1 := 1) (by omega)
  have IC : BC h r c h1 := by
    refine ⟨fun a ha => a1 a (by omega), fun c' hc' j hj _ => ?_⟩
    have := a2 (6 + 10 * c' + j) (by omega)
    rw [rC_cap hj, K.1 _ (by omega)] at this
    rw [show 31 + 1 + 1 + c' = 31 + 2 + c' by omega, this]
  obtain ⟨h2, y1, IC2⟩ := C_bh_loop hc K.2 24 FU 0 0 49 0 h1 (by decide) (by decide) (by decide) (by decide) IC
  rw [x1, ob_s, show f_X7_bestHour_31 FU h1 (nI c) (0 : Int32) (49 : Int32) (0 : Int32) (0 : Int32) = _ from y1]
  exact ⟨h2, rfl, ⟨fun a ha => IC2.1 a (Or.inl ha), IC2.1 36 (Or.inr (by decide))⟩⟩
theorem X_setHour {h : Hp} {r : Nat → Int32} {dy kp : Nat} (I : INV h r dy kp) {c f : Nat} (hc : c < 3) (hf : f < 24) : ∃ v h' kp', f_X7_captain h (nI c) (2 : Int32) (nI f) = some (v, h') ∧ INV h' (rF r c f) dy kp' := by
  have A : AC (upd r (6 + 10 * c + 2) (nI f)) dy := AC_upd I.2.1 (by omega) (by omega) (fun c' hc' => by omega)
  have V : VR (upd r (6 + 10 * c + 2) (nI f)) := VR_rF I.1.2 hc hf
  unfold f_X7_captain f_X7_isValueOfCaptain
  rw [C_isCap_yes h hc, ob_s]
  simp only []
  rw [if_neg n10, ob_s]
  simp only []
  rw [show f_within 4 sL0 sG0 (2 : Int32) (nI f) = 1 from within_yes (w := 2) (lo := 0) (hi := 23) (by decide) (by decide) rfl rfl (by omega) (by omega) (by decide), if_neg n10, if_pos (inb_nI hc (by decide)), nc (by omega), show f_X2_tell h (1 + 1 + 1 + c) (2 : Int32) = _ from C_tell h _ (w := 2) (by decide), ob_s]
  simp only []
  rw [KX_caps I.1 c hc 2 (by decide)]
  by_cases e : r (6 + 10 * c + 2) = nI f
  · rw [if_pos e]
    exact ⟨_, h, kp, rfl, by rw [rF_own e]; exact I⟩
  · rw [if_neg e]
    obtain ⟨h1, e1, I1, -⟩ := I_rec I
    have e2 : ca (6 + 10 * c + 2) = 1 + 1 + 1 + c := by
      unfold ca
      rw [if_neg (by omega)]
      omega
    have e3 : sa (6 + 10 * c + 2) = 2 := by
      unfold sa
      rw [if_neg (by omega)]
      omega
    rw [e1, ob_s, if_pos (inb_nI hc (by decide)), show f_X2_change h1 (1 + 1 + 1 + c) (2 : Int32) (nI f) = _ from C_chg h1 _ (w := 2) (by decide) (nI f), ob_s]
    refine ⟨_, _, kp1 kp, rfl, ?_⟩
    have := INV_upd I1 (i := 6 + 10 * c + 2) (v := nI f) (by omega) V A
    rw [e2, e3] at this
    exact this
