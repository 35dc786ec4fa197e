/-! p26: ACTS, as functions of the row; the history's top -/
def INV (h : Hp) (r : Nat → Int32) (dy kp : Nat) : Prop := KX h r ∧ AC r dy ∧ h 0 4 = nI kp ∧ kp ≤ 4 ∧ ∃ pm, hiAt h pm
def TOP (h : Hp) (kp : Nat) (r : Nat → Int32) : Prop := ∃ pm, hiAt h pm ∧ 0 < kp ∧ kp ≤ 4 ∧ ∀ i, i < 36 → rC h (11 + 5 * pm (kp - 1)) i = r i
def kp1 (kp : Nat) : Nat := if kp = 4 then 4 else kp + 1
theorem hiAt_c {h h' : Hp} {pm : Nat → Nat} (e : h' 36 = h 36) (p : hiAt h pm) : hiAt h' pm := ⟨fun j hj => by rw [e]; exact p.1 j hj, p.2⟩
theorem INV_rd {h h' : Hp} {r : Nat → Int32} {dy kp : Nat} (I : INV h r dy kp) (d : RD h h') : INV h' r dy kp := by
  obtain ⟨K, A, k0, k4, pm, p⟩ := I
  exact ⟨KX_rd K d, A, by rw [d.1 0 (by decide)]; exact k0, k4, pm, hiAt_c d.2 p⟩
theorem TOP_fr {h h' : Hp} {kp : Nat} {r : Nat → Int32} (T : TOP h kp r) (e1 : ∀ a, 11 ≤ a → a < 31 → h' a = h a) (e2 : h' 36 = h 36) : TOP h' kp r := by
  obtain ⟨pm, p, k0, k4, t⟩ := T
  refine ⟨pm, hiAt_c e2 p, k0, k4, fun i hi => ?_⟩
  have hp := (p.1 (kp - 1) (by omega)).1
  rw [rC_row (fun a _ _ => e1 a (by omega) (by omega)) i hi]
  exact t i hi
theorem TOP_rd {h h' : Hp} {kp : Nat} {r : Nat → Int32} (T : TOP h kp r) (d : RD h h') : TOP h' kp r := TOP_fr T (fun a _ h2 => d.1 a h2) d.2
theorem I_rec {h : Hp} {r : Nat → Int32} {dy kp : Nat} (I : INV h r dy kp) : ∃ h1, f_X7_record h = some h1 ∧ INV h1 r dy (kp1 kp) ∧ TOP h1 (kp1 kp) r := by
  obtain ⟨K, A, k0, k4, pm, p⟩ := I
  obtain ⟨h1, pm1, e, p1, fr, f0, c0, -, top⟩ := C_record k4 k0 p
  have l1 : 0 < kp1 kp ∧ kp1 kp ≤ 4 ∧ kp1 kp - 1 = if kp = 4 then 3 else kp := by
    unfold kp1
    split <;> omega
  refine ⟨h1, e, ⟨⟨fun i hi => by rw [rC_row (fun a _ _ => fr a (by omega) (by omega) (by omega)) i hi]; exact K.1 i hi, K.2⟩, A, c0, l1.2.1, pm1, p1⟩, pm1, p1, l1.1, l1.2.1, fun i hi => ?_⟩
  rw [l1.2.2, top i hi]
  exact K.1 i hi
def ACT (r : Nat → Int32) (dy : Nat) (f : Hp → Option (Int32 × Hp)) : Prop := ∃ (told : Int32) (r' : Nat → Int32) (dy' : Nat), dy' ≤ dy + 30 ∧ ∀ (h : Hp) (kp : Nat), INV h r dy kp → ∃ h', f h = some (told, h') ∧ ((told < 0 ∧ INV h' r dy kp) ∨ (¬ told < 0 ∧ INV h' r' dy' (kp1 kp) ∧ TOP h' (kp1 kp) r))
theorem ACT_congr {r : Nat → Int32} {dy : Nat} {f g : Hp → Option (Int32 × Hp)} (e : ∀ h, f h = g h) (a : ACT r dy g) : ACT r dy f := by
  obtain ⟨told, r', dy', hd, H⟩ := a
  exact ⟨told, r', dy', hd, fun h kp I => by rw [e h]; exact H h kp I⟩
theorem ACT_ex {r : Nat → Int32} {dy : Nat} {f : Hp → Option (Int32 × Hp)} (H : ∀ h, KX h r → AC r dy → ACT r dy f) : ACT r dy f := by
  by_cases hx : ∃ h kp, INV h r dy kp
  · obtain ⟨h, kp, I⟩ := hx
    exact H h I.1 I.2.1
  · exact ⟨0, r, dy, by omega, fun h kp I => absurd ⟨h, kp, I⟩ hx⟩
theorem ACT_no {r : Nat → Int32} {dy : Nat} {f : Hp → Option (Int32 × Hp)} {c : Int32} (hc : c < 0) (hf : ∀ h kp, INV h r dy kp → f h = some (c, h)) : ACT r dy f := ⟨c, r, dy, by omega, fun h kp I => ⟨h, hf h kp I, Or.inl ⟨hc, I⟩⟩⟩
def ca (i : Nat) : Nat := if i < 6 then 1 else 3 + (i - 6) / 10
def sa (i : Nat) : Nat := if i < 6 then sl i else (i - 6) % 10
theorem rC_ca (h : Hp) (i : Nat) : rC h 1 i = h (ca i) (sa i) := by
  unfold rC ca sa
  by_cases hi : i < 6
  · rw [if_pos hi, if_pos hi, if_pos hi]
  · rw [if_neg hi, if_neg hi, if_neg hi]
theorem ca_inj : ∀ i, i < 36 → ∀ j, j < 36 → ca i = ca j → sa i = sa j → i = j := by decide +kernel
theorem ca_lt : ∀ i, i < 36 → 0 < ca i ∧ ca i < 6 := by decide
theorem K_upd {h : Hp} {r : Nat → Int32} (K : KX h r) {i : Nat} (hi : i < 36) {v : Int32} (hv : VR (upd r i v)) : KX (hs h (ca i) (sa i) v) (upd r i v) := by
  refine ⟨fun j hj => ?_, hv⟩
  rw [rC_ca]
  by_cases e : j = i
  · subst e
    rw [hs_at, upd_same]
  · rw [upd_ne e]
    by_cases e1 : ca j = ca i
    · rw [hs_j (fun z => e (ca_inj j hj i hi e1 z)), ← rC_ca h j]
      exact K.1 j hj
    · rw [hs_k e1, ← rC_ca h j]
      exact K.1 j hj
theorem INV_upd {h : Hp} {r : Nat → Int32} {dy kp i : Nat} {v : Int32} (I : INV h r dy kp) (hi : i < 36) (hv : VR (upd r i v)) (hA : AC (upd r i v) dy) : INV (hs h (ca i) (sa i) v) (upd r i v) dy kp := by
  obtain ⟨K, A, k0, k4, pm, p⟩ := I
  have hca := ca_lt i hi
  exact ⟨K_upd K hi hv, hA, by rw [hs_k (by omega)]; exact k0, k4, pm, hiAt_c (hs_r (by omega)) p⟩
theorem ACT_put {r : Nat → Int32} {dy : Nat} {f : Hp → Option (Int32 × Hp)} {i : Nat} {v : Int32} (hi : i < 36) (hi0 : ¬ r i < 0) (hv : VR (upd r i v)) (hA : AC (upd r i v) dy) (hf : ∀ h kp, INV h r dy kp → f h = if r i = v then some (-5, h) else (f_X7_record h).bind (fun q => some (r i, hs q (ca i) (sa i) v))) : ACT r dy f := by
  by_cases e : r i = v
  · exact ACT_no (c := -5) (by decide) (fun h kp I => by rw [hf h kp I, if_pos e])
  · refine ⟨r i, upd r i v, dy, by omega, fun h kp I => ?_⟩
    obtain ⟨h1, e1, I1, T1⟩ := I_rec I
    have hca := ca_lt i hi
    exact ⟨hs h1 (ca i) (sa i) v, by rw [hf h kp I, if_neg e, e1]; rfl, Or.inr ⟨hi0, INV_upd I1 hi hv hA, TOP_fr T1 (fun a h11 _ => hs_r (by omega)) (hs_r (by omega))⟩⟩
theorem AC_upd {r : Nat → Int32} {dy i : Nat} {v : Int32} (A : AC r dy) (h0 : 0 ≠ i) (h5 : 5 ≠ i) (h6 : ∀ c, c < 3 → 6 + 10 * c + 6 ≠ i ∧ 6 + 10 * c + 7 ≠ i) : AC (upd r i v) dy := by
  obtain ⟨a0, a9, lt, pd, a1, q, a2, a3⟩ := A
  exact ⟨by rw [upd_ne h0]; exact a0, a9, lt, pd, fun c hc => by rw [upd_ne (h6 c hc).1, upd_ne (h6 c hc).2]; exact a1 c hc, q, by rw [upd_ne h5]; exact a2, a3⟩
theorem rng_nn {x : Int32} {lo hi : Nat} (hh : hi < 2 ^ 31) (h : rng x lo hi) : ¬ x < 0 := by
  obtain ⟨n, -, h2, rfl⟩ := h
  exact nI_pos (by omega)
theorem A_truth (r : Nat → Int32) (dy : Nat) (a : Int32) : ACT r dy (fun h => f_X7_truth h a) := by
  refine ACT_ex (fun h0 K0 A0 => ?_)
  rcases a_cases a 11 (by decide) with ⟨j, hj, rfl⟩ | ⟨hn, hout⟩
  · refine ACT_put (i := 1) (v := nI j) (by decide) (rng_nn (by decide) K0.2.1) (VR_low K0.2 (fun _ => ⟨j, by omega, by omega, rfl⟩) (fun z => absurd z (by decide)) (fun z => absurd z (by decide)) (fun z => absurd z (by decide)) (by decide) (by decide)) (AC_upd A0 (by decide) (by decide) (fun c hc => by omega)) (fun h kp I => ?_)
    show f_X7_truth h (nI j) = _
    unfold f_X7_truth
    rw [if_neg (nI_pos (by omega)), if_pos (show nI j < (12 : Int32) from (lt_iff (b := 12) (by omega) (by decide)).mpr (by omega)), show h 1 3 = r 1 from KX_low I.1 (i := 1) (by decide)]
    rfl
  · refine ACT_no (c := -2) (by decide) (fun h kp I => ?_)
    show f_X7_truth h a = _
    unfold f_X7_truth
    rcases hout with h0 | ⟨h0, h1⟩
    · rw [if_pos h0]
    · rw [if_neg h0, if_neg (fun z => by
        obtain ⟨k, hk, rfl⟩ := nI_of h0
        have := (lt_iff (by decide) hk).mp h1
        have := (lt_iff hk (by decide)).mp (show nI k < nI 12 from z)
        omega)]
theorem A_lot (r : Nat → Int32) (dy : Nat) (a : Int32) : ACT r dy (fun h => f_X7_lot h a) := by
  refine ACT_ex (fun h0 K0 A0 => ?_)
  rcases a_cases a 65536 (by decide) with ⟨j, hj, rfl⟩ | ⟨hn, hout⟩
  · refine ACT_put (i := 2) (v := nI j) (by decide) (rng_nn (by decide) K0.2.2.1) (VR_low K0.2 (fun z => absurd z (by decide)) (fun _ => ⟨j, by omega, by omega, rfl⟩) (fun z => absurd z (by decide)) (fun z => absurd z (by decide)) (by decide) (by decide)) (AC_upd A0 (by decide) (by decide) (fun c hc => by omega)) (fun h kp I => ?_)
    show f_X7_lot h (nI j) = _
    unfold f_X7_lot
    rw [if_neg (nI_pos (by omega)), if_pos (show nI j < (65537 : Int32) from (lt_iff (b := 65537) (by omega) (by decide)).mpr (by omega)), show h 1 4 = r 2 from KX_low I.1 (i := 2) (by decide)]
    rfl
  · refine ACT_no (c := -2) (by decide) (fun h kp I => ?_)
    show f_X7_lot h a = _
    unfold f_X7_lot
    rcases hout with h0 | ⟨h0, h1⟩
    · rw [if_pos h0]
    · rw [if_neg h0, if_neg (fun z => by
        obtain ⟨k, hk, rfl⟩ := nI_of h0
        have := (lt_iff (by decide) hk).mp h1
        have := (lt_iff hk (by decide)).mp (show nI k < nI 65537 from z)
        omega)]
theorem A_set (r : Nat → Int32) (dy : Nat) {w : Nat} (hw : w < 2) (a : Int32) : ACT r dy (fun h => f_X7_set h (nI w) a) := by
  refine ACT_ex (fun h0 K0 A0 => ?_)
  obtain ⟨t1, t2⟩ := w_tab1 w hw
  have hh := hiS_lt w
  have hlo : w < 2 ^ 31 := by omega
  by_cases hv : ∃ v, w ≤ v ∧ v ≤ hiS w ∧ a = nI v
  · obtain ⟨v, v1, v2, rfl⟩ := hv
    have hr : rng (r (3 + w)) w (hiS w) := by
      rcases (show w = 0 ∨ w = 1 by omega) with rfl | rfl
      · exact K0.2.2.2.1
      · exact K0.2.2.2.2.1
    refine ACT_put (i := 3 + w) (v := nI v) (by omega) (rng_nn hh hr) ?_ (AC_upd A0 (by omega) (by omega) (fun c hc => by omega)) (fun h kp I => ?_)
    · rcases (show w = 0 ∨ w = 1 by omega) with rfl | rfl
      · exact VR_low K0.2 (fun z => absurd z (by decide)) (fun z => absurd z (by decide)) (fun _ => ⟨v, v1, v2, rfl⟩) (fun z => absurd z (by decide)) (by decide) (by decide)
      · exact VR_low K0.2 (fun z => absurd z (by decide)) (fun z => absurd z (by decide)) (fun z => absurd z (by decide)) (fun _ => ⟨v, v1, v2, rfl⟩) (by decide) (by decide)
    · show f_X7_set h (nI w) (nI v) = _
      unfold f_X7_set f_X7_isValueOfSetting
      rw [within_yes (by decide) hw t1 t2 v1 v2 hh, ob_s]
      simp only []
      rw [if_neg n10, C_tellS h 1 hw, ob_s]
      simp only []
      rw [show h 1 (w + 1) = r (3 + w) from (by rw [← sl_set hw]; exact KX_low I.1 (by omega))]
      have e : ∀ q : Hp, f_X5_changeSetting q 1 (nI w) (nI v) = some (hs q (ca (3 + w)) (sa (3 + w)) (nI v)) := fun q => by
        rw [C_chgS q 1 hw]
        rcases (show w = 0 ∨ w = 1 by omega) with rfl | rfl <;> rfl
      split
      · rfl
      · congr 1
        funext q
        rw [e q, ob_s]
  · have hv' : ∀ j, w ≤ j → j ≤ hiS w → a ≠ nI j := fun j h1 h2 e => hv ⟨j, h1, h2, e⟩
    refine ACT_no (c := -2) (by decide) (fun h kp I => ?_)
    show f_X7_set h (nI w) a = _
    unfold f_X7_set f_X7_isValueOfSetting
    rw [within_no2 (by decide) hw t1 t2 hh hlo hv', ob_s]
    rfl
theorem A_captain (r : Nat → Int32) (dy : Nat) {c w : Nat} (hc : c < 3) (hw : w < 4) (a : Int32) : ACT r dy (fun h => f_X7_captain h (nI c) (nI w) a) := by
  refine ACT_ex (fun h0 K0 A0 => ?_)
  obtain ⟨t1, t2, t3, t4⟩ := w_tab0 w hw
  by_cases hv : ∃ v, loW w ≤ v ∧ v ≤ hiW w ∧ a = nI v
  · obtain ⟨v, v1, v2, rfl⟩ := hv
    have hr : rng (r (6 + 10 * c + w)) (loW w) (hiW w) := by
      obtain ⟨r0, r1, r2, r3⟩ := K0.2.2.2.2.2.1 c hc
      rcases (show w = 0 ∨ w = 1 ∨ w = 2 ∨ w = 3 by omega) with rfl | rfl | rfl | rfl
      · exact r0
      · exact r1
      · exact r2
      · exact r3
    refine ACT_put (i := 6 + 10 * c + w) (v := nI v) (by omega) (rng_nn (by omega) hr) (VR_cap K0.2 hc hw ⟨v, v1, v2, rfl⟩) (AC_upd A0 (by omega) (by omega) (fun c hc => by omega)) (fun h kp I => ?_)
    show f_X7_captain h (nI c) (nI w) (nI v) = _
    unfold f_X7_captain f_X7_isValueOfCaptain
    rw [C_isCap_yes h hc, ob_s]
    simp only []
    rw [if_neg n10, ob_s]
    simp only []
    rw [within_yes (by decide) hw t1 t2 v1 v2 (by omega), if_neg n10, if_pos (inb_nI hc (by decide)), nc (by omega), C_tell h _ hw, ob_s]
    simp only []
    rw [KX_caps I.1 c hc w (by omega)]
    have e : ∀ q : Hp, f_X2_change q (1 + 1 + 1 + c) (nI w) (nI v) = some (hs q (ca (6 + 10 * c + w)) (sa (6 + 10 * c + w)) (nI v)) := fun q => by
      have e1 : ca (6 + 10 * c + w) = 1 + 1 + 1 + c := by
        unfold ca
        rw [if_neg (by omega)]
        omega
      have e2 : sa (6 + 10 * c + w) = w := by
        unfold sa
        rw [if_neg (by omega)]
        omega
      rw [C_chg q _ hw, e1, e2]
    split
    · rfl
    · congr 1
      funext q
      rw [if_pos (inb_nI hc (by decide)), e q, ob_s]
  · have hv' : ∀ j, loW w ≤ j → j ≤ hiW w → a ≠ nI j := fun j h1 h2 e => hv ⟨j, h1, h2, e⟩
    refine ACT_no (c := -2) (by decide) (fun h kp I => ?_)
    show f_X7_captain h (nI c) (nI w) a = _
    unfold f_X7_captain f_X7_isValueOfCaptain
    rw [C_isCap_yes h hc, ob_s]
    simp only []
    rw [if_neg n10, ob_s]
    simp only []
    rw [within_no2 (by decide) hw t1 t2 (by omega) (by omega) hv']
    rfl
/-- days sailed one after the other -/
theorem S_loop {T : Nat} (hT : T ≤ 30) : ∀ (k i dy a : Nat) (r : Nat → Int32) (h0 : Hp), i + k = T → dy + k ≤ 9999 → KX h0 r → AC r dy → ∃ (t : Nat) (r' : Nat → Int32), t ≤ a + 24 * k ∧ ∀ (fu : Nat) (h : Hp), k < fu → KX h r → ∃ h', f_X7_sail_40 fu h (nI T) (nI a) (nI i) = some (nI t, h') ∧ KX h' r' ∧ AC r' (dy + k) ∧ ∀ x, x = 0 ∨ (6 ≤ x ∧ x < 31) ∨ x = 36 → h' x = h x := by
  intro k
  induction k with
  | zero =>
    intro i dy a r h0 hi h9 K0 A
    refine ⟨a, r, by omega, fun fu h hf K => ⟨h, ?_, K, A, fun _ _ => rfl⟩⟩
    obtain ⟨fu, rfl⟩ : ∃ q, fu = q + 1 := ⟨fu - 1, by omega⟩
    rw [f_X7_sail_40_s, if_pos ((le_iff (by omega) (by omega)).mpr (by omega))]
  | succ k ih =>
    intro i dy a r h0 hi h9 K0 A
    obtain ⟨g1, g2, -, -, -, K2, A2, -⟩ := X_night K0 A (by omega)
    obtain ⟨m, hm, em⟩ := MD_n K0
    obtain ⟨t, r', ht, H⟩ := ih (i + 1) (dy + 1) (a + m) (DAY r) g2 (by omega) (by omega) K2 A2
    refine ⟨t, r', by omega, fun fu h hf K => ?_⟩
    obtain ⟨fu, rfl⟩ : ∃ q, fu = q + 1 := ⟨fu - 1, by omega⟩
    obtain ⟨h1, h2, e1, e2, e3, K3, A3, fr⟩ := X_night K A (by omega)
    obtain ⟨h', f1, f2, f3, f4⟩ := H fu h2 (by omega) K3
    refine ⟨h', ?_, f2, by rw [show dy + (k + 1) = dy + 1 + k by omega]; exact f3, fun x hx => (f4 x hx).trans (fr x hx)⟩
    rw [f_X7_sail_40_s, if_neg (fun z => by have := (le_iff (by omega) (by omega)).mp z; omega), e1, ob_s, e2, ob_s, e3, ob_s, nI_1]
    simp only []
    rw [em, nI_add]
    exact f1
theorem A_sail (r : Nat → Int32) (dy : Nat) {T : Nat} (t1 : 1 ≤ T) (t2 : T ≤ 30) : ACT r dy (fun h => f_X7_sail h (nI T)) := by
  refine ACT_ex (fun h0 K0 A0 => ?_)
  have e6 : ∀ h kp, INV h r dy kp → h 1 6 = nI dy := fun h kp I => (KX_low I.1 (i := 0) (by decide)).trans A0.1
  by_cases h9 : dy + T ≤ 9999
  · obtain ⟨t, r', ht, H⟩ := S_loop t2 T 0 dy 0 r h0 (by omega) h9 K0 A0
    refine ⟨nI t, r', dy + T, by omega, fun h kp I => ?_⟩
    obtain ⟨h1, e1, I1, T1⟩ := I_rec I
    obtain ⟨h', f1, f2, f3, f4⟩ := H FU h1 (by have := FUv; omega) I1.1
    obtain ⟨-, -, k0, k4, pm, p⟩ := I1
    refine ⟨h', ?_, Or.inr ⟨nI_pos (by omega), ⟨f2, f3, by rw [f4 0 (by omega)]; exact k0, k4, pm, hiAt_c (f4 36 (by omega)) p⟩, TOP_fr T1 (fun a h11 h31 => f4 a (by omega)) (f4 36 (by omega))⟩⟩
    show f_X7_sail h (nI T) = _
    unfold f_X7_sail
    rw [if_neg (fun (z : nI T < (1 : Int32)) => by have := (lt_iff (b := 1) (by omega) (by decide)).mp z; omega), if_pos (show nI T ≤ (30 : Int32) from (le_iff (b := 30) (by omega) (by decide)).mpr t2), e6 h kp I, nI_add, if_pos (show nI (dy + T) ≤ (9999 : Int32) from (le_iff (b := 9999) (by omega) (by decide)).mpr h9), e1, ob_s]
    exact f1
  · refine ACT_no (c := -3) (by decide) (fun h kp I => ?_)
    have hdy := A0.2.1
    show f_X7_sail h (nI T) = _
    unfold f_X7_sail
    rw [if_neg (fun (z : nI T < (1 : Int32)) => by have := (lt_iff (b := 1) (by omega) (by decide)).mp z; omega), if_pos (show nI T ≤ (30 : Int32) from (le_iff (b := 30) (by omega) (by decide)).mpr t2), e6 h kp I, nI_add, if_neg (fun (z : nI (dy + T) ≤ (9999 : Int32)) => h9 ((le_iff (b := 9999) (by omega) (by decide)).mp z))]
/-! low: a number below n -/
theorem and_nn (a : Int32) : ¬ (a &&& (2147483647 : Int32)) < 0 := by
  rw [Int32.lt_iff_toInt_lt]
  intro z
  have h1 : (a &&& (2147483647 : Int32)).toBitVec.toInt < 0 := z
  have h2 : (a &&& (2147483647 : Int32)).toBitVec.msb = true := by
    rw [BitVec.msb_eq_toInt]
    exact decide_eq_true h1
  rw [Int32.toBitVec_and, BitVec.msb_and, show (2147483647 : Int32).toBitVec.msb = false by decide, Bool.and_false] at h2
  cases h2
def lowN (a : Int32) (n : Nat) : Nat := (a &&& (2147483647 : Int32)).toNatClampNeg % n
theorem low_f (h : Hp) (a : Int32) {n : Nat} (h0 : 0 < n) (hn : n < 2 ^ 31) : f_L_low h a (nI n) = some (nI (lowN a n), h) := by
  unfold f_L_low lowN
  obtain ⟨j, hj, e⟩ := nI_of (and_nn a)
  rw [if_pos (nI_ne0 h0 hn), e, pk_rem hj h0 hn, nc hj]
theorem low_lt (a : Int32) {n : Nat} (h0 : 0 < n) : lowN a n < n := Nat.mod_lt _ h0
theorem bind_eta (o : Option (Int32 × Hp)) : o.bind (fun q => some (q.1, q.2)) = o := by cases o <;> rfl
theorem A_act (r : Nat → Int32) (dy : Nat) (g x : Int32) : ACT r dy (fun h => f_L_act h g x) := by
  have l12 : lowN (g >>> ((3 : Int32) &&& 31)) 12 < 12 := low_lt _ (by decide)
  have st : ∀ h, f_L_low h (g >>> ((3 : Int32) &&& 31)) (12 : Int32) = some (nI (lowN (g >>> ((3 : Int32) &&& 31)) 12), h) := fun h => low_f h _ (n := 12) (by decide) (by decide)
  generalize lowN (g >>> ((3 : Int32) &&& 31)) 12 = kd at l12 st
  by_cases c6 : 6 ≤ kd
  · have i6 : (6 : Int32) ≤ nI kd := (le_iff (a := 6) (by decide) (by omega)).mpr c6
    by_cases k6 : kd = 6
    · refine ACT_congr (fun h => ?_) (A_truth r dy (nI (lowN x 13)))
      show f_L_act h g x = _
      unfold f_L_act
      rw [st h, ob_s]
      simp only []
      rw [if_pos i6, if_pos (show nI kd = (6 : Int32) by rw [k6]; rfl), show f_L_low h x (13 : Int32) = _ from low_f h x (n := 13) (by decide) (by decide), ob_s, bind_eta]
    · have n6 : ¬ nI kd = (6 : Int32) := fun z => k6 ((eq_iff (b := 6) (by omega) (by decide)).mp z)
      by_cases k7 : kd = 7
      · have e7 : nI kd = (7 : Int32) := by rw [k7]; rfl
        have e2 : ∀ h, f_L_low h x (2 : Int32) = some (nI (lowN x 2), h) := fun h => low_f h x (n := 2) (by decide) (by decide)
        by_cases z : nI (lowN x 2) = 0
        · refine ACT_congr (fun h => ?_) (A_set r dy (w := 0) (by decide) (nI (lowN (x >>> ((2 : Int32) &&& 31)) 3)))
          show f_L_act h g x = _
          unfold f_L_act
          rw [st h, ob_s]
          simp only []
          rw [if_pos i6, if_neg n6, if_pos e7, e2 h, ob_s]
          simp only []
          rw [if_pos z, show f_L_low h (x >>> ((2 : Int32) &&& 31)) (3 : Int32) = _ from low_f h _ (n := 3) (by decide) (by decide), ob_s, bind_eta]
          rfl
        · refine ACT_congr (fun h => ?_) (A_set r dy (w := 1) (by decide) (nI (lowN (x >>> ((2 : Int32) &&& 31)) 10)))
          show f_L_act h g x = _
          unfold f_L_act
          rw [st h, ob_s]
          simp only []
          rw [if_pos i6, if_neg n6, if_pos e7, e2 h, ob_s]
          simp only []
          rw [if_neg z, show f_L_low h (x >>> ((2 : Int32) &&& 31)) (10 : Int32) = _ from low_f h _ (n := 10) (by decide) (by decide), ob_s, bind_eta]
          rfl
      · have n7 : ¬ nI kd = (7 : Int32) := fun z => k7 ((eq_iff (b := 7) (by omega) (by decide)).mp z)
        by_cases k8 : kd = 8
        · refine ACT_congr (fun h => ?_) (A_lot r dy (nI (lowN x 65538)))
          show f_L_act h g x = _
          unfold f_L_act
          rw [st h, ob_s]
          simp only []
          rw [if_pos i6, if_neg n6, if_neg n7, if_pos (show nI kd = (8 : Int32) by rw [k8]; rfl), show f_L_low h x (65538 : Int32) = _ from low_f h x (n := 65538) (by decide) (by decide), ob_s, bind_eta]
        · have n8 : ¬ nI kd = (8 : Int32) := fun z => k8 ((eq_iff (b := 8) (by omega) (by decide)).mp z)
          by_cases k11 : kd = 11
          · have l30 := low_lt x (n := 30) (by decide)
            refine ACT_congr (fun h => ?_) (A_sail r dy (T := 1 + lowN x 30) (by omega) (by omega))
            show f_L_act h g x = _
            unfold f_L_act f_L_act_159
            rw [st h, ob_s]
            simp only []
            rw [if_pos i6, if_neg n6, if_neg n7, if_neg n8, if_pos (show nI kd = (11 : Int32) by rw [k11]; rfl), show f_L_low h x (30 : Int32) = _ from low_f h x (n := 30) (by decide) (by decide), ob_s, bind_eta]
            simp only []
            rw [show (1 : Int32) + nI (lowN x 30) = nI (1 + lowN x 30) from nI_add 1 _]
          · have n11 : ¬ nI kd = (11 : Int32) := fun z => k11 ((eq_iff (b := 11) (by omega) (by decide)).mp z)
            have l3 := low_lt x (n := 3) (by decide)
            refine ACT_congr (fun h => ?_) (A_sail r dy (T := 1 + lowN x 3) (by omega) (by omega))
            show f_L_act h g x = _
            unfold f_L_act f_L_act_159
            rw [st h, ob_s]
            simp only []
            rw [if_pos i6, if_neg n6, if_neg n7, if_neg n8, if_neg n11, show f_L_low h x (3 : Int32) = _ from low_f h x (n := 3) (by decide) (by decide), ob_s, bind_eta]
            simp only []
            rw [show (1 : Int32) + nI (lowN x 3) = nI (1 + lowN x 3) from nI_add 1 _]
  · have i6 : ¬ (6 : Int32) ≤ nI kd := fun z => c6 ((le_iff (a := 6) (by decide) (by omega)).mp z)
    have lw := low_lt (x >>> ((2 : Int32) &&& 31)) (n := 4) (by decide)
    have lc := low_lt x (n := 3) (by decide)
    have ew : ∀ h, f_L_low h (x >>> ((2 : Int32) &&& 31)) (4 : Int32) = some (nI (lowN (x >>> ((2 : Int32) &&& 31)) 4), h) := fun h => low_f h _ (n := 4) (by decide) (by decide)
    have ec : ∀ h, f_L_low h x (3 : Int32) = some (nI (lowN x 3), h) := fun h => low_f h _ (n := 3) (by decide) (by decide)
    generalize lowN (x >>> ((2 : Int32) &&& 31)) 4 = w at lw ew
    generalize lowN x 3 = c at lc ec
    by_cases w2 : nI w = (2 : Int32)
    · refine ACT_congr (fun h => ?_) (A_captain r dy lc lw (nI (lowN (x >>> ((4 : Int32) &&& 31)) 25)))
      show f_L_act h g x = _
      unfold f_L_act f_L_act_58
      rw [st h, ob_s]
      simp only []
      rw [if_neg i6, ew h, ob_s]
      simp only []
      rw [ec h, ob_s]
      simp only []
      rw [if_pos w2, show f_L_low h (x >>> ((4 : Int32) &&& 31)) (25 : Int32) = _ from low_f h _ (n := 25) (by decide) (by decide), ob_s, bind_eta]
    · by_cases w3 : nI w = (3 : Int32)
      · refine ACT_congr (fun h => ?_) (A_captain r dy lc lw (nI (lowN (x >>> ((4 : Int32) &&& 31)) 3)))
        show f_L_act h g x = _
        unfold f_L_act f_L_act_58
        rw [st h, ob_s]
        simp only []
        rw [if_neg i6, ew h, ob_s]
        simp only []
        rw [ec h, ob_s]
        simp only []
        rw [if_neg w2, if_pos w3, show f_L_low h (x >>> ((4 : Int32) &&& 31)) (3 : Int32) = _ from low_f h _ (n := 3) (by decide) (by decide), ob_s, bind_eta]
      · refine ACT_congr (fun h => ?_) (A_captain r dy lc lw (nI (lowN (x >>> ((4 : Int32) &&& 31)) 13)))
        show f_L_act h g x = _
        unfold f_L_act f_L_act_58
        rw [st h, ob_s]
        simp only []
        rw [if_neg i6, ew h, ob_s]
        simp only []
        rw [ec h, ob_s]
        simp only []
        rw [if_neg w2, if_neg w3, show f_L_low h (x >>> ((4 : Int32) &&& 31)) (13 : Int32) = _ from low_f h _ (n := 13) (by decide) (by decide), ob_s, bind_eta]
/-! undo -/
theorem X_undo {h : Hp} {r r0 : Nat → Int32} {dy dy0 kp : Nat} (I : INV h r dy kp) (T : TOP h kp r0) (V : VR r0) (A : AC r0 dy0) : ∃ h', f_X7_undo h = some (nI (kp - 1), h') ∧ INV h' r0 dy0 (kp - 1) := by
  obtain ⟨-, -, k0, k4, -⟩ := I
  obtain ⟨pm, p, hk, -, t⟩ := T
  obtain ⟨k, rfl⟩ : ∃ k, kp = k + 1 := ⟨kp - 1, by omega⟩
  rw [show k + 1 - 1 = k by omega] at t ⊢
  obtain ⟨p1, p2⟩ := p.1 k (by omega)
  unfold f_X7_undo
  rw [k0, nI_pred, if_neg (nI_pos (by omega)), if_pos (show nI k < (4 : Int32) from (lt_iff (b := 4) (by omega) (by decide)).mpr (by omega)), if_pos (inb_nI (by omega) (by decide)), nc (by omega), p2, if_pos (inb_nI p1 (by decide)), nc (by omega)]
  obtain ⟨h1, e1, a1, a2⟩ := C5_copy h (k := 1) (k1 := 11 + 5 * pm k) (by omega)
  rw [e1, ob_s, hs_at]
  refine ⟨_, rfl, ⟨fun i hi => ?_, V⟩, A, hs_at _ _ _ _, by omega, pm, hiAt_c (by rw [hs_r (by decide), a1 36 (by decide)]) p⟩
  rw [rC_row (h := h1) (fun a _ _ => hs_r (by omega)) i hi, a2 i hi]
  exact t i hi
