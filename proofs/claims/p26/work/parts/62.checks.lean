/-! p26: THE LAW'S CHECKS that only read: tides, printed, accounts -/
theorem tt_gap (b d : Nat) : ∀ (n f k : Nat), k < (ttl b d n f).length → d ≤ lvl b ((ttl b d n f).getD k 0) ∧ (0 < k → (ttl b d n f).getD (k - 1) 0 + 3 ≤ (ttl b d n f).getD k 0)
  | 0, f, k, h => by simp [ttl] at h
  | n + 1, f, k, h => by
    rw [ttl] at h ⊢
    by_cases hf : 21 < f
    · rw [if_pos hf] at h
      simp at h
    · rw [if_neg hf] at h ⊢
      by_cases hd : d ≤ lvl b f
      · rw [if_pos hd] at h ⊢
        cases k with
        | zero => exact ⟨hd, fun z => absurd z (Nat.lt_irrefl 0)⟩
        | succ k =>
          have hk : k < (ttl b d n (f + 3)).length := by simpa using h
          obtain ⟨a1, a2⟩ := tt_gap b d n (f + 3) k hk
          refine ⟨a1, fun _ => ?_⟩
          cases k with
          | zero =>
            have hm : (ttl b d n (f + 3)).getD 0 0 ∈ ttl b d n (f + 3) := by
              rw [List.getD_eq_getElem?_getD, List.getElem?_eq_getElem hk]
              exact List.getElem_mem hk
            exact (ttl_mem b d n (f + 3) _ hm).1
          | succ k => exact a2 (Nat.succ_pos k)
      · rw [if_neg hd] at h ⊢
        exact tt_gap b d n (f + 1) k h
theorem tt_lv {b d f k : Nat} (hk : k < (tt b d f).length) : d ≤ lvl b ((tt b d f).getD k 0) ∧ (0 < k → (tt b d f).getD (k - 1) 0 + 3 ≤ (tt b d f).getD k 0) := tt_gap b d 24 f k hk
theorem WM_bit : ∀ b, b < 12 → ∀ d, d < 7 → ∀ t, t < 24 → d ≤ lvl b t → ¬ ((WM b d >>> (nI t &&& 31)) &&& (1 : Int32)) = 0 := by decide +kernel
theorem usn_has (l : List Nat) (v p : Nat) : ∀ (n i k : Nat), i ≤ k → k < i + n → mt l v p k = true → usn l v p n i = true
  | 0, i, k, h1, h2, _ => by omega
  | n + 1, i, k, h1, h2, h3 => by
    rw [usn]
    by_cases e : k = i
    · subst e
      rw [h3]
      rfl
    · rw [usn_has l v p n (i + 1) k (by omega) (by omega) h3, Bool.or_true]
theorem uc_dep {r : Nat → Int32} {c k : Nat} (hk : k < (ul r c).length) : uc r c ((ul r c).getD k 0 * 2 + (ch r c + k) % 2) = true := usn_has _ _ _ _ 0 k (by omega) (by omega) (by unfold mt; simp)
theorem uc_arr {r : Nat → Int32} {c k : Nat} (hk : k < (ul r c).length) : uc r c (((ul r c).getD k 0 + 2) * 2 + (ch r c + (k + 1)) % 2) = true := usn_has _ _ _ _ 0 k (by omega) (by omega) (by unfold mt; simp)
theorem US_bit (r : Nat → Int32) (p : Nat) {c : Nat} (hc : c < 3) : ((US r p >>> (nI c &&& 31)) &&& (1 : Int32)) = b2i (uc r c p) := bitc (fun c => uc r c p) hc
theorem one_m : ∀ a, a < 2 → (1 : Int32) - nI a = nI (1 - a) := by decide
theorem P_106 {K4 : Hp → Int32 → Int32 → Option (Int32 × Hp)} {K23 : Hp → Int32 → Int32 → Int32 → Int32 → Option (Int32 × Hp)} {h : Hp} {r : Nat → Int32} (K : KX h r) {c k : Nat} (hc : c < 3) (hk : k < (ul r c).length) (x1 x3 : Int32) : ∃ h', f_L_printed_106 K4 K23 h x1 (nI c) x3 (nI k) (nI ((ul r c).getD k 0)) (0 : Int32) = K23 h' x1 (nI c) x3 (nI (k + 1)) ∧ RD h h' := by
  obtain ⟨hg1, hg2⟩ := tt_get (b := cb r c) (d := cd r c) (f := cf r c) hk
  obtain ⟨lv, -⟩ := tt_lv (b := cb r c) (d := cd r c) (f := cf r c) hk
  obtain ⟨-, hb⟩ := VR_b K.2 hc
  obtain ⟨-, -, hd⟩ := VR_d K.2 hc
  obtain ⟨-, hv⟩ := VR_h K.2 hc
  have e21 : (ul r c).getD k 0 ≤ 21 := hg2
  have lv : cd r c ≤ lvl (cb r c) ((ul r c).getD k 0) := lv
  unfold f_L_printed_106
  rw [if_pos (show (0 : Int32) = 0 from rfl), if_neg (fun (z : (21 : Int32) < nI ((ul r c).getD k 0)) => by have := (lt_iff (a := 21) (by decide) (by omega)).mp z; omega), (X_hours K hc).1, ob_s]
  simp only []
  rw [if_neg (WM_bit _ hb _ (by omega) _ (by omega) lv)]
  obtain ⟨h1, p1, d1⟩ := (X_printed K hc hk).2
  rw [p1, ob_s]
  simp only []
  obtain ⟨h2, p2, d2⟩ := X_uses (KX_rd K d1) (p := (ch r c + k) % 2) (x := (ul r c).getD k 0) (by omega) (by omega)
  rw [p2, ob_s]
  simp only []
  rw [US_bit _ _ hc, uc_dep hk, if_neg b2t]
  have d12 := RD_tr d1 d2
  obtain ⟨h3, p3, d3⟩ := (X_printed (KX_rd K d12) hc hk).2
  rw [p3, ob_s]
  simp only []
  have d13 := RD_tr d12 d3
  rw [one_m _ (by omega), show 1 - (ch r c + k) % 2 = (ch r c + (k + 1)) % 2 by omega, show nI ((ul r c).getD k 0) + (2 : Int32) = nI ((ul r c).getD k 0 + 2) from nI_add _ 2]
  obtain ⟨h4, p4, d4⟩ := X_uses (KX_rd K d13) (p := (ch r c + (k + 1)) % 2) (x := (ul r c).getD k 0 + 2) (by omega) (by omega)
  rw [p4, ob_s]
  simp only []
  rw [US_bit _ _ hc, uc_arr hk, if_neg b2t, nI_1]
  exact ⟨h4, rfl, RD_tr d13 d4⟩
theorem P_in {K4 : Hp → Int32 → Int32 → Option (Int32 × Hp)} {r : Nat → Int32} {c : Nat} (hc : c < 3) (x1 : Int32) : ∀ (n fu k : Nat) (h : Hp), n < fu → k + n = (ul r c).length → KX h r → ∃ h', f_L_printed_23 K4 fu h x1 (nI c) (nI (ul r c).length) (nI k) = K4 h' x1 (nI (c + 1)) ∧ RD h h' := by
  have hlen : (ul r c).length ≤ 8 := tt_len _ _ _
  intro n
  induction n with
  | zero =>
    intro fu k h hf hk K
    obtain ⟨fu, rfl⟩ : ∃ q, fu = q + 1 := ⟨fu - 1, by omega⟩
    rw [f_L_printed_23_s, if_pos ((le_iff (by omega) (by omega)).mpr (by omega))]
    obtain ⟨h1, e1, d1⟩ := X_captainOf K hc (k := 0) (by decide)
    rw [show f_X7_captainOf h (nI c) (0 : Int32) = _ from e1, ob_s]
    simp only []
    obtain ⟨h2, e2, d2⟩ := X_count (KX_rd K d1) (k := 1) (by decide)
    rw [show f_X7_count h1 (1 : Int32) = _ from e2, ob_s]
    simp only []
    have d12 := RD_tr d1 d2
    by_cases q : cO r c 0 = cN r 1
    · rw [if_pos q, (X_hours (KX_rd K d12) hc).2, ob_s]
      simp only []
      have hbb : cb r c = bt0 r := congrArg Int32.toNatClampNeg (show r (6 + 10 * c + 0) = r 1 from q)
      rw [hbb, Int32.xor_self, if_pos (show (0 : Int32) = 0 from rfl)]
      unfold f_L_printed_213
      rw [nI_1]
      exact ⟨h2, rfl, d12⟩
    · rw [if_neg q]
      unfold f_L_printed_213
      rw [nI_1]
      exact ⟨h2, rfl, d12⟩
  | succ n ih =>
    intro fu k h hf hk K
    obtain ⟨fu, rfl⟩ : ∃ q, fu = q + 1 := ⟨fu - 1, by omega⟩
    have hk8 : k < (ul r c).length := by omega
    obtain ⟨hg1, hg2⟩ := tt_get (b := cb r c) (d := cd r c) (f := cf r c) hk8
    obtain ⟨-, gap⟩ := tt_lv (b := cb r c) (d := cd r c) (f := cf r c) hk8
    have e21 : (ul r c).getD k 0 ≤ 21 := hg2
    have fin : ∀ h1, KX h1 r → ∃ h', f_L_printed_106 K4 (f_L_printed_23 K4 fu) h1 x1 (nI c) (nI (ul r c).length) (nI k) (nI ((ul r c).getD k 0)) (0 : Int32) = K4 h' x1 (nI (c + 1)) ∧ RD h1 h' := fun h1 K1 => by
      obtain ⟨h2, e2, d2⟩ := P_106 (K4 := K4) (K23 := f_L_printed_23 K4 fu) K1 hc hk8 x1 (nI (ul r c).length)
      obtain ⟨h3, e3, d3⟩ := ih fu (k + 1) h2 (by omega) (by omega) (KX_rd K1 d2)
      exact ⟨h3, e2.trans e3, RD_tr d2 d3⟩
    rw [f_L_printed_23_s, if_neg (fun z => by have := (le_iff (by omega) (by omega)).mp z; omega)]
    obtain ⟨h1, e1, d1⟩ := (X_printed K hc hk8).1
    rw [e1, ob_s]
    simp only []
    by_cases k0 : k = 0
    · subst k0
      rw [if_pos (show nI 0 = (0 : Int32) from rfl)]
      obtain ⟨h2, e2, d2⟩ := X_captainOf (KX_rd K d1) hc (k := 2) (by decide)
      rw [show f_X7_captainOf h1 (nI c) (2 : Int32) = _ from e2, ob_s]
      simp only []
      obtain ⟨v2, hf24⟩ := VR_f K.2 hc
      have hle : cO r c 2 ≤ nI ((ul r c).getD 0 0) := by
        show r (6 + 10 * c + 2) ≤ _
        rw [v2]
        exact (le_iff (by omega) (by omega)).mpr hg1
      rw [if_pos hle]
      obtain ⟨h3, e3, d3⟩ := fin h2 (KX_rd K (RD_tr d1 d2))
      exact ⟨h3, e3, RD_tr (RD_tr d1 d2) d3⟩
    · have hk1 : k - 1 < (ul r c).length := by omega
      have hgap : (ul r c).getD (k - 1) 0 + 3 ≤ (ul r c).getD k 0 := gap (by omega)
      rw [if_neg (fun (z : nI k = (0 : Int32)) => k0 ((eq_iff (b := 0) (by omega) (by decide)).mp z)), n_m1 k (by omega) (by omega)]
      obtain ⟨h2, e2, d2⟩ := (X_printed (KX_rd K d1) hc hk1).1
      rw [e2, ob_s]
      simp only []
      rw [show nI ((ul r c).getD (k - 1) 0) + (3 : Int32) = nI ((ul r c).getD (k - 1) 0 + 3) from nI_add _ 3, if_neg (fun z => by have := (lt_iff (by omega) (by omega)).mp z; omega)]
      have d12 := RD_tr d1 d2
      obtain ⟨h3, e3, d3⟩ := (X_printed (KX_rd K d12) hc hk8).2
      rw [e3, ob_s]
      simp only []
      have d13 := RD_tr d12 d3
      obtain ⟨h4, e4, d4⟩ := (X_printed (KX_rd K d13) hc hk1).2
      rw [e4, ob_s]
      simp only []
      have d14 := RD_tr d13 d4
      rw [if_neg (fun z => by have := (eq_iff (by omega) (by omega)).mp z; omega)]
      obtain ⟨h5, e5, d5⟩ := fin h4 (KX_rd K d14)
      exact ⟨h5, e5, RD_tr d14 d5⟩
theorem P_step {h : Hp} {r : Nat → Int32} (K : KX h r) (n : Nat) (x1 : Int32) {c : Nat} (hc : c < 3) : ∃ h', f_L_printed_4 (n + 1) h x1 (nI c) = f_L_printed_4 n h' (x1 + nI (ul r c).length) (nI (c + 1)) ∧ RD h h' := by
  rw [f_L_printed_4_s, if_neg (fun (z : (3 : Int32) ≤ nI c) => by have := (le_iff (a := 3) (by decide) (by omega)).mp z; omega)]
  obtain ⟨h1, e1, d1⟩ := X_captainOf K hc (k := 4) (by decide)
  rw [show f_X7_captainOf h (nI c) (4 : Int32) = _ from e1, ob_s]
  simp only []
  have hlen : (ul r c).length ≤ 8 := tt_len _ _ _
  obtain ⟨h2, e2, d2⟩ := P_in (K4 := f_L_printed_4 n) hc (x1 + nI (ul r c).length) (ul r c).length FU 0 h1 (by have := FUv; omega) (by omega) (KX_rd K d1)
  exact ⟨h2, e2, RD_tr d1 d2⟩
theorem L_printed {h : Hp} {r : Nat → Int32} (K : KX h r) : ∃ h', f_L_printed h = some (1, h') ∧ RD h h' := by
  unfold f_L_printed
  show ∃ h', f_L_printed_4 (196 + 1 + 1 + 1 + 1) h (0 : Int32) (nI 0) = _ ∧ _
  obtain ⟨h1, e1, d1⟩ := P_step K (196 + 1 + 1 + 1) 0 (c := 0) (by decide)
  obtain ⟨h2, e2, d2⟩ := P_step (KX_rd K d1) (196 + 1 + 1) (0 + nI (ul r 0).length) (c := 0 + 1) (by decide)
  have d12 := RD_tr d1 d2
  obtain ⟨h3, e3, d3⟩ := P_step (KX_rd K d12) (196 + 1) (0 + nI (ul r 0).length + nI (ul r (0 + 1)).length) (c := 0 + 1 + 1) (by decide)
  have d13 := RD_tr d12 d3
  obtain ⟨h4, e4, d4⟩ := X_count (KX_rd K d13) (k := 4) (by decide)
  rw [e1, e2, e3, f_L_printed_4_s, if_pos (by decide), show f_X7_count h3 (4 : Int32) = _ from e4, ob_s]
  simp only []
  rw [i_0add, if_pos (show nI (ul r 0).length + nI (ul r (0 + 1)).length + nI (ul r (0 + 1 + 1)).length = cN r 4 from rfl)]
  exact ⟨h4, rfl, RD_tr d13 d4⟩
/-! tides -/
theorem lv_near : ∀ b, b < 12 → ∀ t, t < 23 → (¬ (nI (lvl b t) - nI (lvl b (t + 1))) = (1 : Int32) → (nI (lvl b (t + 1)) - nI (lvl b t)) = (1 : Int32)) ∧ (t < 12 → lvl b (t + 12) = lvl b t) := by decide +kernel
theorem T_in {K2 : Hp → Int32 → Option (Int32 × Hp)} {h : Hp} {r : Nat → Int32} (K : KX h r) {j : Nat} (hj : j ≤ 3) : ∀ (n fu t : Nat), n < fu → t + n = 23 → f_L_tides_9 K2 fu h (nI j) (nI t) = K2 h (nI (j + 1)) := by
  intro n
  induction n with
  | zero =>
    intro fu t hf ht
    obtain ⟨fu, rfl⟩ : ∃ q, fu = q + 1 := ⟨fu - 1, by omega⟩
    rw [f_L_tides_9_s, L23, if_pos ((le_iff (by decide) (by omega)).mpr (by omega)), nI_1]
  | succ n ih =>
    intro fu t hf ht
    obtain ⟨fu, rfl⟩ : ∃ q, fu = q + 1 := ⟨fu - 1, by omega⟩
    have hb := bl_lt K.2 hj
    have hle := @lvl_le (bl r j) t
    obtain ⟨n1, n2⟩ := lv_near _ hb t (by omega)
    have fin : f_L_tides_60 K2 (f_L_tides_9 K2 fu) h (nI j) (nI t) (nI (lvl (bl r j) t)) = K2 h (nI (j + 1)) := by
      unfold f_L_tides_60 f_L_tides_82
      rw [nI_1]
      by_cases h12 : 12 ≤ t
      · rw [if_pos (show (12 : Int32) ≤ nI t from (le_iff (a := 12) (by decide) (by omega)).mpr h12)]
        exact ih fu (t + 1) (by omega) (by omega)
      · rw [if_neg (fun (z : (12 : Int32) ≤ nI t) => h12 ((le_iff (a := 12) (by decide) (by omega)).mp z)), show nI t + (12 : Int32) = nI (t + 12) from nI_add t 12, (X_level K hj (t := t + 12) (by omega)).1, ob_s]
        simp only []
        rw [n2 (by omega), if_pos (show nI (lvl (bl r j) t) = nI (lvl (bl r j) t) from rfl)]
        exact ih fu (t + 1) (by omega) (by omega)
    rw [f_L_tides_9_s, if_neg (fun (z : (23 : Int32) ≤ nI t) => by have := (le_iff (a := 23) (by decide) (by omega)).mp z; omega), (X_level K hj (t := t) (by omega)).1, ob_s]
    simp only []
    rw [show nI t + (1 : Int32) = nI (t + 1) from nI_1 t, (X_level K hj (t := t + 1) (by omega)).2, ob_s]
    simp only []
    rw [if_neg (nI_pos (by omega)), if_neg (fun (z : (6 : Int32) < nI (lvl (bl r j) t)) => by have := (lt_iff (a := 6) (by decide) (by omega)).mp z; omega)]
    by_cases c1 : (nI (lvl (bl r j) t) - nI (lvl (bl r j) (t + 1))) = (1 : Int32)
    · rw [if_pos c1]
      exact fin
    · rw [if_neg c1, if_pos (n1 c1)]
      exact fin
theorem L_tides {h : Hp} {r : Nat → Int32} (K : KX h r) : f_L_tides h = some (1, h) := by
  unfold f_L_tides
  have st : ∀ (n j : Nat), j ≤ 3 → f_L_tides_2 (n + 1) h (nI j) = f_L_tides_2 n h (nI (j + 1)) := fun n j hj => by
    rw [f_L_tides_2_s, if_neg (fun (z : (4 : Int32) ≤ nI j) => by have := (le_iff (a := 4) (by decide) (by omega)).mp z; omega)]
    exact T_in K hj 23 FU 0 (by decide) (by decide)
  show f_L_tides_2 (195 + 1 + 1 + 1 + 1 + 1) h (nI 0) = _
  rw [st _ 0 (by decide), st _ (0 + 1) (by decide), st _ (0 + 1 + 1) (by decide), st _ (0 + 1 + 1 + 1) (by decide), f_L_tides_2_s, if_pos (by decide)]
/-! accounts -/
/-- the accounts of a row on the day dy -/
def AC (r : Nat → Int32) (dy : Nat) : Prop := r 0 = nI dy ∧ dy ≤ 9999 ∧ ∃ lt pd : Nat → Nat, (∀ c, c < 3 → r (6 + 10 * c + 6) = nI (lt c) ∧ r (6 + 10 * c + 7) = nI (pd c) ∧ pd c ≤ lt c ∧ lt c ≤ 48 * dy) ∧ ∃ q : Nat, r 5 = nI q ∧ q ≤ pd 0 + pd 1 + pd 2
theorem A_step {h : Hp} {r : Nat → Int32} {dy : Nat} (K : KX h r) (A : AC r dy) (n : Nat) (x1 x2 x3 x4 x5 : Int32) {c : Nat} (hc : c < 3) : ∃ h', f_L_accounts_15 (n + 1) h x1 x2 x3 x4 x5 (nI c) = f_L_accounts_15 n h' (x1 + r (6 + 10 * c + 4)) (x2 + r (6 + 10 * c + 8)) (x3 + r (6 + 10 * c + 5)) (x4 + r (6 + 10 * c + 6)) (x5 + r (6 + 10 * c + 7)) (nI (c + 1)) ∧ RD h h' := by
  obtain ⟨-, h9, lt, pd, l1, -⟩ := A
  obtain ⟨q1, q2, q3, q4⟩ := l1 c hc
  rw [f_L_accounts_15_s, if_neg (fun (z : (3 : Int32) ≤ nI c) => by have := (le_iff (a := 3) (by decide) (by omega)).mp z; omega)]
  obtain ⟨h1, e1, d1⟩ := X_captainOf K hc (k := 5) (by decide)
  rw [show f_X7_captainOf h (nI c) (5 : Int32) = _ from e1, ob_s]
  simp only []
  obtain ⟨h2, e2, d2⟩ := X_captainOf (KX_rd K d1) hc (k := 6) (by decide)
  have d2 := RD_tr d1 d2
  rw [show f_X7_captainOf h1 (nI c) (6 : Int32) = _ from e2, ob_s]
  simp only []
  obtain ⟨h3, e3, d3⟩ := X_captainOf (KX_rd K d2) hc (k := 7) (by decide)
  have d3 := RD_tr d2 d3
  rw [show f_X7_captainOf h2 (nI c) (7 : Int32) = _ from e3, ob_s]
  simp only []
  obtain ⟨h4, e4, d4⟩ := X_captainOf (KX_rd K d3) hc (k := 8) (by decide)
  have d4 := RD_tr d3 d4
  rw [show f_X7_captainOf h3 (nI c) (8 : Int32) = _ from e4, ob_s]
  simp only []
  obtain ⟨h5, e5, d5⟩ := X_captainOf (KX_rd K d4) hc (k := 9) (by decide)
  have d5 := RD_tr d4 d5
  rw [show f_X7_captainOf h4 (nI c) (9 : Int32) = _ from e5, ob_s]
  simp only []
  obtain ⟨h6, e6, d6⟩ := X_captainOf (KX_rd K d5) hc (k := 8) (by decide)
  have d6 := RD_tr d5 d6
  rw [show f_X7_captainOf h5 (nI c) (8 : Int32) = _ from e6, ob_s]
  simp only []
  obtain ⟨h7, e7, d7⟩ := X_captainOf (KX_rd K d6) hc (k := 7) (by decide)
  have d7 := RD_tr d6 d7
  rw [show f_X7_captainOf h6 (nI c) (7 : Int32) = _ from e7, ob_s]
  simp only []
  have hle : cO r c 8 ≤ cO r c 7 := by
    show r (6 + 10 * c + 7) ≤ r (6 + 10 * c + 6)
    rw [q1, q2]
    exact (le_iff (by omega) (by omega)).mpr q3
  rw [if_pos hle, nI_1]
  exact ⟨h7, rfl, d7⟩
theorem L_accounts {h : Hp} {r : Nat → Int32} {dy : Nat} (K : KX h r) (A : AC r dy) : ∃ h', f_L_accounts h = some (1, h') ∧ RD h h' := by
  unfold f_L_accounts
  show ∃ h', f_L_accounts_15 (196 + 1 + 1 + 1 + 1) h (0 : Int32) (0 : Int32) (0 : Int32) (0 : Int32) (0 : Int32) (nI 0) = _ ∧ _
  obtain ⟨h1, e1, d1⟩ := A_step K A (196 + 1 + 1 + 1) 0 0 0 0 0 (c := 0) (by decide)
  obtain ⟨h2, e2, d2⟩ := A_step (KX_rd K d1) A (196 + 1 + 1) (0 + r (6 + 10 * 0 + 4)) (0 + r (6 + 10 * 0 + 8)) (0 + r (6 + 10 * 0 + 5)) (0 + r (6 + 10 * 0 + 6)) (0 + r (6 + 10 * 0 + 7)) (c := 0 + 1) (by decide)
  have d2 := RD_tr d1 d2
  obtain ⟨h3, e3, d3⟩ := A_step (KX_rd K d2) A (196 + 1) (0 + r (6 + 10 * 0 + 4) + r (6 + 10 * (0 + 1) + 4)) (0 + r (6 + 10 * 0 + 8) + r (6 + 10 * (0 + 1) + 8)) (0 + r (6 + 10 * 0 + 5) + r (6 + 10 * (0 + 1) + 5)) (0 + r (6 + 10 * 0 + 6) + r (6 + 10 * (0 + 1) + 6)) (0 + r (6 + 10 * 0 + 7) + r (6 + 10 * (0 + 1) + 7)) (c := 0 + 1 + 1) (by decide)
  have d3 := RD_tr d2 d3
  rw [e1, e2, e3, f_L_accounts_15_s, if_pos (by decide)]
  obtain ⟨h4, e4, d4⟩ := X_count (KX_rd K d3) (k := 5) (by decide)
  have d4 := RD_tr d3 d4
  obtain ⟨h5, e5, d5⟩ := X_count (KX_rd K d4) (k := 6) (by decide)
  have d5 := RD_tr d4 d5
  obtain ⟨h6, e6, d6⟩ := X_count (KX_rd K d5) (k := 8) (by decide)
  have d6 := RD_tr d5 d6
  obtain ⟨h7, e7, d7⟩ := X_count (KX_rd K d6) (k := 9) (by decide)
  have d7 := RD_tr d6 d7
  obtain ⟨h8, e8, d8⟩ := X_count (KX_rd K d7) (k := 7) (by decide)
  have d8 := RD_tr d7 d8
  simp only [i_0add]
  rw [show f_X7_count h3 (5 : Int32) = _ from e4, ob_s]
  simp only []
  rw [if_pos (show r (6 + 10 * 0 + 4) + r (6 + 10 * (0 + 1) + 4) + r (6 + 10 * (0 + 1 + 1) + 4) = cN r 5 from rfl), show f_X7_count h4 (6 : Int32) = _ from e5, ob_s]
  simp only []
  rw [if_pos (show r (6 + 10 * 0 + 8) + r (6 + 10 * (0 + 1) + 8) + r (6 + 10 * (0 + 1 + 1) + 8) = cN r 6 from rfl), show f_X7_count h5 (8 : Int32) = _ from e6, ob_s]
  simp only []
  rw [if_pos (show r (6 + 10 * 0 + 5) + r (6 + 10 * (0 + 1) + 5) + r (6 + 10 * (0 + 1 + 1) + 5) = cN r 8 from rfl), show f_X7_count h6 (9 : Int32) = _ from e7, ob_s]
  simp only []
  rw [if_pos (show r (6 + 10 * 0 + 6) + r (6 + 10 * (0 + 1) + 6) + r (6 + 10 * (0 + 1 + 1) + 6) = cN r 9 from rfl), show f_X7_count h7 (7 : Int32) = _ from e8, ob_s]
  simp only []
  obtain ⟨-, h9, lt, pd, l1, q, l2, l3⟩ := A
  obtain ⟨-, z0, y0, w0⟩ := l1 0 (by decide)
  obtain ⟨-, z1, y1, w1⟩ := l1 (0 + 1) (by decide)
  obtain ⟨-, z2, y2, w2⟩ := l1 (0 + 1 + 1) (by decide)
  have hlt : ¬ r (6 + 10 * 0 + 7) + r (6 + 10 * (0 + 1) + 7) + r (6 + 10 * (0 + 1 + 1) + 7) < cN r 7 := by
    show ¬ _ < r 5
    rw [z0, z1, z2, l2, nI_add, nI_add]
    intro z
    have e1 : pd (0 + 1) = pd 1 := rfl
    have e2 : pd (0 + 1 + 1) = pd 2 := rfl
    have := (lt_iff (by omega) (by omega)).mp z
    omega
  rw [if_neg hlt]
  exact ⟨h8, rfl, d8⟩
