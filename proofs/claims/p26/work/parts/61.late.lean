/-! p26: HOURS LATE, PARDONS, LOTS: what a day adds of them -/
theorem has_h {h : Hp} {k : Nat} {i : Int32} {q : Int32 × Hp} (e : f_X6_has h k i = some q) : q.2 = h := by
  unfold f_X6_has at e
  repeat' split at e
  all_goals (cases e; rfl)
theorem hourOf_h {h : Hp} {k : Nat} {i : Int32} {q : Int32 × Hp} (e : f_X6_hourOf h k i = some q) : q.2 = h := by
  unfold f_X6_hourOf at e
  obtain ⟨q1, e1, e⟩ := g_b e
  have h1 := has_h e1
  split at e
  · cases e; exact h1
  · obtain ⟨-, e⟩ := g_if e
    cases e; exact h1
/-- a beginning hour leaves a ferry's sums of late hours and pardons, and all other cells -/
def BK (k : Nat) (h h' : Hp) : Prop := (∀ x, x ≠ k → h' x = h x) ∧ h' k 9 = h k 9 ∧ h' k 10 = h k 10
theorem BK_tr {k : Nat} {h h1 h2 : Hp} (a : BK k h h1) (b : BK k h1 h2) : BK k h h2 := ⟨fun x hx => (b.1 x hx).trans (a.1 x hx), b.2.1.trans a.2.1, b.2.2.trans a.2.2⟩
theorem BK_hs {h : Hp} {k j : Nat} {v : Int32} (h9 : 9 ≠ j) (h10 : 10 ≠ j) : BK k h (hs h k j v) := ⟨fun _ hx => hs_r hx, hs_j h9, hs_j h10⟩
theorem b98 {k : Nat} {h h' : Hp} {x t : Int32} (e : f_X3_beginHour_98 k h x t = some h') : BK k h h' := by
  unfold f_X3_beginHour_98 f_X3_beginHour_126 at e
  obtain ⟨-, e⟩ := g_if e
  split at e
  · cases e; exact BK_hs (by decide) (by decide)
  · split at e
    · cases e; exact BK_hs (by decide) (by decide)
    · cases e; exact BK_tr (BK_tr (BK_hs (by decide) (by decide)) (BK_hs (by decide) (by decide))) (BK_hs (by decide) (by decide))
theorem b50 {k : Nat} {h h' : Hp} {x y : Int32} (e : f_X3_beginHour_50 k h x y = some h') : BK k h h' := by
  unfold f_X3_beginHour_50 f_X3_beginHour_97 at e
  split at e
  · split at e
    · exact b98 e
    · obtain ⟨q1, e1, e⟩ := g_b e
      have z1 := has_h e1
      split at e
      · rw [z1] at e; exact b98 e
      · obtain ⟨q2, e2, e⟩ := g_b e
        have z2 := hourOf_h e2
        split at e
        · rw [z2, z1] at e; exact b98 e
        · rw [z2, z1] at e; exact b98 e
  · exact b98 e
theorem b23 {k : Nat} {h h' : Hp} {x y t : Int32} (e : f_X3_beginHour_23 k h x y t = some h') : BK k h h' := by
  unfold f_X3_beginHour_23 f_X3_beginHour_38 at e
  obtain ⟨-, e⟩ := g_if e
  split at e
  · exact BK_tr (BK_hs (by decide) (by decide)) (b50 e)
  · exact BK_tr (BK_tr (BK_tr (BK_hs (by decide) (by decide)) (BK_hs (by decide) (by decide))) (BK_hs (by decide) (by decide))) (b50 e)
theorem bBH {h h' : Hp} {k : Nat} {a b : Int32} (e : f_X3_beginHour h k a b = some h') : BK k h h' := by
  unfold f_X3_beginHour f_X3_beginHour_22 at e
  split at e
  · exact b23 e
  · split at e
    · exact b23 e
    · exact b23 e
/-- pardons are of late hours, lots have pardons -/
def LPd (h : Hp) (B : Nat) : Prop := ∃ lt pd : Nat → Nat, (∀ c, c < 3 → h (50 + 3 * c) 9 = nI (lt c) ∧ h (50 + 3 * c) 10 = nI (pd c) ∧ pd c ≤ lt c ∧ lt c ≤ B) ∧ ∃ q : Nat, h 48 2 = nI q ∧ q ≤ pd 0 + pd 1 + pd 2
theorem LPd_BK {h h' : Hp} {c B : Nat} (hc : c < 3) (b : BK (50 + 3 * c) h h') (l : LPd h B) : LPd h' B := by
  obtain ⟨lt, pd, l1, q, l2, l3⟩ := l
  refine ⟨lt, pd, fun c' hc' => ?_, q, by rw [b.1 48 (by omega)]; exact l2, l3⟩
  by_cases e : c' = c
  · subst e
    rw [b.2.1, b.2.2]
    exact l1 c' hc'
  · rw [b.1 (50 + 3 * c') (by omega)]
    exact l1 c' hc'
theorem cAct_9 (h : Hp) (c : Nat) (s d : Bool) (t : Nat) (cr : Bool) : cAct h c s d t cr (50 + 3 * c) 9 = h (50 + 3 * c) 9 + b2i (s && !d) := by
  cases s <;> cases d <;> cases cr <;> simp [cAct, depH, stayH, hs, b2i]
theorem cAct_10 (h : Hp) (c : Nat) (s d : Bool) (t : Nat) (cr : Bool) : cAct h c s d t cr (50 + 3 * c) 10 = h (50 + 3 * c) 10 + b2i (s && !d && cr) := by
  cases s <;> cases d <;> cases cr <;> simp [cAct, depH, stayH, hs, b2i]
theorem nI_b (n : Nat) (b : Bool) : nI n + b2i b = nI (n + b.toNat) := by
  cases b
  · exact i_add0 _
  · exact nI_1 n
theorem cAll_c (h : Hp) (s d : Nat → Bool) (t : Nat) (cr : Bool) {c : Nat} (hc : c < 3) : cAll h s d t cr (50 + 3 * c) 9 = h (50 + 3 * c) 9 + b2i (s c && !d c) ∧ cAll h s d t cr (50 + 3 * c) 10 = h (50 + 3 * c) 10 + b2i (s c && !d c && cr) := by
  unfold cAll
  rcases (show c = 0 ∨ c = 1 ∨ c = 2 by omega) with rfl | rfl | rfl
  · rw [cAct_ne (c := 2) (a := 50 + 3 * 0) (by decide), cAct_ne (c := 1) (a := 50 + 3 * 0) (by decide)]
    exact ⟨cAct_9 _ _ _ _ _ _, cAct_10 _ _ _ _ _ _⟩
  · rw [cAct_ne (c := 2) (a := 50 + 3 * 1) (by decide), cAct_9, cAct_10, cAct_ne (c := 0) (a := 50 + 3 * 1) (by decide)]
    exact ⟨rfl, rfl⟩
  · rw [cAct_9, cAct_10, cAct_ne (c := 1) (a := 50 + 3 * 2) (by decide), cAct_ne (c := 0) (a := 50 + 3 * 2) (by decide)]
    exact ⟨rfl, rfl⟩
theorem LPd_all {hl : Hp} {s d : Nat → Bool} {t : Nat} {cr : Bool} {B : Nat} {lt pd : Nat → Nat} {q : Nat} (l1 : ∀ c, c < 3 → hl (50 + 3 * c) 9 = nI (lt c) ∧ hl (50 + 3 * c) 10 = nI (pd c) ∧ pd c ≤ lt c ∧ lt c ≤ B) (l2 : hl 48 2 = nI q) (l3 : q ≤ pd 0 + pd 1 + pd 2 ∨ (q ≤ pd 0 + pd 1 + pd 2 + 1 ∧ cr = true ∧ ∃ c, c < 3 ∧ s c = true ∧ d c = false)) : LPd (cAll hl s d t cr) (B + 1) := by
  refine ⟨fun c => lt c + (s c && !d c).toNat, fun c => pd c + (s c && !d c && cr).toNat, fun c hc => ?_, q, ?_, ?_⟩
  · obtain ⟨a1, a2, a3, a4⟩ := l1 c hc
    obtain ⟨b1, b2⟩ := cAll_c hl s d t cr hc
    rw [b1, b2, a1, a2, nI_b, nI_b]
    refine ⟨rfl, rfl, ?_, ?_⟩
    · show pd c + (s c && !d c && cr).toNat ≤ lt c + (s c && !d c).toNat
      generalize (s c && !d c) = b
      have : (b && cr).toNat ≤ b.toNat := by cases b <;> cases cr <;> decide
      omega
    · show lt c + (s c && !d c).toNat ≤ B + 1
      generalize (s c && !d c) = b
      have : b.toNat ≤ 1 := by cases b <;> decide
      omega
  · unfold cAll
    rw [cAct_ne (c := 2) (a := 48) (by decide), cAct_ne (c := 1) (a := 48) (by decide), cAct_ne (c := 0) (a := 48) (by decide)]
    exact l2
  · show q ≤ (pd 0 + (s 0 && !d 0 && cr).toNat) + (pd 1 + (s 1 && !d 1 && cr).toNat) + (pd 2 + (s 2 && !d 2 && cr).toNat)
    rcases l3 with l3 | ⟨l3, e, c, hc, e1, e2⟩
    · omega
    · have : (s c && !d c && cr).toNat = 1 := by rw [e1, e2, e]; rfl
      rcases (show c = 0 ∨ c = 1 ∨ c = 2 by omega) with rfl | rfl | rfl <;> omega
theorem two_rk : ∀ (a b c : Bool) (i : Nat), 2 ≤ cnt3 a b c → (a = true ∧ ¬ 0 = i) ∨ (b = true ∧ ¬ 0 + a.toNat = i) ∨ (c = true ∧ ¬ 0 + a.toNat + b.toNat = i) := by
  intro a b c i hN
  cases a <;> cases b <;> cases c <;> simp only [cnt3, Bool.toNat_true, Bool.toNat_false] at hN ⊢ <;> first | omega | (simp; omega)
theorem LPd_pier {h h' : Hp} {w p ar : Nat → Bool} {pp : Bool} {L t B : Nat} (hw : FW h w p ar) (hL : L < 65537) (h48 : h 48 1 = nI L) (e : f_X4_givePier h (b2i pp) (nI t) = some h') (l : LPd h B) : LPd h' (B + 1) := by
  obtain ⟨lt, pd, l1, q, l2, l3⟩ := l
  rw [C_gp_head hw] at e
  cases hb : (!arr3 ar p pp && decide (2 ≤ cnt3 (w 0 && (p 0 == pp)) (w 1 && (p 1 == pp)) (w 2 && (p 2 == pp))))
  · rw [hb, C_gp_f hw] at e
    obtain rfl := Option.some.inj e
    exact LPd_all l1 l2 (Or.inl l3)
  · rw [hb] at e
    rw [Bool.and_eq_true, decide_eq_true_eq, Bool.not_eq_true'] at hb
    obtain ⟨hA, hN⟩ := hb
    have hc3 := cnt3_le (w 0 && (p 0 == pp)) (w 1 && (p 1 == pp)) (w 2 && (p 2 == pp))
    rw [C_gp_t hw hL h48 (by omega) (by omega)] at e
    obtain rfl := Option.some.inj e
    refine LPd_all (q := q + 1) (lt := lt) (pd := pd) (fun c hc => ?_) ?_ (Or.inr ⟨by omega, rfl, ?_⟩)
    · have : drawH h L (50 + 3 * c) = h (50 + 3 * c) := by
        unfold drawH
        rw [hs_r (by omega), hs_r (by omega)]
      rw [this]
      exact l1 c hc
    · rw [show drawH h L 48 2 = h 48 2 + 1 from hs_at _ _ _ _, l2, nI_1]
    · rw [hA]
      rcases two_rk _ _ _ (lotN L % cnt3 (w 0 && (p 0 == pp)) (w 1 && (p 1 == pp)) (w 2 && (p 2 == pp))) hN with ⟨x, y⟩ | ⟨x, y⟩ | ⟨x, y⟩
      · exact ⟨0, by decide, x, decide_eq_false y⟩
      · exact ⟨1, by decide, x, decide_eq_false y⟩
      · exact ⟨2, by decide, x, decide_eq_false y⟩
theorem begin3L {r : Nat → Int32} {t bt : Nat} {h0 hm0 h hm : Hp} (ht : t < 24) (v : VR r) (hbt : bt < 12) (hph : r 1 = nI bt) (G : GR r t h0 hm0 h hm) : ∃ (w p ar : Nat → Bool) (h3 hm3 : Hp), (∀ k1 K, f_X4_run_72 k1 K FU h (nI t) (nI (lvl bt t)) (3 : Int32) (0 : Int32) = f_X4_run_102 k1 K FU h3 (nI t) (0 : Int32)) ∧ f_X8_goOn hm (nI t) = f_X8_goOn_10 (196 + 1) hm3 (nI t) (US3 (w 0 && !p 0) (w 1 && !p 1) (w 2 && !p 2)) (US3 (w 0 && p 0) (w 1 && p 1) (w 2 && p 2)) (arO (ar 2) (p 2) (arO (ar 1) (p 1) (arO (ar 0) (p 0) 0))) (nI 3) ∧ (∀ c, c < 3 → MR r c t h3 hm3 (w c) (p c) (ar c)) ∧ HQ r h0 hm0 h3 hm3 ∧ ∀ B, LPd h B → LPd h3 B := by
  obtain ⟨G1, Q⟩ := G
  obtain ⟨w0, p0, ar0, h1, hm1, e1, a1, g1, m1, n1, o1, M0⟩ := FR_begin (c := 0) (by decide) ht v hbt (Q.2.1.2.2.1.trans hph) (G1 0 (by decide))
  have Q1 := HQ_begin Q a1 m1 o1
  have F1 : ∀ c', c' ≠ 0 → FV c' h h1 hm hm1 := fun c' hne => FV_begin hne a1 m1 n1 o1
  obtain ⟨w1, p1, ar1, h2, hm2, e2, a2, g2, m2, n2, o2, M1⟩ := FR_begin (c := 1) (by decide) ht v hbt (Q1.2.1.2.2.1.trans hph) (FR_frame (F1 1 (by decide)) (G1 1 (by decide)))
  have Q2 := HQ_begin Q1 a2 m2 o2
  have F2 : ∀ c', c' ≠ 1 → FV c' h1 h2 hm1 hm2 := fun c' hne => FV_begin hne a2 m2 n2 o2
  obtain ⟨w2, p2, ar2, h3, hm3, e3, a3, g3, m3, n3, o3, M2⟩ := FR_begin (c := 2) (by decide) ht v hbt (Q2.2.1.2.2.1.trans hph) (FR_frame (F2 2 (by decide)) (FR_frame (F1 2 (by decide)) (G1 2 (by decide))))
  have Q3 := HQ_begin Q2 a3 m3 o3
  have F3 : ∀ c', c' ≠ 2 → FV c' h2 h3 hm2 hm3 := fun c' hne => FV_begin hne a3 m3 n3 o3
  refine ⟨tri w0 w1 w2, tri p0 p1 p2, tri ar0 ar1 ar2, h3, hm3, fun k1 K => ?_, ?_, tri_all (P := fun c w p ar => MR r c t h3 hm3 w p ar) (MR_frame (F3 0 (by decide)) (MR_frame (F2 0 (by decide)) M0)) (MR_frame (F3 1 (by decide)) M1) M2, Q3, fun B l => LPd_BK (by decide) (bBH e3) (LPd_BK (by decide) (bBH e2) (LPd_BK (by decide) (bBH e1) l))⟩
  · show f_X4_run_72 k1 K (196 + 1 + 1 + 1 + 1) h (nI t) (nI (lvl bt t)) (nI 3) (nI 0) = _
    rw [run72_step k1 K _ h _ _ (c := 0) (by decide), e1, ob_s, run72_step k1 K _ h1 _ _ (c := 0 + 1) (by decide), show 50 + 3 * (0 + 1) = 50 + 3 * 1 from rfl, e2, ob_s, run72_step k1 K _ h2 _ _ (c := 0 + 1 + 1) (by decide), show 50 + 3 * (0 + 1 + 1) = 50 + 3 * 2 from rfl, e3, ob_s, f_X4_run_72_s, if_pos (by decide)]
  · unfold f_X8_goOn
    show f_X8_goOn_10 (196 + 1 + 1 + 1 + 1) hm (nI t) (0 : Int32) (0 : Int32) (0 : Int32) (nI 0) = _
    rw [g1, show nI (0 + 1) = nI 1 from rfl, g2, show nI (1 + 1) = nI 2 from rfl, g3]
    rfl
theorem MR_FW {r : Nat → Int32} {t : Nat} {h hm : Hp} {w p ar : Nat → Bool} (M : ∀ c, c < 3 → MR r c t h hm (w c) (p c) (ar c)) : FW h w p ar := fun c hc => ⟨(M c hc).2.2.1.1, (M c hc).2.2.1.2.1, (M c hc).2.2.1.2.2⟩
theorem hourL {r : Nat → Int32} {t bt : Nat} {h0 hm0 h hm : Hp} (ht : t < 24) (v : VR r) (hbt : bt < 12) (hph : r 1 = nI bt) (G : GR r t h0 hm0 h hm) : ∃ h' hm', (∀ k1 n, k1 < 48 → h0 k1 3 = nI bt → f_X4_run_43 k1 (n + 1) h (nI t) = f_X4_run_43 k1 n h' (nI (t + 1))) ∧ f_X8_goOn hm (nI t) = some hm' ∧ GR r (t + 1) h0 hm0 h' hm' ∧ ∀ B, LPd h B → LPd h' (B + 2) := by
  obtain ⟨w, p, ar, h3, hm3, e1, e2, M, Q, lp⟩ := begin3L ht v hbt hph G
  obtain ⟨w', h4, hm4, x1, x2, M4, Q4, hw⟩ := pier false M Q
  obtain ⟨w'', h5, hm5, y1, y2, M5, Q5, -⟩ := pier true M4 Q4
  have hx : ∀ c, (w c && !p c) = (w c && (p c == false)) := fun c => by cases p c <;> rfl
  have hy : ∀ c, (w c && p c) = (w' c && (p c == true)) := fun c => by
    rw [show (w' c && (p c == true)) = (w c && (p c == true)) from hw c]
    cases p c <;> rfl
  obtain ⟨b1, b2⟩ := arr_bits (ar 0) (p 0) (ar 1) (p 1) (ar 2) (p 2)
  obtain ⟨L, l1, l2, -⟩ := Q.1
  obtain ⟨L4, l41, l42, -⟩ := Q4.1
  refine ⟨h5, hm5, fun k1 n hk1 hh => ?_, ?_, ⟨fun c hc => MR_end (M5 c hc), Q5⟩, fun B l => LPd_pier (MR_FW M4) l41 l42 y1 (LPd_pier (MR_FW M) l1 l2 x1 (lp B l))⟩
  · rw [f_X4_run_43_s, L24, if_neg (fun z => by have := (le_iff (by decide) (by omega)).mp z; omega), G.2.2.2.1 k1 hk1, hh, C_levelAt h hbt ht, ob_s]
    simp only []
    rw [e1, show FU = 197 + 1 + 1 + 1 from rfl, f_X4_run_102_s, if_neg (by decide), show f_X4_givePier h3 (0 : Int32) (nI t) = _ from x1, ob_s, f_X4_run_102_s, if_neg (by decide), show f_X4_givePier h4 (0 + 1 : Int32) (nI t) = some h5 from (by rw [show (0 + 1 : Int32) = b2i true by decide]; exact y1), ob_s, f_X4_run_102_s, if_pos (by decide), nI_1]
  · rw [e2, f_X8_goOn_10_s, L3, if_pos (by decide), hx 0, hx 1, hx 2, hy 0, hy 1, hy 2]
    have z2 : ∀ q, f_X8_goOn_160 q (nI t) (US3 (w' 0 && (p 0 == true)) (w' 1 && (p 1 == true)) (w' 2 && (p 2 == true))) (b2i (arr3 ar p true)) = (f_X8_givePier q (US3 (w' 0 && (p 0 == true)) (w' 1 && (p 1 == true)) (w' 2 && (p 2 == true))) (b2i (arr3 ar p true)) (nI t)).bind (fun q1 => some q1) := fun q => rfl
    have z1 : f_X8_goOn_141 hm3 (nI t) (US3 (w' 0 && (p 0 == true)) (w' 1 && (p 1 == true)) (w' 2 && (p 2 == true))) (arO (ar 2) (p 2) (arO (ar 1) (p 1) (arO (ar 0) (p 0) 0))) (US3 (w 0 && (p 0 == false)) (w 1 && (p 1 == false)) (w 2 && (p 2 == false))) (b2i (arr3 ar p false)) = some hm5 := by
      unfold f_X8_goOn_141
      rw [x2, ob_s]
      by_cases e : arr3 ar p true = true
      · rw [if_pos (b2.mpr e), show (1 : Int32) = b2i (arr3 ar p true) by rw [e]; rfl, z2, y2, ob_s]
      · rw [if_neg (fun z => e (b2.mp z)), show (0 : Int32) = b2i (arr3 ar p true) by rw [show arr3 ar p true = false by simpa using e]; rfl, z2, y2, ob_s]
    by_cases e : arr3 ar p false = true
    · rw [if_pos (b1.mpr e), ← z1, e]
      rfl
    · rw [if_neg (fun z => e (b1.mp z)), ← z1, show arr3 ar p false = false by simpa using e]
      rfl
theorem hours24L {r : Nat → Int32} {bt : Nat} {h0 hm0 : Hp} (v : VR r) (hbt : bt < 12) (hph : r 1 = nI bt) : ∀ (k fu t : Nat) (h hm : Hp), k < fu → t + k = 24 → GR r t h0 hm0 h hm → ∃ h' hm', (∀ k1, k1 < 48 → h0 k1 3 = nI bt → f_X4_run_43 k1 fu h (nI t) = some h') ∧ f_X8_sailDay_52 fu hm (nI t) = f_X8_sailDay_71 FU hm' (0 : Int32) ∧ GR r 24 h0 hm0 h' hm' ∧ ∀ B, LPd h B → LPd h' (B + 2 * k) := by
  intro k
  induction k with
  | zero =>
    intro fu t h hm hf ht G
    obtain ⟨fu, rfl⟩ : ∃ q, fu = q + 1 := ⟨fu - 1, by omega⟩
    have : t = 24 := by omega
    subst this
    exact ⟨h, hm, fun k1 _ _ => by rw [f_X4_run_43_s, if_pos (by decide)], by rw [f_X8_sailDay_52_s, if_pos (by decide)], G, fun _ l => l⟩
  | succ k ih =>
    intro fu t h hm hf ht G
    obtain ⟨fu, rfl⟩ : ∃ q, fu = q + 1 := ⟨fu - 1, by omega⟩
    obtain ⟨h1, hm1, e1, e2, G1, l1⟩ := hourL (by omega) v hbt hph G
    obtain ⟨h2, hm2, f1, f2, G2, l2⟩ := ih fu (t + 1) h1 hm1 (by omega) (by omega) G1
    refine ⟨h2, hm2, fun k1 hk1 hh => ?_, ?_, G2, fun B l => by rw [show B + 2 * (k + 1) = B + 2 + 2 * k by omega]; exact l2 _ (l1 B l)⟩
    · rw [e1 k1 fu hk1 hh, f1 k1 hk1 hh]
    · rw [f_X8_sailDay_52_s, L24, if_neg (fun z => by have := (le_iff (by decide) (by omega)).mp z; omega), e2, ob_s, nI_1, f2]
theorem day_beginL {h hm : Hp} {k1 : Nat} {r : Nat → Int32} (hk : k1 = 1 ∨ k1 = 31) (v : VR r) (hr : capsAt h k1 r) (h4 : h k1 4 = r 2) (e1 : hm 1 = r) : ∃ h' hm', f_X4_run h k1 = f_X4_run_43 k1 FU h' (0 : Int32) ∧ f_X8_sailDay hm = f_X8_sailDay_52 FU hm' (0 : Int32) ∧ GR r 0 h hm h' hm' ∧ LPd h' 0 := by
  obtain ⟨ln, -, hl, eL⟩ := v.2.1
  have hr' : capsAt (hs (hs h 48 1 (h k1 4)) 48 2 0) k1 r := fun c hc j hj => by
    rw [hs_k (by omega), hs_k (by omega)]
    exact hr c hc j hj
  obtain ⟨h', x1, a1, B⟩ := C_begin3 hk v hr'
  obtain ⟨hm1, y1, m1, T⟩ := M_printAll (hm := hm) (by rw [e1]; exact v)
  rw [e1] at T
  have row : ∀ a, a ≠ 8 → a ≠ 9 → a ≠ 10 → a ≠ 11 → mD (mD (mD hm1 0) 1) 2 a = hm1 a := fun a p8 p9 p10 p11 => by rw [mD_k p8 p9 p10 p11, mD_k p8 p9 p10 p11, mD_k p8 p9 p10 p11]
  have r1 : mD (mD (mD hm1 0) 1) 2 1 = r := (row 1 (by decide) (by decide) (by decide) (by decide)).trans ((m1 1 (by decide) (by decide)).trans e1)
  refine ⟨h', mD (mD (mD hm1 0) 1) 2, x1, ?_, ⟨fun c hc => ?_, ⟨ln, by omega, ?_, ?_⟩, ⟨?_, ?_, ?_, ?_, ?_⟩, fun a ha => ?_, fun a ha => ?_⟩, fun _ => 0, fun _ => 0, fun c hc => ?_, 0, ?_, Nat.zero_le _⟩
  · unfold f_X8_sailDay
    rw [y1, ob_s, M_begin3]
  · obtain ⟨b0, b1, b2, b3, b7, b8, b9, b10⟩ := B c hc
    obtain ⟨v3, hh⟩ := VR_h v hc
    have q := mD3 hm1 hc
    rw [(m1 1 (by decide) (by decide)).trans e1, v3] at q
    obtain ⟨q8, q9, q10, q11⟩ := q
    refine ⟨⟨b0, ?_, b1, ⟨0, Nat.zero_le _, b7, q10⟩, ⟨?_, ?_, ?_, ?_⟩, fun j _ _ => by rw [r1]⟩, ⟨0, Nat.le_refl 0, b8, q11⟩, Or.inr ⟨decide (ch r c = 1), b3, by rw [b2]; exact b2i_of _ hh, by rw [q8]; exact b2i_of _ hh, Or.inl q9⟩⟩
    · unfold ttAtM
      rw [row 7 (by decide) (by decide) (by decide) (by decide), row 6 (by decide) (by decide) (by decide) (by decide)]
      exact T c hc
    · rw [r1, b7, i_add0]
    · rw [r1, b8, i_add0]
    · rw [r1, b9, i_add0]
    · rw [r1, b10, i_add0]
  · rw [a1 48 (by decide), hs_j (by decide), hs_at, h4]; exact eL
  · rw [r1]; exact eL
  · rw [r1, a1 48 (by decide), hs_at, i_add0]
  · rw [r1]
  · rw [r1]
  · rw [r1]
  · rw [r1]
  · rw [a1 a (by omega), hs_r (by omega), hs_r (by omega)]
  · rw [row a (by omega) (by omega) (by omega) (by omega), m1 a (by omega) (by omega)]
  · obtain ⟨-, -, -, -, -, -, b9, b10⟩ := B c hc
    exact ⟨b9, b10, Nat.le_refl 0, Nat.le_refl 0⟩
  · rw [a1 48 (by decide), hs_at]
    rfl
/-- the whole day, up to its evening -/
theorem dayL {h hm : Hp} {k1 : Nat} {r : Nat → Int32} (hk : k1 = 1 ∨ k1 = 31) (v : VR r) (hr : capsAt h k1 r) (h3 : h k1 3 = r 1) (h4 : h k1 4 = r 2) (e1 : hm 1 = r) : ∃ h' hm', f_X4_run h k1 = some h' ∧ f_X8_sailDay hm = f_X8_sailDay_71 FU hm' (0 : Int32) ∧ GR r 24 h hm h' hm' ∧ LPd h' 48 := by
  obtain ⟨bt, hbt, hph⟩ := VR_ph v
  obtain ⟨h1, hm1, x1, y1, G, l⟩ := day_beginL hk v hr h4 e1
  obtain ⟨h2, hm2, x2, y2, G2, l2⟩ := hours24L v hbt hph 24 FU 0 h1 hm1 (by decide) (by decide) G
  exact ⟨h2, hm2, x1.trans (x2 k1 (by omega) (h3.trans hph)), y1.trans y2, G2, l2 0 l⟩
