def HQ (r : Nat → Int32) (h0 hm0 h hm : Hp) : Prop := (∃ L : Nat, L < 65537 ∧ h 48 1 = nI L ∧ hm 1 2 = nI L) ∧ (hm 1 5 = r 5 + h 48 2 ∧ hm 1 0 = r 0 ∧ hm 1 1 = r 1 ∧ hm 1 3 = r 3 ∧ hm 1 4 = r 4) ∧ (∀ a, a < 48 → h a = h0 a) ∧ ∀ a, a = 0 ∨ (2 ≤ a ∧ a ≤ 5) → hm a = hm0 a
def GR (r : Nat → Int32) (t : Nat) (h0 hm0 h hm : Hp) : Prop := (∀ c, c < 3 → FR r c t h hm) ∧ HQ r h0 hm0 h hm
theorem FV_begin {c c' : Nat} {h h1 hm hm1 : Hp} (hne : c' ≠ c) (a1 : ∀ a, a ≠ 50 + 3 * c → h1 a = h a) (m : ∀ a, a ≠ 1 → a ≠ 11 → hm1 a = hm a) (m11 : ∀ j, j ≠ c → hm1 11 j = hm 11 j) (m1 : ∀ j, j ≠ 6 + 10 * c + 5 → hm1 1 j = hm 1 j) : FV c' h h1 hm hm1 :=
  ⟨⟨a1 _ (by omega), a1 _ (by omega), a1 _ (by omega)⟩, ⟨m 6 (by decide) (by decide), m 7 (by decide) (by decide)⟩, ⟨by rw [m 8 (by decide) (by decide)], by rw [m 9 (by decide) (by decide)], by rw [m 10 (by decide) (by decide)], m11 _ hne⟩, fun j hj => m1 _ (by omega)⟩
theorem HQ_begin {r : Nat → Int32} {c : Nat} {h0 hm0 h h1 hm hm1 : Hp} (q : HQ r h0 hm0 h hm) (a1 : ∀ a, a ≠ 50 + 3 * c → h1 a = h a) (m : ∀ a, a ≠ 1 → a ≠ 11 → hm1 a = hm a) (m1 : ∀ j, j ≠ 6 + 10 * c + 5 → hm1 1 j = hm 1 j) : HQ r h0 hm0 h1 hm1 := by
  obtain ⟨⟨L, l1, l2, l3⟩, ⟨q5, q0, q1, q3, q4⟩, qa, qm⟩ := q
  refine ⟨⟨L, l1, by rw [a1 48 (by omega)]; exact l2, by rw [m1 2 (by omega)]; exact l3⟩, ⟨by rw [m1 5 (by omega), a1 48 (by omega)]; exact q5, by rw [m1 0 (by omega)]; exact q0, by rw [m1 1 (by omega)]; exact q1, by rw [m1 3 (by omega)]; exact q3, by rw [m1 4 (by omega)]; exact q4⟩, fun a ha => by rw [a1 a (by omega)]; exact qa a ha, fun a ha => by rw [m a (by omega) (by omega)]; exact qm a ha⟩
def tri (a b c : Bool) : Nat → Bool
  | 0 => a
  | 1 => b
  | _ => c
theorem tri_all {P : Nat → Bool → Bool → Bool → Prop} {a0 b0 c0 a1 b1 c1 a2 b2 c2 : Bool} (h0 : P 0 a0 b0 c0) (h1 : P 1 a1 b1 c1) (h2 : P 2 a2 b2 c2) : ∀ c, c < 3 → P c (tri a0 a1 a2 c) (tri b0 b1 b2 c) (tri c0 c1 c2 c) := by
  intro c hc
  rcases (show c = 0 ∨ c = 1 ∨ c = 2 by omega) with rfl | rfl | rfl
  · exact h0
  · exact h1
  · exact h2
theorem run72_step (k1 : Nat) (K : Hp → Int32 → Option Hp) (n : Nat) (h : Hp) (x2 x3 : Int32) {c : Nat} (hc : c < 3) : f_X4_run_72 k1 K (n + 1) h x2 x3 (nI 3) (nI c) = (f_X3_beginHour h (50 + 3 * c) x2 x3).bind (fun q => f_X4_run_72 k1 K n q x2 x3 (nI 3) (nI (c + 1))) := by
  rw [f_X4_run_72_s, if_neg (fun z => by have := (le_iff (by decide) (by omega)).mp z; omega), if_pos (inb_nI hc (by decide)), nc (by omega)]
  congr 1
  funext q
  rw [nI_1]
theorem begin3 {r : Nat → Int32} {t bt : Nat} {h0 hm0 h hm : Hp} (ht : t < 24) (v : VR r) (hbt : bt < 12) (hph : r 1 = nI bt) (G : GR r t h0 hm0 h hm) : ∃ (w p ar : Nat → Bool) (h3 hm3 : Hp), (∀ k1 K, f_X4_run_72 k1 K FU h (nI t) (nI (lvl bt t)) (3 : Int32) (0 : Int32) = f_X4_run_102 k1 K FU h3 (nI t) (0 : Int32)) ∧ f_X8_goOn hm (nI t) = f_X8_goOn_10 (196 + 1) hm3 (nI t) (US3 (w 0 && !p 0) (w 1 && !p 1) (w 2 && !p 2)) (US3 (w 0 && p 0) (w 1 && p 1) (w 2 && p 2)) (arO (ar 2) (p 2) (arO (ar 1) (p 1) (arO (ar 0) (p 0) 0))) (nI 3) ∧ (∀ c, c < 3 → MR r c t h3 hm3 (w c) (p c) (ar c)) ∧ HQ r h0 hm0 h3 hm3 := by
  obtain ⟨G1, Q⟩ := G
  obtain ⟨w0, p0, ar0, h1, hm1, e1, a1, g1, m1, n1, o1, M0⟩ := FR_begin (c := 0) (by decide) ht v hbt (Q.2.1.2.2.1.trans hph) (G1 0 (by decide))
  have Q1 := HQ_begin Q a1 m1 o1
  have F1 : ∀ c', c' ≠ 0 → FV c' h h1 hm hm1 := fun c' hne => FV_begin hne a1 m1 n1 o1
  obtain ⟨w1, p1, ar1, h2, hm2, e2, a2, g2, m2, n2, o2, M1⟩ := FR_begin (c := 1) (by decide) ht v hbt (Q1.2.1.2.2.1.trans hph) (FR_frame (F1 1 (by decide)) (G1 1 (by decide)))
  have Q2 := HQ_begin Q1 a2 m2 o2
  have F2 : ∀ c', c' ≠ 1 → FV c' h1 h2 hm1 hm2 := fun c' hne => FV_begin hne a2 m2 n2 o2
  obtain ⟨w2, p2, ar2, h3, hm3, e3, a3, g3, m3, n3, o3, M2⟩ := FR_begin (c := 2) (by decide) ht v hbt (Q2.2.1.2.2.1.trans hph) (FR_frame (F2 2 (by decide)) (FR_frame (F1 2 (by decide)) (G1 2 (by decide))))
  have Q3 := HQ_begin Q2 a3 m3 o3
  have F3 : ∀ c', c' ≠ 2 → FV c' h2 h3 hm2 hm3 := fun c' hne => FV_begin hne a3 m3 n3 o3
  refine ⟨tri w0 w1 w2, tri p0 p1 p2, tri ar0 ar1 ar2, h3, hm3, fun k1 K => ?_, ?_, tri_all (P := fun c w p ar => MR r c t h3 hm3 w p ar) (MR_frame (F3 0 (by decide)) (MR_frame (F2 0 (by decide)) M0)) (MR_frame (F3 1 (by decide)) M1) M2, Q3⟩
  · show f_X4_run_72 k1 K (196 + 1 + 1 + 1 + 1) h (nI t) (nI (lvl bt t)) (nI 3) (nI 0) = _
    rw [run72_step k1 K _ h _ _ (c := 0) (by decide), e1, ob_s, run72_step k1 K _ h1 _ _ (c := 0 + 1) (by decide), show 50 + 3 * (0 + 1) = 50 + 3 * 1 from rfl, e2, ob_s, run72_step k1 K _ h2 _ _ (c := 0 + 1 + 1) (by decide), show 50 + 3 * (0 + 1 + 1) = 50 + 3 * 2 from rfl, e3, ob_s, f_X4_run_72_s, if_pos (by decide)]
  · unfold f_X8_goOn
    show f_X8_goOn_10 (196 + 1 + 1 + 1 + 1) hm (nI t) (0 : Int32) (0 : Int32) (0 : Int32) (nI 0) = _
    rw [g1, show nI (0 + 1) = nI 1 from rfl, g2, show nI (1 + 1) = nI 2 from rfl, g3]
    rfl
/-! a pier -/
theorem FV_draw {c L : Nat} {h hm : Hp} (hc : c < 3) : FV c h (drawH h L) hm (drawM hm L) := by
  have a : ∀ x, x ≠ 48 → drawH h L x = h x := fun x hx => by
    unfold drawH
    rw [hs_r hx, hs_r hx]
  have m : ∀ x, x ≠ 1 → drawM hm L x = hm x := fun x hx => by
    unfold drawM
    rw [hs_r hx, hs_r hx]
  refine ⟨⟨a _ (by omega), a _ (by omega), a _ (by omega)⟩, ⟨m 6 (by decide), m 7 (by decide)⟩, ⟨by rw [m 8 (by decide)], by rw [m 9 (by decide)], by rw [m 10 (by decide)], by rw [m 11 (by decide)]⟩, fun j hj => ?_⟩
  unfold drawM
  rw [hs_j (by omega), hs_j (by omega)]
theorem HQ_draw {r : Nat → Int32} {h0 hm0 h hm : Hp} {L : Nat} (q : HQ r h0 hm0 h hm) : HQ r h0 hm0 (drawH h L) (drawM hm L) := by
  have a : ∀ x, x ≠ 48 → drawH h L x = h x := fun x hx => by
    unfold drawH
    rw [hs_r hx, hs_r hx]
  have m : ∀ x, x ≠ 1 → drawM hm L x = hm x := fun x hx => by
    unfold drawM
    rw [hs_r hx, hs_r hx]
  have d1 : drawH h L 48 1 = nI (lotN L) := by simp [drawH, hs]
  have d2 : drawH h L 48 2 = h 48 2 + 1 := by simp [drawH, hs]
  have n2 : drawM hm L 1 2 = nI (lotN L) := by simp [drawM, hs]
  have n5 : drawM hm L 1 5 = hm 1 5 + 1 := by simp [drawM, hs]
  have no : ∀ j, j ≠ 2 → j ≠ 5 → drawM hm L 1 j = hm 1 j := by
    intro j x y
    simp [drawM, hs, x, y]
  obtain ⟨-, ⟨q5, q0, q1, q3, q4⟩, qa, qm⟩ := q
  exact ⟨⟨lotN L, lotN_lt L, d1, n2⟩, ⟨by rw [n5, d2, q5, Int32.add_assoc], by rw [no 0 (by decide) (by decide)]; exact q0, by rw [no 1 (by decide) (by decide)]; exact q1, by rw [no 3 (by decide) (by decide)]; exact q3, by rw [no 4 (by decide) (by decide)]; exact q4⟩, fun x hx => by rw [a x (by omega)]; exact qa x hx, fun x hx => by rw [m x (by omega)]; exact qm x hx⟩
theorem mAct_low {hm : Hp} {c t : Nat} {s d cr : Bool} {j : Nat} (hj : j < 6) : mAct hm c s d t cr 1 j = hm 1 j := by
  have z : ∀ k, j ≠ 6 + 10 * c + k := fun k => by omega
  unfold mAct
  cases s
  · rfl
  · cases d
    · simp [stayM, hs, z]
    · simp [depM, depM2, depM1, hs, z]
theorem mAct_k {hm : Hp} {c t : Nat} {s d cr : Bool} {a : Nat} (ha : a = 0 ∨ (2 ≤ a ∧ a ≤ 5)) : mAct hm c s d t cr a = hm a := by
  have z1 : a ≠ 1 := by omega
  have z8 : a ≠ 8 := by omega
  have z9 : a ≠ 9 := by omega
  have z10 : a ≠ 10 := by omega
  funext j
  unfold mAct
  cases s
  · rfl
  · cases d
    · simp [stayM, hs, z1]
    · simp [depM, depM2, depM1, hs, z1, z8, z9, z10]
theorem HQ_act {r : Nat → Int32} {h0 hm0 h hm : Hp} {c t : Nat} {s d cr : Bool} (q : HQ r h0 hm0 h hm) : HQ r h0 hm0 (cAct h c s d t cr) (mAct hm c s d t cr) := by
  obtain ⟨⟨L, l1, l2, l3⟩, ⟨q5, q0, q1, q3, q4⟩, qa, qm⟩ := q
  have a48 : cAct h c s d t cr 48 = h 48 := cAct_ne (by omega)
  exact ⟨⟨L, l1, by rw [a48]; exact l2, by rw [mAct_low (by decide)]; exact l3⟩, ⟨by rw [mAct_low (by decide), a48]; exact q5, by rw [mAct_low (by decide)]; exact q0, by rw [mAct_low (by decide)]; exact q1, by rw [mAct_low (by decide)]; exact q3, by rw [mAct_low (by decide)]; exact q4⟩, fun a ha => by rw [cAct_ne (by omega)]; exact qa a ha, fun a ha => by rw [mAct_k ha]; exact qm a ha⟩
theorem MR_all {r : Nat → Int32} {t : Nat} {h hm : Hp} {w p ar : Nat → Bool} {pp cr : Bool} {d : Nat → Bool} (M : ∀ c, c < 3 → MR r c t h hm (w c) (p c) (ar c)) : ∀ c, c < 3 → MR r c t (cAll h (fun c => w c && (p c == pp)) d t cr) (mAll hm (fun c => w c && (p c == pp)) d t cr) (w c && !((w c && (p c == pp)) && d c)) (p c) (ar c) := by
  intro c hc
  rcases (show c = 0 ∨ c = 1 ∨ c = 2 by omega) with rfl | rfl | rfl
  · exact MR_frame (act_FV (c := 2) (c' := 0) (by decide)) (MR_frame (act_FV (c := 1) (c' := 0) (by decide)) (MR_act (M 0 (by decide))))
  · exact MR_frame (act_FV (c := 2) (c' := 1) (by decide)) (MR_act (MR_frame (act_FV (c := 0) (c' := 1) (by decide)) (M 1 (by decide))))
  · exact MR_act (MR_frame (act_FV (c := 1) (c' := 2) (by decide)) (MR_frame (act_FV (c := 0) (c' := 2) (by decide)) (M 2 (by decide))))
theorem pier {r : Nat → Int32} {t : Nat} {h0 hm0 h hm : Hp} {w p ar : Nat → Bool} (pp : Bool) (M : ∀ c, c < 3 → MR r c t h hm (w c) (p c) (ar c)) (Q : HQ r h0 hm0 h hm) : ∃ (w' : Nat → Bool) (h' hm' : Hp), f_X4_givePier h (b2i pp) (nI t) = some h' ∧ f_X8_givePier hm (US3 (w 0 && (p 0 == pp)) (w 1 && (p 1 == pp)) (w 2 && (p 2 == pp))) (b2i (arr3 ar p pp)) (nI t) = some hm' ∧ (∀ c, c < 3 → MR r c t h' hm' (w' c) (p c) (ar c)) ∧ HQ r h0 hm0 h' hm' ∧ ∀ c, (w' c && (p c == !pp)) = (w c && (p c == !pp)) := by
  obtain ⟨L, l1, l2, l3⟩ := Q.1
  obtain ⟨d, cr, hl, hml, e1, e2, hd⟩ := GP (t := t) (pp := pp) (ar := ar) rfl (fun c hc => ⟨(M c hc).2.2.1.1, (M c hc).2.2.1.2.1, (M c hc).2.2.1.2.2⟩) l1 l2 l3
  have ML : (∀ c, c < 3 → MR r c t hl hml (w c) (p c) (ar c)) ∧ HQ r h0 hm0 hl hml := by
    rcases hd with ⟨rfl, rfl⟩ | ⟨rfl, rfl⟩
    · exact ⟨M, Q⟩
    · exact ⟨fun c hc => MR_frame (FV_draw hc) (M c hc), HQ_draw Q⟩
  refine ⟨fun c => w c && !((w c && (p c == pp)) && d c), _, _, e1, e2, MR_all ML.1, HQ_act (HQ_act (HQ_act ML.2)), fun c => ?_⟩
  show (w c && !((w c && (p c == pp)) && d c) && (p c == !pp)) = (w c && (p c == !pp))
  cases w c <;> cases p c <;> cases pp <;> cases d c <;> rfl
theorem arr_bits : ∀ a0 p0 a1 p1 a2 p2 : Bool, ((arO a2 p2 (arO a1 p1 (arO a0 p0 0)) &&& (1 : Int32)) = (1 : Int32) ↔ ((a0 && (p0 == false)) || (a1 && (p1 == false)) || (a2 && (p2 == false))) = true) ∧ ((arO a2 p2 (arO a1 p1 (arO a0 p0 0)) &&& (2 : Int32)) = (2 : Int32) ↔ ((a0 && (p0 == true)) || (a1 && (p1 == true)) || (a2 && (p2 == true))) = true) := by decide +kernel
theorem hour {r : Nat → Int32} {t bt : Nat} {h0 hm0 h hm : Hp} (ht : t < 24) (v : VR r) (hbt : bt < 12) (hph : r 1 = nI bt) (G : GR r t h0 hm0 h hm) : ∃ h' hm', (∀ k1 n, k1 < 48 → h0 k1 3 = nI bt → f_X4_run_43 k1 (n + 1) h (nI t) = f_X4_run_43 k1 n h' (nI (t + 1))) ∧ f_X8_goOn hm (nI t) = some hm' ∧ GR r (t + 1) h0 hm0 h' hm' := by
  obtain ⟨w, p, ar, h3, hm3, e1, e2, M, Q⟩ := begin3 ht v hbt hph G
  obtain ⟨w', h4, hm4, x1, x2, M4, Q4, hw⟩ := pier false M Q
  obtain ⟨w'', h5, hm5, y1, y2, M5, Q5, -⟩ := pier true M4 Q4
  have hx : ∀ c, (w c && !p c) = (w c && (p c == false)) := fun c => by cases p c <;> rfl
  have hy : ∀ c, (w c && p c) = (w' c && (p c == true)) := fun c => by
    rw [show (w' c && (p c == true)) = (w c && (p c == true)) from hw c]
    cases p c <;> rfl
  obtain ⟨b1, b2⟩ := arr_bits (ar 0) (p 0) (ar 1) (p 1) (ar 2) (p 2)
  refine ⟨h5, hm5, fun k1 n hk1 hh => ?_, ?_, fun c hc => MR_end (M5 c hc), Q5⟩
  · rw [f_X4_run_43_s, L24, if_neg (fun z => by have := (le_iff (by decide) (by omega)).mp z; omega), G.2.2.2.1 k1 hk1, hh, C_levelAt h hbt ht, ob_s]
    simp only []
    rw [e1, show FU = 197 + 1 + 1 + 1 from rfl, f_X4_run_102_s, if_neg (by decide), show f_X4_givePier h3 (0 : Int32) (nI t) = _ from x1, ob_s, f_X4_run_102_s, if_neg (by decide), show f_X4_givePier h4 (0 + 1 : Int32) (nI t) = some h5 from (by rw [show (0 + 1 : Int32) = b2i true by decide]; exact y1), ob_s, f_X4_run_102_s, if_pos (by decide), nI_1]
  · rw [e2, f_X8_goOn_10_s, L3, if_pos (by decide), hx 0, hx 1, hx 2, hy 0, hy 1, hy 2]
    have z2 : ∀ q, f_X8_goOn_160 q (nI t) (US3 (w' 0 && (p 0 == true)) (w' 1 && (p 1 == true)) (w' 2 && (p 2 == true))) (b2i (arr3 ar p true)) = (f_X8_givePier q (US3 (w' 0 && (p 0 == true)) (w' 1 && (p 1 == true)) (w' 2 && (p 2 == true))) (b2i (arr3 ar p true)) (nI t)).bind (fun q1 => some q1) := fun q => rfl
    have z1 : f_X8_goOn_141 hm3 (nI t) (US3 (w' 0 && (p 0 == true)) (w' 1 && (p 1 == true)) (w' 2 && (p 2 == true))) (arO (ar 2) (p 2) (arO (ar 1) (p 1) (arO (ar 0) (p 0) 0))) (US3 (w 0 && (p 0 == false)) (w 1 && (p 1 == false)) (w 2 && (p 2 == false))) (b2i (arr3 ar p false)) = some hm5 := by
      unfold f_X8_goOn_141
      rw [x2, ob_s]
      by_cases e : arr3 ar p true = true
      · rw [if_pos (b2.mpr e), show (1 : Int32) = b2i (arr3 ar p true) by rw [e]; rfl, z2, y2, ob_s]
      · rw [if_neg (fun z => e (b2.mp z)), show (0 : Int32) = b2i (arr3 ar p true) by rw [show arr3 ar p true = false by simpa using e]; rfl, z2, y2, ob_s]
    by_cases e : arr3 ar p false = true
    · rw [if_pos (b1.mpr e), ← z1, e]
      rfl
    · rw [if_neg (fun z => e (b1.mp z)), ← z1, show arr3 ar p false = false by simpa using e]
      rfl
theorem hours24 {r : Nat → Int32} {bt : Nat} {h0 hm0 : Hp} (v : VR r) (hbt : bt < 12) (hph : r 1 = nI bt) : ∀ (k fu t : Nat) (h hm : Hp), k < fu → t + k = 24 → GR r t h0 hm0 h hm → ∃ h' hm', (∀ k1, k1 < 48 → h0 k1 3 = nI bt → f_X4_run_43 k1 fu h (nI t) = some h') ∧ f_X8_sailDay_52 fu hm (nI t) = f_X8_sailDay_71 FU hm' (0 : Int32) ∧ GR r 24 h0 hm0 h' hm' := by
  intro k
  induction k with
  | zero =>
    intro fu t h hm hf ht G
    obtain ⟨fu, rfl⟩ : ∃ q, fu = q + 1 := ⟨fu - 1, by omega⟩
    have : t = 24 := by omega
    subst this
    exact ⟨h, hm, fun k1 _ _ => by rw [f_X4_run_43_s, if_pos (by decide)], by rw [f_X8_sailDay_52_s, if_pos (by decide)], G⟩
  | succ k ih =>
    intro fu t h hm hf ht G
    obtain ⟨fu, rfl⟩ : ∃ q, fu = q + 1 := ⟨fu - 1, by omega⟩
    obtain ⟨h1, hm1, e1, e2, G1⟩ := hour (by omega) v hbt hph G
    obtain ⟨h2, hm2, f1, f2, G2⟩ := ih fu (t + 1) h1 hm1 (by omega) (by omega) G1
    refine ⟨h2, hm2, fun k1 hk1 hh => ?_, ?_, G2⟩
    · rw [e1 k1 fu hk1 hh, f1 k1 hk1 hh]
    · rw [f_X8_sailDay_52_s, L24, if_neg (fun z => by have := (le_iff (by decide) (by omega)).mp z; omega), e2, ob_s, nI_1, f2]
