/-! the class's evening -/
theorem C_endCap {h : Hp} {kc f : Nat} (h1 : f ≠ kc) (h2 : f + 1 ≠ kc) : ∃ h', f_X2_endDay h kc f = some h' ∧ (∀ a, a ≠ kc → h' a = h a) ∧ h' kc 4 = h kc 4 + h f 7 ∧ h' kc 5 = h kc 5 + h f 8 ∧ h' kc 6 = h kc 6 + h f 9 ∧ h' kc 7 = h kc 7 + h f 10 ∧ h' kc 8 = h kc 8 + (h (f + 1) 1 - h f 7) ∧ ∀ j, j < 4 ∨ j = 9 → h' kc j = h kc j := by
  unfold f_X2_endDay f_X2_endDay_26 f_X2_endDay_52 f_X3_crossingsLeft
  rw [ob_s]
  refine ⟨_, rfl, fun a ha => ?_, ?_, ?_, ?_, ?_, ?_, fun j hj => ?_⟩
  · simp only []
    rw [hs_r ha, hs_r ha, hs_r ha, hs_r ha, hs_r ha]
  · simp [hs, h1, h2]
  · simp [hs, h1, h2]
  · simp [hs, h1, h2]
  · simp [hs, h1, h2]
  · simp [hs, h1, h2]
  · simp only []
    rw [hs_j (by omega), hs_j (by omega), hs_j (by omega), hs_j (by omega), hs_j (by omega)]
theorem C_night {r : Nat → Int32} {g : Hp} {c : Nat} (hc : c < 3) (g2 : g 1 2 = r 4) (g3 : g 1 3 = nP r) : ∃ g', (∀ n, f_X5_endDay_49 1 (n + 1) g (nI c) = f_X5_endDay_49 1 n g' (nI (c + 1))) ∧ (∀ a, a ≠ 1 + 1 + 1 + c → g' a = g a) ∧ g' (1 + 1 + 1 + c) 0 = (if les r g c = true then nP r else g (1 + 1 + 1 + c) 0) ∧ (∀ j, 1 ≤ j → j < 4 → g' (1 + 1 + 1 + c) j = g (1 + 1 + 1 + c) j) ∧ g' (1 + 1 + 1 + c) 4 = g (1 + 1 + 1 + c) 4 + g (50 + 3 * c) 7 ∧ g' (1 + 1 + 1 + c) 5 = g (1 + 1 + 1 + c) 5 + g (50 + 3 * c) 8 ∧ g' (1 + 1 + 1 + c) 6 = g (1 + 1 + 1 + c) 6 + g (50 + 3 * c) 9 ∧ g' (1 + 1 + 1 + c) 7 = g (1 + 1 + 1 + c) 7 + g (50 + 3 * c) 10 ∧ g' (1 + 1 + 1 + c) 8 = g (1 + 1 + 1 + c) 8 + (g (50 + 3 * c + 1) 1 - g (50 + 3 * c) 7) ∧ g' (1 + 1 + 1 + c) 9 = g (1 + 1 + 1 + c) 9 + b2i (les r g c) := by
  obtain ⟨h', e, a, x4, x5, x6, x7, x8, xo⟩ := C_endCap (h := g) (kc := 1 + 1 + 1 + c) (f := 50 + 3 * c) (by omega) (by omega)
  have hb : ∀ n, f_X5_endDay_49 1 (n + 1) g (nI c) = if g (50 + 3 * c) 8 < r 4 then f_X5_endDay_49 1 n h' (nI (c + 1)) else f_X5_endDay_49 1 n (hs (hs h' (1 + 1 + 1 + c) 0 (nP r)) (1 + 1 + 1 + c) 9 (hs h' (1 + 1 + 1 + c) 0 (nP r) (1 + 1 + 1 + c) 9 + 1)) (nI (c + 1)) := by
    intro n
    rw [f_X5_endDay_49_s, if_neg (fun (z : (3 : Int32) ≤ nI c) => by have := (le_iff (a := 3) (by decide) (by omega)).mp z; omega), if_pos (inb_nI hc (by decide)), if_pos (inb_nI hc (by decide)), nc (by omega), e, ob_s]
    unfold f_X3_isLesson f_X5_endDay_95 f_X2_learn
    rw [a 1 (by omega), g2, a (50 + 3 * c) (by omega)]
    by_cases l : g (50 + 3 * c) 8 < r 4
    · rw [if_pos l, if_pos l, ob_s]
      simp only []
      rw [if_pos trivial, nI_1]
    · rw [if_neg l, if_neg l, ob_s]
      simp only []
      rw [if_neg n10, if_pos (inb_nI hc (by decide)), ob_s, a 1 (by omega), g3, nI_1]
  by_cases l : g (50 + 3 * c) 8 < r 4
  · have hl : les r g c = false := by unfold les; rw [decide_eq_true l]; rfl
    refine ⟨h', fun n => by rw [hb n, if_pos l], a, ?_, fun j j1 j4 => xo j (by omega), x4, x5, x6, x7, x8, ?_⟩
    · rw [hl, xo 0 (by omega)]
      rfl
    · rw [hl, xo 9 (by omega), b2f, i_add0]
  · have hl : les r g c = true := by unfold les; rw [decide_eq_false l]; rfl
    have o : ∀ j, j ≠ 0 → j ≠ 9 → hs (hs h' (1 + 1 + 1 + c) 0 (nP r)) (1 + 1 + 1 + c) 9 (hs h' (1 + 1 + 1 + c) 0 (nP r) (1 + 1 + 1 + c) 9 + 1) (1 + 1 + 1 + c) j = h' (1 + 1 + 1 + c) j := fun j j0 j9 => by rw [hs_j j9, hs_j j0]
    refine ⟨hs (hs h' (1 + 1 + 1 + c) 0 (nP r)) (1 + 1 + 1 + c) 9 (hs h' (1 + 1 + 1 + c) 0 (nP r) (1 + 1 + 1 + c) 9 + 1), fun n => by rw [hb n, if_neg l], fun b hb => by rw [hs_r hb, hs_r hb, a b hb], ?_, fun j j1 j4 => by rw [o j (by omega) (by omega)]; exact xo j (by omega), by rw [o 4 (by decide) (by decide)]; exact x4, by rw [o 5 (by decide) (by decide)]; exact x5, by rw [o 6 (by decide) (by decide)]; exact x6, by rw [o 7 (by decide) (by decide)]; exact x7, by rw [o 8 (by decide) (by decide)]; exact x8, ?_⟩
    · rw [hl, if_pos rfl, hs_j (by decide), hs_at]
    · rw [hl, hs_at, hs_j (by decide), xo 9 (by omega)]
      rfl
theorem C_evening {r : Nat → Int32} {h : Hp} (hcaps : capsAt h 1 r) (hlow : ∀ i, i < 6 → h 1 (sl i) = r i) : ∃ h', f_X5_endDay h 1 = some h' ∧ (∀ a, a ≠ 1 → a ≠ 3 → a ≠ 4 → a ≠ 5 → h' a = h a) ∧ EV r h (rC h' 1) := by
  have s0 : h 1 6 = r 0 := hlow 0 (by decide)
  have s1 : h 1 3 = r 1 := hlow 1 (by decide)
  have s3 : h 1 1 = r 3 := hlow 3 (by decide)
  have s4 : h 1 2 = r 4 := hlow 4 (by decide)
  have s5 : h 1 5 = r 5 := hlow 5 (by decide)
  obtain ⟨g, eg, gk, g6, g4, g5, g3, g1, g2⟩ : ∃ g, f_X5_endDay h 1 = f_X5_endDay_49 1 FU g (0 : Int32) ∧ (∀ a, a ≠ 1 → g a = h a) ∧ g 1 6 = r 0 + 1 ∧ g 1 4 = h 48 1 ∧ g 1 5 = r 5 + h 48 2 ∧ g 1 3 = nP r ∧ g 1 1 = r 3 ∧ g 1 2 = r 4 := by
    unfold f_X5_endDay f_X5_endDay_18 f_X5_endDay_47
    refine ⟨_, rfl, fun a ha => by rw [hs_r ha, hs_r ha, hs_r ha, hs_r ha], ?_, ?_, ?_, ?_, ?_, ?_⟩
    · simp [hs, s0]
    · simp [hs]
    · simp [hs, s5]
    · simp [hs, s1, s3, nP]
    · simp [hs, s3]
    · simp [hs, s4]
  obtain ⟨h1, e1, a1, b10, b11, b14, b15, b16, b17, b18, b19⟩ := C_night (c := 0) (by decide) g2 g3
  obtain ⟨h2, e2, a2, b20, b21, b24, b25, b26, b27, b28, b29⟩ := C_night (g := h1) (r := r) (c := 1) (by decide) (by rw [a1 1 (by decide)]; exact g2) (by rw [a1 1 (by decide)]; exact g3)
  obtain ⟨h3, e3, a3, b30, b31, b34, b35, b36, b37, b38, b39⟩ := C_night (g := h2) (r := r) (c := 2) (by decide) (by rw [a2 1 (by decide), a1 1 (by decide)]; exact g2) (by rw [a2 1 (by decide), a1 1 (by decide)]; exact g3)
  refine ⟨h3, ?_, fun a x1 x3 x4 x5 => by rw [a3 a (by omega), a2 a (by omega), a1 a (by omega), gk a x1], ⟨⟨?_, ?_, ?_, ?_, ?_, ?_⟩, fun c hc => ?_⟩⟩
  · rw [eg]
    show f_X5_endDay_49 1 (196 + 1 + 1 + 1 + 1) g (nI 0) = _
    rw [e1, show nI (0 + 1) = nI 1 from rfl, e2, show nI (1 + 1) = nI 2 from rfl, e3, f_X5_endDay_49_s, if_pos (by decide)]
  · rw [rC_low (by decide), a3 1 (by decide), a2 1 (by decide), a1 1 (by decide)]; exact g6
  · rw [rC_low (by decide), a3 1 (by decide), a2 1 (by decide), a1 1 (by decide)]; exact g3
  · rw [rC_low (by decide), a3 1 (by decide), a2 1 (by decide), a1 1 (by decide)]; exact g4
  · rw [rC_low (by decide), a3 1 (by decide), a2 1 (by decide), a1 1 (by decide)]; exact g1
  · rw [rC_low (by decide), a3 1 (by decide), a2 1 (by decide), a1 1 (by decide)]; exact g2
  · rw [rC_low (by decide), a3 1 (by decide), a2 1 (by decide), a1 1 (by decide)]; exact g5
  · have hl : ∀ (k : Hp) (c : Nat), k (50 + 3 * c) = h (50 + 3 * c) → les r k c = les r h c := fun k c e => by unfold les; rw [e]
    rcases (show c = 0 ∨ c = 1 ∨ c = 2 by omega) with rfl | rfl | rfl
    · have F : g (50 + 3 * 0) = h (50 + 3 * 0) := gk _ (by decide)
      have F1 : g (50 + 3 * 0 + 1) = h (50 + 3 * 0 + 1) := gk _ (by decide)
      have C0 : g (1 + 1 + 1 + 0) = h (1 + 1 + 1 + 0) := gk _ (by decide)
      have O : h3 (1 + 2 + 0) = h1 (1 + 1 + 1 + 0) := by rw [a3 _ (by decide), a2 _ (by decide)]
      have K := hcaps 0 (by decide)
      rw [F, C0] at b14 b15 b16 b17
      rw [F, F1, C0] at b18
      rw [hl _ _ F, C0] at b10 b19
      refine ⟨?_, fun j j1 j4 => ?_, ?_, ?_, ?_, ?_, ?_, ?_⟩
      · rw [rC_cap (by decide), O, b10, K 0 (by decide)]
      · rw [rC_cap (by omega), O, b11 j j1 j4, C0, K j (by omega)]
      · rw [rC_cap (by decide), O, b14, K 4 (by decide)]
      · rw [rC_cap (by decide), O, b15, K 5 (by decide)]
      · rw [rC_cap (by decide), O, b16, K 6 (by decide)]
      · rw [rC_cap (by decide), O, b17, K 7 (by decide)]
      · rw [rC_cap (by decide), O, b18, K 8 (by decide)]
      · rw [rC_cap (by decide), O, b19, K 9 (by decide)]
    · have F : h1 (50 + 3 * 1) = h (50 + 3 * 1) := (a1 _ (by decide)).trans (gk _ (by decide))
      have F1 : h1 (50 + 3 * 1 + 1) = h (50 + 3 * 1 + 1) := (a1 _ (by decide)).trans (gk _ (by decide))
      have C0 : h1 (1 + 1 + 1 + 1) = h (1 + 1 + 1 + 1) := (a1 _ (by decide)).trans (gk _ (by decide))
      have O : h3 (1 + 2 + 1) = h2 (1 + 1 + 1 + 1) := by rw [a3 _ (by decide)]
      have K := hcaps 1 (by decide)
      rw [F, C0] at b24 b25 b26 b27
      rw [F, F1, C0] at b28
      rw [hl _ _ F, C0] at b20 b29
      refine ⟨?_, fun j j1 j4 => ?_, ?_, ?_, ?_, ?_, ?_, ?_⟩
      · rw [rC_cap (by decide), O, b20, K 0 (by decide)]
      · rw [rC_cap (by omega), O, b21 j j1 j4, C0, K j (by omega)]
      · rw [rC_cap (by decide), O, b24, K 4 (by decide)]
      · rw [rC_cap (by decide), O, b25, K 5 (by decide)]
      · rw [rC_cap (by decide), O, b26, K 6 (by decide)]
      · rw [rC_cap (by decide), O, b27, K 7 (by decide)]
      · rw [rC_cap (by decide), O, b28, K 8 (by decide)]
      · rw [rC_cap (by decide), O, b29, K 9 (by decide)]
    · have F : h2 (50 + 3 * 2) = h (50 + 3 * 2) := (a2 _ (by decide)).trans ((a1 _ (by decide)).trans (gk _ (by decide)))
      have F1 : h2 (50 + 3 * 2 + 1) = h (50 + 3 * 2 + 1) := (a2 _ (by decide)).trans ((a1 _ (by decide)).trans (gk _ (by decide)))
      have C0 : h2 (1 + 1 + 1 + 2) = h (1 + 1 + 1 + 2) := (a2 _ (by decide)).trans ((a1 _ (by decide)).trans (gk _ (by decide)))
      have K := hcaps 2 (by decide)
      have O : h3 (1 + 2 + 2) = h3 (1 + 1 + 1 + 2) := rfl
      rw [F, C0] at b34 b35 b36 b37
      rw [F, F1, C0] at b38
      rw [hl _ _ F, C0] at b30 b39
      refine ⟨?_, fun j j1 j4 => ?_, ?_, ?_, ?_, ?_, ?_, ?_⟩
      · rw [rC_cap (by decide), O, b30, K 0 (by decide)]
      · rw [rC_cap (by omega), O, b31 j j1 j4, C0, K j (by omega)]
      · rw [rC_cap (by decide), O, b34, K 4 (by decide)]
      · rw [rC_cap (by decide), O, b35, K 5 (by decide)]
      · rw [rC_cap (by decide), O, b36, K 6 (by decide)]
      · rw [rC_cap (by decide), O, b37, K 7 (by decide)]
      · rw [rC_cap (by decide), O, b38, K 8 (by decide)]
      · rw [rC_cap (by decide), O, b39, K 9 (by decide)]
/-- the next morning's row is a row -/
theorem VR_EV {r x : Nat → Int32} {h h0 hm0 hm : Hp} {dy : Nat} (v : VR r) (hdy : r 0 = nI dy) (h9 : dy < 9999) (G : GR r 24 h0 hm0 h hm) (e : EV r h x) : VR x := by
  obtain ⟨F, ⟨L, l1, l2, l3⟩, -⟩ := G
  obtain ⟨⟨x0, x1, x2, x3, x4, x5⟩, xc⟩ := e
  obtain ⟨⟨b, -, b2, b3⟩, r2, ⟨d, -, d2, d3⟩, r4, r5, dy', dd1, dd2, dd3⟩ := v
  have hdd : dy' = dy := (eq_iff (by omega) (by omega)).mp (dd2.symm.trans hdy)
  subst hdd
  refine ⟨⟨(b + d) % 12, Nat.zero_le _, by omega, ?_⟩, ⟨L, Nat.zero_le _, by omega, by rw [x2, l2]⟩, by rw [x3]; exact ⟨d, Nat.zero_le _, d2, d3⟩, by rw [x4]; exact r4, fun c hc => ?_, dy' + 1, by omega, by rw [x0, hdy, nI_1], fun c hc => ?_⟩
  · rw [x1]
    unfold nP
    rw [b3, d3, nI_add]
    exact pk_rem (d := 12) (by omega) (by decide) (by decide)
  · obtain ⟨y0, y1, -⟩ := xc c hc
    obtain ⟨z0, z1, z2, z3⟩ := r5 c hc
    refine ⟨?_, by rw [y1 1 (by decide) (by decide)]; exact z1, by rw [y1 2 (by decide) (by decide)]; exact z2, by rw [y1 3 (by decide) (by decide)]; exact z3⟩
    rw [y0]
    split
    · refine ⟨(b + d) % 12, Nat.zero_le _, by omega, ?_⟩
      unfold nP
      rw [b3, d3, nI_add]
      exact pk_rem (d := 12) (by omega) (by decide) (by decide)
    · exact z0
  · obtain ⟨-, -, y4, -, -, -, y8, -⟩ := xc c hc
    obtain ⟨⟨t1, -, -, ⟨n, n1, n2, -⟩, -⟩, -⟩ := F c hc
    obtain ⟨md, cn, m1, m2, m3⟩ := dd3 c hc
    have hlen := tt_len (cb r c) (cd r c) (cf r c)
    have hsub : nI (tt (cb r c) (cd r c) (cf r c)).length - nI n = nI ((tt (cb r c) (cd r c) (cf r c)).length - n) := by
      obtain ⟨k, hk⟩ : ∃ k, (tt (cb r c) (cd r c) (cf r c)).length = n + k := ⟨_, (Nat.add_sub_cancel' n1).symm⟩
      rw [hk, ← nI_add, Nat.add_sub_cancel_left]
      rw [Int32.add_comm, Int32.add_sub_cancel]
    refine ⟨md + n, cn + ((tt (cb r c) (cd r c) (cf r c)).length - n), by rw [y4, m1, n2, nI_add], by rw [y8, m2, t1.1, n2, hsub, nI_add], by omega⟩
