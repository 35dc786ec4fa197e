/-! an hour, on both sides -/
theorem hwn_6 (h : Hp) (k : Nat) (a b : Bool) : hwn h k a b k 6 = b2i (a && b) := by cases a <;> cases b <;> simp [hwn, hs, b2i]
theorem hwn_8 (h : Hp) (k : Nat) (a b : Bool) : hwn h k a b k 8 = h k 8 + b2i (a && !b) := by cases a <;> cases b <;> simp [hwn, hs, b2i]
theorem hwn_o (h : Hp) (k : Nat) (a b : Bool) {j : Nat} (h6 : j ≠ 6) (h8 : j ≠ 8) : hwn h k a b k j = h k j := by cases a <;> cases b <;> simp [hwn, hs, h6, h8]
theorem hwn_k (h : Hp) (k : Nat) (a b : Bool) {x : Nat} (hx : x ≠ k) : hwn h k a b x = h x := by
  funext j
  cases a <;> cases b <;> simp [hwn, hs, hx]
theorem mB_5 (hm : Hp) (c : Nat) (g : Bool) : mB hm c g 1 (6 + 10 * c + 5) = hm 1 (6 + 10 * c + 5) + b2i g := by cases g <;> simp [mB, hs, b2i]
theorem mB_11 (hm : Hp) (c : Nat) (g : Bool) : mB hm c g 11 c = hm 11 c + b2i g := by cases g <;> simp [mB, hs, b2i]
theorem mB_1 (hm : Hp) (c : Nat) (g : Bool) {j : Nat} (hj : j ≠ 6 + 10 * c + 5) : mB hm c g 1 j = hm 1 j := by cases g <;> simp [mB, hs, hj]
theorem mB_11o (hm : Hp) (c : Nat) (g : Bool) {j : Nat} (hj : j ≠ c) : mB hm c g 11 j = hm 11 j := by cases g <;> simp [mB, hs, hj]
theorem mB_k (hm : Hp) (c : Nat) (g : Bool) {x : Nat} (h1 : x ≠ 1) (h11 : x ≠ 11) : mB hm c g x = hm x := by
  funext j
  cases g <;> simp [mB, hs, h1, h11]
def BG (r : Nat → Int32) (c t bt : Nat) (h hm : Hp) : Prop := ∃ (w p ar : Bool) (h1 hm1 : Hp), f_X3_beginHour h (50 + 3 * c) (nI t) (nI (lvl bt t)) = some h1 ∧ (∀ a, a ≠ 50 + 3 * c → h1 a = h a) ∧ (∀ N x2 x3 x4, f_X8_goOn_10 (N + 1) hm (nI t) x2 x3 x4 (nI c) = f_X8_goOn_10 N hm1 (nI t) (orI (w && !p) c x2) (orI (w && p) c x3) (arO ar p x4) (nI (c + 1))) ∧ (∀ a, a ≠ 1 → a ≠ 11 → hm1 a = hm a) ∧ (∀ j, j ≠ c → hm1 11 j = hm 11 j) ∧ (∀ j, j ≠ 6 + 10 * c + 5 → hm1 1 j = hm 1 j) ∧ MR r c t h1 hm1 w p ar
theorem b2i_n (b : Bool) : ∃ n : Nat, n ≤ 1 ∧ b2i b = nI n := by
  cases b
  · exact ⟨0, by decide, by decide⟩
  · exact ⟨1, by decide, by decide⟩
theorem begin_core {r : Nat → Int32} {c t bt : Nat} {h hm ha : Hp} {sea ar p q : Bool} (hc : c < 3) (ht : t < 24) (v : VR r) (hbt : bt < 12) (hph : hm 1 1 = nI bt) (f1 : FX r c h hm) (f2 : GX c t h hm)
    (hb : f_X3_beginHour h (50 + 3 * c) (nI t) (nI (lvl bt t)) = f_X3_beginHour_50 (50 + 3 * c) ha (nI t) (nI (lvl bt t)))
    (a2 : ha (50 + 3 * c) 2 = b2i p) (a3 : ha (50 + 3 * c) 3 = b2i sea) (a5 : ha (50 + 3 * c) 5 = b2i ar) (ao : ∀ j, j ≠ 2 → j ≠ 3 → j ≠ 5 → ha (50 + 3 * c) j = h (50 + 3 * c) j) (ac : ∀ a, a ≠ 50 + 3 * c → ha a = h a)
    (hs9 : nI t < hm 9 c ↔ sea = true) (ha9 : hm 9 c = nI t ↔ ar = true) (h8 : hm 8 c = b2i q) (hq : sea = false → q = p) (hsa : sea = true → ar = false)
    (pos : sea = true → ∃ dep : Nat, dep ≤ 21 ∧ dep ≤ t ∧ t < dep + 2 ∧ h (50 + 3 * c) 4 = nI dep ∧ hm 8 c = b2i (!p) ∧ hm 9 c = nI (dep + 2)) (pos2 : sea = false → (hm 9 c = -1 ∨ ∃ a : Nat, a ≤ t ∧ hm 9 c = nI a)) : BG r c t bt h hm := by
  have hdd := VR_d v hc
  have hd := hdd.2.2
  obtain ⟨fa, fb, fc, ⟨n, n1, n2, n3⟩, ⟨e4, e5, e6, e7⟩, f6⟩ := f1
  obtain ⟨g, g1, g2, g3⟩ := f2
  have hlen := tt_len (cb r c) (cd r c) (cf r c)
  have hC := C_50 (h := ha) (k := 50 + 3 * c) (n := n) (v := nI (ch r c)) (sea := sea) ht hd (@lvl_le bt t) (by rw [ao 1 (by decide) (by decide) (by decide)]; exact fc) a3 (by rw [ao 7 (by decide) (by decide) (by decide)]; exact n2) n1 (tt_at_keep fa (ac _ (by omega)) (ac _ (by omega)))
  have h1d : hm 1 (6 + 10 * c + 1) = nI (cd r c) := (f6 1 (by decide) (by decide)).trans hdd.1
  refine ⟨wn0 sea t n (tt (cb r c) (cd r c) (cf r c)) && decide (cd r c ≤ lvl bt t), p, ar, hwn ha (50 + 3 * c) (wn0 sea t n (tt (cb r c) (cd r c) (cf r c))) (decide (cd r c ≤ lvl bt t)), mB hm c (wn0 sea t n (tt (cb r c) (cd r c) (cf r c)) && !decide (cd r c ≤ lvl bt t)), hb.trans hC, fun a ha' => by rw [hwn_k _ _ _ _ ha', ac a ha'], ?_, fun a x1 x11 => mB_k _ _ _ x1 x11, fun j hj => mB_11o _ _ _ hj, fun j hj => mB_1 _ _ _ hj, ?_⟩
  · intro N x2 x3 x4
    rw [M_begin hc ht hbt hd hs9 ha9 h8 n3 n1 fb hph h1d]
    cases sea
    · rw [hq rfl]
    · rw [hsa rfl]
      simp only [wn0, Bool.not_true, Bool.false_and]
      rfl
  · refine ⟨⟨tt_at_keep fa (by rw [hwn_k _ _ _ _ (by omega), ac _ (by omega)]) (by rw [hwn_k _ _ _ _ (by omega), ac _ (by omega)]), ?_, by rw [hwn_o _ _ _ _ (by decide) (by decide), ao 1 (by decide) (by decide) (by decide)]; exact fc, ⟨n, n1, by rw [hwn_o _ _ _ _ (by decide) (by decide), ao 7 (by decide) (by decide) (by decide)]; exact n2, by rw [mB_k _ _ _ (by decide) (by decide)]; exact n3⟩, ⟨?_, ?_, ?_, ?_⟩, fun j hj hj2 => by rw [mB_1 _ _ _ (by omega)]; exact f6 j hj hj2⟩, ?_, ⟨hwn_6 _ _ _ _, by rw [hwn_o _ _ _ _ (by decide) (by decide)]; exact a2, by rw [hwn_o _ _ _ _ (by decide) (by decide)]; exact a5⟩, ?_, ?_⟩
    · unfold ttAtM
      rw [mB_k _ _ _ (by decide) (by decide), mB_k _ _ _ (by decide) (by decide)]
      exact fb
    · rw [mB_1 _ _ _ (by omega), hwn_o _ _ _ _ (by decide) (by decide), ao 7 (by decide) (by decide) (by decide)]; exact e4
    · rw [mB_5, hwn_8, ao 8 (by decide) (by decide) (by decide), e5, Int32.add_assoc]
    · rw [mB_1 _ _ _ (by omega), hwn_o _ _ _ _ (by decide) (by decide), ao 9 (by decide) (by decide) (by decide)]; exact e6
    · rw [mB_1 _ _ _ (by omega), hwn_o _ _ _ _ (by decide) (by decide), ao 10 (by decide) (by decide) (by decide)]; exact e7
    · obtain ⟨x, x1, x2⟩ := b2i_n (wn0 sea t n (tt (cb r c) (cd r c) (cf r c)) && !decide (cd r c ≤ lvl bt t))
      exact ⟨g + x, by omega, by rw [hwn_8, ao 8 (by decide) (by decide) (by decide), g2, x2, nI_add], by rw [mB_11, g3, x2, nI_add]⟩
    · intro hw
      have hw0 : wn0 sea t n (tt (cb r c) (cd r c) (cf r c)) = true := by
        cases h0 : wn0 sea t n (tt (cb r c) (cd r c) (cf r c))
        · rw [h0] at hw; simp at hw
        · rfl
      unfold wn0 at hw0
      simp only [Bool.and_eq_true, decide_eq_true_eq, Bool.not_eq_true'] at hw0
      obtain ⟨⟨⟨y1, y2⟩, y3⟩, y4⟩ := hw0
      subst y1
      exact ⟨y2, by rw [hwn_o _ _ _ _ (by decide) (by decide)]; exact a3, n, y3, by rw [hwn_o _ _ _ _ (by decide) (by decide), ao 7 (by decide) (by decide) (by decide)]; exact n2⟩
    · rw [hwn_o _ _ _ _ (by decide) (by decide), hwn_o _ _ _ _ (by decide) (by decide), ao 4 (by decide) (by decide) (by decide), a3, mB_k _ _ _ (by decide) (by decide), mB_k _ _ _ (by decide) (by decide)]
      cases sea
      · refine Or.inr ⟨rfl, ?_, pos2 rfl⟩
        rw [h8, hq rfl]
      · exact Or.inl ⟨rfl, pos rfl⟩
theorem FR_begin {r : Nat → Int32} {c t bt : Nat} {h hm : Hp} (hc : c < 3) (ht : t < 24) (v : VR r) (hbt : bt < 12) (hph : hm 1 1 = nI bt) (f : FR r c t h hm) : BG r c t bt h hm := by
  obtain ⟨f1, f2, f3⟩ := f
  rcases f3 with ⟨p, dep, d1, d2, d3, k3, k2, k4, m8, m9⟩ | ⟨p, k3, k2, m8, m9⟩
  · have hb := C_begin_sea (lv := lvl bt t) ht d1 k3 k4 k2
    by_cases e : t = dep + 2
    · refine begin_core (ha := arH h (50 + 3 * c) (decide (t = dep + 2)) (!p)) (sea := false) (ar := true) (p := !p) (q := !p) hc ht v hbt hph f1 f2 hb ?_ ?_ ?_ ?_ ?_ ?_ ?_ m8 (fun _ => rfl) (fun z => by cases z) (fun z => by cases z) (fun _ => Or.inr ⟨dep + 2, by omega, m9⟩)
      · rw [decide_eq_true e]; simp [arH, hs]
      · rw [decide_eq_true e]; simp [arH, hs, b2i]
      · rw [decide_eq_true e]; simp [arH, hs, b2i]
      · intro j h2 h3 h5
        rw [decide_eq_true e]; simp [arH, hs, h2, h3, h5]
      · intro a ha
        funext j
        rw [decide_eq_true e]; simp [arH, hs, ha]
      · rw [m9]
        exact ⟨fun z => by have := (lt_iff (by omega) (by omega)).mp z; omega, fun z => by cases z⟩
      · rw [m9]
        exact ⟨fun _ => rfl, fun _ => by rw [e]⟩
    · refine begin_core (ha := arH h (50 + 3 * c) (decide (t = dep + 2)) (!p)) (sea := true) (ar := false) (p := p) (q := !p) hc ht v hbt hph f1 f2 hb ?_ ?_ ?_ ?_ ?_ ?_ ?_ m8 (fun z => by cases z) (fun _ => rfl) (fun _ => ⟨dep, d1, by omega, by omega, k4, m8, m9⟩) (fun z => by cases z)
      · rw [decide_eq_false e]; simp [arH, hs, k2]
      · rw [decide_eq_false e]; simp [arH, hs, b2i, k3]
      · rw [decide_eq_false e]; simp [arH, hs, b2i]
      · intro j h2 h3 h5
        rw [decide_eq_false e]; simp [arH, hs, h5]
      · intro a ha
        funext j
        rw [decide_eq_false e]; simp [arH, hs, ha]
      · rw [m9]
        exact ⟨fun _ => rfl, fun _ => (lt_iff (by omega) (by omega)).mpr (by omega)⟩
      · rw [m9]
        exact ⟨fun z => by have := (eq_iff (by omega) (by omega)).mp z; omega, fun z => by cases z⟩
  · have hb := C_begin_port (t := t) (lv := lvl bt t) k3
    refine begin_core (ha := arH h (50 + 3 * c) false false) (sea := false) (ar := false) (p := p) (q := p) hc ht v hbt hph f1 f2 hb ?_ ?_ ?_ ?_ ?_ ?_ ?_ m8 (fun _ => rfl) (fun z => by cases z) (fun z => by cases z) (fun _ => ?_)
    · simp [arH, hs, k2]
    · simp [arH, hs, b2i, k3]
    · simp [arH, hs, b2i]
    · intro j h2 h3 h5
      simp [arH, hs, h5]
    · intro a ha
      funext j
      simp [arH, hs, ha]
    · refine ⟨fun z => ?_, fun z => by cases z⟩
      rcases m9 with m9 | ⟨a, a1, m9⟩
      · rw [m9] at z
        exact absurd (Int32.lt_trans z (by decide : (-1 : Int32) < 0)) (nI_pos (by omega))
      · rw [m9] at z
        have := (lt_iff (by omega) (by omega)).mp z
        omega
    · refine ⟨fun z => ?_, fun z => by cases z⟩
      rcases m9 with m9 | ⟨a, a1, m9⟩
      · rw [m9] at z
        have := nI_pos (show t < 2 ^ 31 by omega)
        rw [← z] at this
        exact absurd (by decide) this
      · rw [m9] at z
        have := (eq_iff (by omega) (by omega)).mp z
        omega
    · rcases m9 with m9 | ⟨a, a1, m9⟩
      · exact Or.inl m9
      · exact Or.inr ⟨a, by omega, m9⟩
