/-! the machine reads parts and texts -/
theorem RD_items {h0 : Hp} {s : Nat → Int32} {ln c k : Nat} (hsg : ∀ i, i < ln → h0 38 i = s i) (hl : ln ≤ 60) (hc : c < 3) : ∀ (n w i : Nat) (T : Nat → Int32) (h : Hp), ln ≤ i + n → w < 4 → i ≤ ln → CM h0 ln T k 3 h → KN h c w →
    ((items s ln c n w i T).1 = true → ∃ h1, RD h i = RD h1 (items s ln c n w i T).2.1 ∧ CM h0 ln (items s ln c n w i T).2.2 k 4 h1 ∧ S4 s ln h1 (items s ln c n w i T).2.1 ∧ ltr s ln (items s ln c n w i T).2.1 = none) ∧
    (¬ (items s ln c n w i T).1 = true → ∃ h1, RD h i = some (nI (items s ln c n w i T).2.1, h1) ∧ FRM h0 ln h1) := by
  intro n
  induction n with
  | zero =>
    intro w i T h h1 hw h2 m kn
    refine ⟨fun z => absurd z fft, fun _ => ⟨h, ?_, CM_FRM m⟩⟩
    rw [RD_end hl m (by omega) h2 (by decide), if_neg (by decide)]
    rfl
  | succ n ih =>
    intro w i T h h1 hw h2 m kn
    rw [items]
    cases hq : numAt s ln (loW w) (hiW w) i with
    | none => exact ⟨fun z => absurd z fft, fun _ => RD_item_no hsg hl hc hw h2 m kn hq⟩
    | some q =>
      obtain ⟨q1, q2, q3, q4⟩ := numAt_lt (W_small (w := w)).1 hq
      obtain ⟨h3, r1, r2, r3, r4⟩ := RD_item_yes (T := T) hsg hl hc hw m kn hq
      simp only []
      cases hlt : ltr s ln q.2 with
      | none => exact ⟨fun _ => ⟨h3, r1, r2, r4, hlt⟩, fun z => absurd ttt z⟩
      | some w2 =>
        obtain ⟨l1, l2⟩ := ltr_lt hlt
        obtain ⟨h4, u1, u2, u3⟩ := RD_letter hsg hl r2 r3 hlt
        rw [r1, u1]
        exact ih w2 (q.2 + 1) (lay3 T c w q.1) h4 (by omega) l1 (by omega) u2 u3
theorem RD_part {h0 : Hp} {s : Nat → Int32} {ln k i : Nat} {T : Nat → Int32} {h : Hp} (hsg : ∀ i, i < ln → h0 38 i = s i) (hl : ln ≤ 60) (hi : i ≤ ln) (m : CM h0 ln T k 0 h) :
    ((part s ln i T).1 = true → ∃ h1, RD h i = RD h1 (part s ln i T).2.1 ∧ CM h0 ln (part s ln i T).2.2 (k + 1) 4 h1 ∧ S4 s ln h1 (part s ln i T).2.1 ∧ ltr s ln (part s ln i T).2.1 = none) ∧
    (¬ (part s ln i T).1 = true → ∃ h1, RD h i = some (nI (part s ln i T).2.1, h1) ∧ FRM h0 ln h1) := by
  have no : ∀ {j : Nat} {x : Bool × Nat × (Nat → Int32)}, x = (false, j, T) → (∃ h1, RD h i = some (nI j, h1) ∧ FRM h0 ln h1) → ((x.1 = true → ∃ h1, RD h i = RD h1 x.2.1 ∧ CM h0 ln x.2.2 (k + 1) 4 h1 ∧ S4 s ln h1 x.2.1 ∧ ltr s ln x.2.1 = none) ∧ (¬ x.1 = true → ∃ h1, RD h i = some (nI x.2.1, h1) ∧ FRM h0 ln h1)) := by
    intro j x e y
    subst e
    exact ⟨fun z => absurd z fft, fun _ => y⟩
  by_cases l : i < ln
  · obtain ⟨h1, e1, m1, a1⟩ := takes0 m l
    by_cases ok : isD s ln i = true ∧ dgv s i < 3
    · rw [ok.1, decide_eq_true ok.2] at e1
      have s1 := RD_yes hsg hl m l e1
      have b4 := a1 ok.1
      have hn : numAt s ln 0 2 i = some (dgv s i, i + 1) := by rw [num02, if_pos ok]
      by_cases l1 : i + 1 < ln
      · obtain ⟨h2, e2, m2, a2⟩ := takes1 m1 l1
        by_cases c1 : isS s ln 58 (i + 1) = true
        · rw [c1] at e2
          have s2 := RD_yes hsg hl m1 l1 e2
          by_cases l2 : i + 1 + 1 < ln
          · obtain ⟨h3, e3, m3, a3, a5⟩ := takes2 m2 l2
            cases hlt : ltr s ln (i + 1 + 1) with
            | none =>
              rw [hlt] at e3
              refine no (j := i + 1 + 1) ?_ ⟨h3, by rw [s1, s2]; exact RD_no hsg hl m2 l2 e3, CM_FRM m3⟩
              unfold part
              rw [hn]
              simp only []
              rw [if_pos c1, hlt]
            | some w =>
              obtain ⟨w1, w2⟩ := ltr_lt hlt
              rw [hlt] at e3
              have s3 := RD_yes hsg hl m2 l2 e3
              have hp : part s ln i T = items s ln (dgv s i) 60 w (i + 1 + 2) T := by
                unfold part
                rw [hn]
                simp only []
                rw [if_pos c1, hlt]
              have kn : KN h3 (dgv s i) w := ⟨by rw [a3, a2]; exact b4, a5 w hlt⟩
              rw [hp, s1, s2, s3]
              exact RD_items hsg hl ok.2 60 w (i + 1 + 2) T h3 (by omega) w1 (by omega) m3 kn
          · refine no (j := i + 1 + 1) ?_ ⟨h2, by rw [s1, s2, RD_end hl m2 l2 (by omega) (by decide), if_neg (by decide)], CM_FRM m2⟩
            unfold part
            rw [hn]
            simp only []
            rw [if_pos c1]
            cases hlt : ltr s ln (i + 1 + 1) with
            | none => rfl
            | some w => exact absurd (ltr_lt hlt).2 l2
        · rw [show isS s ln 58 (i + 1) = false by simpa using c1] at e2
          refine no (j := i + 1) ?_ ⟨h2, by rw [s1]; exact RD_no hsg hl m1 l1 e2, CM_FRM m2⟩
          unfold part
          rw [hn]
          simp only []
          rw [if_neg c1]
      · refine no (j := i + 1) ?_ ⟨h1, by rw [s1, RD_end hl m1 l1 (by omega) (by decide), if_neg (by decide)], CM_FRM m1⟩
        unfold part
        rw [hn]
        simp only []
        rw [if_neg (fun z => l1 (isS_lt z))]
    · have hb : (isD s ln i && decide (dgv s i < 3)) = false := by
        cases hd : isD s ln i
        · rfl
        · rw [decide_eq_false (fun z => ok ⟨hd, z⟩)]
          rfl
      rw [hb] at e1
      refine no (j := i) ?_ ⟨h1, RD_no hsg hl m l e1, CM_FRM m1⟩
      unfold part
      rw [num02, if_neg ok]
  · refine no (j := i) ?_ ⟨h, by rw [RD_end hl m l hi (by decide), if_neg (by decide)], CM_FRM m⟩
    unfold part
    rw [num02, if_neg (fun z => l (isD_true z.1).1)]
/-- what the class answers, and what it leaves -/
def READS (h0 : Hp) (ln : Nat) (x : Nat ⊕ (Nat × (Nat → Int32))) (r : Int32) (h : Hp) : Prop := match x with
  | .inl j => j ≤ ln ∧ r = nI j
  | .inr q => r = -5 ∧ CM h0 ln q.2 q.1 4 h
theorem RD_all {h0 : Hp} {s : Nat → Int32} {ln : Nat} (hsg : ∀ i, i < ln → h0 38 i = s i) (hl : ln ≤ 60) : ∀ (n k i : Nat) (T : Nat → Int32) (h : Hp), ln + 1 ≤ i + n → i ≤ ln → CM h0 ln T k 0 h → ∃ r h1, RD h i = some (r, h1) ∧ FRM h0 ln h1 ∧ READS h0 ln (allT s ln n k i T) r h1 := by
  intro n
  induction n with
  | zero => intro k i T h h1 h2; omega
  | succ n ih =>
    intro k i T h h1 h2 m
    obtain ⟨p1, p2, p3⟩ := @part_le s ln i T h2
    obtain ⟨y, no⟩ := RD_part (T := T) hsg hl h2 m
    rw [allT]
    by_cases ok : (part s ln i T).1 = true
    · obtain ⟨h3, r1, r2, r3, r4⟩ := y ok
      have p4 := p3 ok
      rw [if_pos ok, r1]
      by_cases c : isS s ln 59 (part s ln i T).2.1 = true
      · rw [if_pos c]
        obtain ⟨h4, u1, u2⟩ := RD_semi hsg hl r2 c
        rw [u1]
        have := isS_lt c
        exact ih (k + 1) _ _ h4 (by omega) (by omega) u2
      · rw [if_neg c]
        by_cases l : ln ≤ (part s ln i T).2.1
        · rw [if_pos l]
          exact ⟨-5, h3, by rw [RD_end hl r2 (by omega) p2 (by decide), if_pos rfl], CM_FRM r2, rfl, r2⟩
        · rw [if_neg l]
          obtain ⟨h4, u1, u2⟩ := RD_bad hsg hl r2 r3 (by omega) c r4
          exact ⟨_, h4, u1, u2, by omega, rfl⟩
    · rw [if_neg ok]
      obtain ⟨h3, u1, u2⟩ := no ok
      exact ⟨_, h3, u1, u2, p2, rfl⟩
theorem C_read {h : Hp} {s : Nat → Int32} {ln : Nat} {T : Nat → Int32} (hl : ln ≤ 60) (h1 : h 37 1 = nI ln) (hsg : ∀ i, i < ln → h 38 i = s i) (hT : ∀ c, c < 3 → ∀ j, j < 10 → h (31 + 1 + 1 + c) j = T (6 + 10 * c + j)) : ∃ r h', f_X0_readInto h 31 = some (r, h') ∧ FRM h ln h' ∧ READS h ln (allT s ln 61 0 0 T) r h' := by
  have m : CM h ln T 0 0 (hs (hs h 37 3 (0 : Int32)) 37 2 (0 : Int32)) := by
    refine ⟨by rw [hs_j (by decide), hs_j (by decide)]; exact h1, hs_at _ _ _ _, by rw [hs_j (by decide)]; exact hs_at _ _ _ _, fun c hc j hj => by rw [hs_k (by omega), hs_k (by omega)]; exact hT c hc j hj, fun a ha _ => by rw [hs_r ha, hs_r ha]⟩
  exact RD_all hsg hl 61 0 0 T _ (by omega) (Nat.zero_le ln) m
/-! what the laid rows keep -/
theorem items_P {s : Nat → Int32} {ln c : Nat} (hc : c < 3) {P : (Nat → Int32) → Prop} (hP : ∀ (T : Nat → Int32) (c w v : Nat), c < 3 → w < 4 → loW w ≤ v → v ≤ hiW w → P T → P (lay3 T c w v)) : ∀ (n w i : Nat) (T : Nat → Int32), w < 4 → P T → P (items s ln c n w i T).2.2 := by
  intro n
  induction n with
  | zero => intro w i T hw h; exact h
  | succ n ih =>
    intro w i T hw h
    rw [items]
    cases hq : numAt s ln (loW w) (hiW w) i with
    | none => exact h
    | some q =>
      obtain ⟨q1, q2, q3, q4⟩ := numAt_lt (W_small (w := w)).1 hq
      have q5 : loW w ≤ q.1 := by
        unfold numAt at hq
        by_cases x : nxt s ln (nI (48 + loW w)) (nI (48 + min (hiW w) 9)) i = true
        · rw [if_pos x] at hq
          cases hq
          obtain ⟨d1, d2, d3, d4, d5⟩ := fst_true x (W_small (w := w)).1
          exact Nat.le_trans d2 (numGo_ge 60 (dgv s i) (i + 1))
        · rw [if_neg x] at hq
          cases hq
      have hx := hP T c w q.1 hc hw q5 q2 h
      simp only []
      cases hlt : ltr s ln q.2 with
      | none => exact hx
      | some w2 => exact ih w2 (q.2 + 1) _ (ltr_lt hlt).1 hx
theorem part_P {s : Nat → Int32} {ln : Nat} {P : (Nat → Int32) → Prop} (hP : ∀ (T : Nat → Int32) (c w v : Nat), c < 3 → w < 4 → loW w ≤ v → v ≤ hiW w → P T → P (lay3 T c w v)) {i : Nat} {T : Nat → Int32} (h : P T) : P (part s ln i T).2.2 := by
  unfold part
  cases hq : numAt s ln 0 2 i with
  | none => exact h
  | some q =>
    obtain ⟨q1, q2, q3, q4⟩ := numAt_lt (by decide) hq
    simp only []
    by_cases e : isS s ln 58 q.2 = true
    · rw [if_pos e]
      cases hlt : ltr s ln (q.2 + 1) with
      | none => exact h
      | some w => exact items_P (by omega) hP 60 w (q.2 + 2) T (ltr_lt hlt).1 h
    · rw [if_neg e]; exact h
theorem allT_P {s : Nat → Int32} {ln : Nat} {P : (Nat → Int32) → Prop} (hP : ∀ (T : Nat → Int32) (c w v : Nat), c < 3 → w < 4 → loW w ≤ v → v ≤ hiW w → P T → P (lay3 T c w v)) : ∀ (n k i : Nat) (T T' : Nat → Int32) (K : Nat), P T → allT s ln n k i T = .inr (K, T') → P T' := by
  intro n
  induction n with
  | zero => intro k i T T' K _ h; cases h
  | succ n ih =>
    intro k i T T' K hT h
    rw [allT] at h
    have hp := @part_P s ln P hP i T hT
    split at h
    · split at h
      · exact ih _ _ _ _ _ hp h
      · split at h
        · cases h
          exact hp
        · cases h
    · cases h
