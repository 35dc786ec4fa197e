/-! the machine runs -/
def RD (h : Hp) (i : Nat) : Option (Int32 × Hp) := f_X0_readInto_12 31 (200 - i) h (nI i)
/-- what no reading touches -/
def FRM (h0 : Hp) (ln : Nat) (h : Hp) : Prop := h 37 1 = nI ln ∧ ∀ a, a ≠ 37 → (a < 33 ∨ 36 ≤ a) → h a = h0 a
theorem CM_FRM {h0 : Hp} {ln : Nat} {T : Nat → Int32} {k P : Nat} {h : Hp} (m : CM h0 ln T k P h) : FRM h0 ln h := ⟨m.1, m.2.2.2.2⟩
theorem RD_b {h0 : Hp} {s : Nat → Int32} {ln : Nat} {T : Nat → Int32} {k P i : Nat} {h h' : Hp} {b : Bool} (hsg : ∀ i, i < ln → h0 38 i = s i) (hl : ln ≤ 60) (m : CM h0 ln T k P h) (hi : i < ln) (e : f_X0_takes h 31 (s i) = some (b2i b, h')) : RD h i = if b = true then RD h' (i + 1) else some (nI i, h') := by
  have q : RD h i = f_X0_readInto_12 31 ((200 - (i + 1)) + 1) h (nI i) := by
    unfold RD
    rw [show 200 - i = (200 - (i + 1)) + 1 by omega]
  rw [q, run_step hsg hl m hi, e, ob_s]
  cases b
  · rw [if_neg fft]
    show (if b2i false = 0 then some (nI i, h') else _) = _
    rw [if_pos b2f]
  · rw [if_pos ttt]
    show (if b2i true = 0 then _ else f_X0_readInto_12 31 (200 - (i + 1)) h' (nI (i + 1))) = _
    rw [if_neg b2t]
    rfl
theorem RD_yes {h0 : Hp} {s : Nat → Int32} {ln : Nat} {T : Nat → Int32} {k P i : Nat} {h h' : Hp} (hsg : ∀ i, i < ln → h0 38 i = s i) (hl : ln ≤ 60) (m : CM h0 ln T k P h) (hi : i < ln) (e : f_X0_takes h 31 (s i) = some (1, h')) : RD h i = RD h' (i + 1) := by
  rw [RD_b (b := true) hsg hl m hi e, if_pos ttt]
theorem RD_no {h0 : Hp} {s : Nat → Int32} {ln : Nat} {T : Nat → Int32} {k P i : Nat} {h h' : Hp} (hsg : ∀ i, i < ln → h0 38 i = s i) (hl : ln ≤ 60) (m : CM h0 ln T k P h) (hi : i < ln) (e : f_X0_takes h 31 (s i) = some (0, h')) : RD h i = some (nI i, h') := by
  rw [RD_b (b := false) hsg hl m hi e, if_neg fft]
theorem RD_end {h0 : Hp} {ln : Nat} {T : Nat → Int32} {k P i : Nat} {h : Hp} (hl : ln ≤ 60) (m : CM h0 ln T k P h) (hi : ¬ i < ln) (hi2 : i ≤ ln) (hP : P < 5) : RD h i = some (if P = 4 then -5 else nI i, h) := by
  have q : RD h i = f_X0_readInto_12 31 ((200 - (i + 1)) + 1) h (nI i) := by
    unfold RD
    rw [show 200 - i = (200 - (i + 1)) + 1 by omega]
  rw [q, run_end hl m (by omega) (by omega) hP, show i = ln by omega]
theorem lay3_lay3 (T : Nat → Int32) (c w x y : Nat) : lay3 (lay3 T c w x) c w y = lay3 T c w y := by
  unfold lay3
  funext b
  by_cases hb : b = 6 + 10 * c + w <;> simp [upd, hb]
theorem numGo_ge {s : Nat → Int32} {ln hi : Nat} : ∀ (n v i : Nat), v ≤ (numGo s ln hi n v i).1 := by
  intro n
  induction n with
  | zero => intro v i; exact Nat.le_refl v
  | succ n ih =>
    intro v i
    rw [numGo]
    by_cases hz : v = 0
    · rw [if_pos hz]; exact Nat.le_refl v
    · rw [if_neg hz]
      by_cases hd : isD s ln i = true
      · rw [if_pos hd]
        by_cases l : hi < 10 * v + dgv s i
        · rw [if_pos l]; exact Nat.le_refl v
        · rw [if_neg l]
          have := ih (10 * v + dgv s i) (i + 1)
          omega
      · rw [if_neg hd]; exact Nat.le_refl v
theorem RD_num {h0 : Hp} {s : Nat → Int32} {ln c w k : Nat} {T : Nat → Int32} (hsg : ∀ i, i < ln → h0 38 i = s i) (hl : ln ≤ 60) (hc : c < 3) (hw : w < 4) : ∀ (n v i : Nat) (h : Hp), CM h0 ln (lay3 T c w v) k 4 h → KN h c w → h 37 6 = nI v → loW w ≤ v → v ≤ hiW w → ∃ h1, RD h i = RD h1 (numGo s ln (hiW w) n v i).2 ∧ CM h0 ln (lay3 T c w (numGo s ln (hiW w) n v i).1) k 4 h1 ∧ KN h1 c w ∧ h1 37 6 = nI (numGo s ln (hiW w) n v i).1 := by
  intro n
  induction n with
  | zero => intro v i h m kn h6 v1 v2; exact ⟨h, rfl, m, kn, h6⟩
  | succ n ih =>
    intro v i h m kn h6 v1 v2
    rw [numGo]
    by_cases hz : v = 0
    · rw [if_pos hz]; exact ⟨h, rfl, m, kn, h6⟩
    · rw [if_neg hz]
      by_cases hd : isD s ln i = true
      · rw [if_pos hd]
        by_cases l : hiW w < 10 * v + dgv s i
        · rw [if_pos l]; exact ⟨h, rfl, m, kn, h6⟩
        · rw [if_neg l]
          have hi := (isD_true hd).1
          obtain ⟨h', e, m', kn', h6'⟩ := (takes4d hc hw m kn h6 v1 v2 hi hd).2 hz (by omega)
          rw [lay3_lay3] at m'
          rw [RD_yes hsg hl m hi e]
          exact ih (10 * v + dgv s i) (i + 1) h' m' kn' h6' (by omega) (by omega)
      · rw [if_neg hd]; exact ⟨h, rfl, m, kn, h6⟩
/-- behind a number that is over -/
def S4 (s : Nat → Int32) (ln : Nat) (h : Hp) (i : Nat) : Prop := ∃ c w v, c < 3 ∧ w < 4 ∧ KN h c w ∧ h 37 6 = nI v ∧ loW w ≤ v ∧ v ≤ hiW w ∧ (isD s ln i = true → v = 0 ∨ hiW w < 10 * v + dgv s i)
theorem RD_item_no {h0 : Hp} {s : Nat → Int32} {ln c w k i : Nat} {T : Nat → Int32} {h : Hp} (hsg : ∀ i, i < ln → h0 38 i = s i) (hl : ln ≤ 60) (hc : c < 3) (hw : w < 4) (hi : i ≤ ln) (m : CM h0 ln T k 3 h) (kn : KN h c w) (e : numAt s ln (loW w) (hiW w) i = none) : ∃ h1, RD h i = some (nI i, h1) ∧ FRM h0 ln h1 := by
  by_cases l : i < ln
  · obtain ⟨h', e1, m'⟩ := (takes3 hc hw m kn l).2 (fun z => by
      unfold numAt at e
      rw [if_pos z] at e
      cases e)
    exact ⟨h', RD_no hsg hl m l e1, CM_FRM m'⟩
  · exact ⟨h, by rw [RD_end hl m l hi (by decide), if_neg (by decide)], CM_FRM m⟩
theorem RD_item_yes {h0 : Hp} {s : Nat → Int32} {ln c w k i : Nat} {T : Nat → Int32} {h : Hp} {q : Nat × Nat} (hsg : ∀ i, i < ln → h0 38 i = s i) (hl : ln ≤ 60) (hc : c < 3) (hw : w < 4) (m : CM h0 ln T k 3 h) (kn : KN h c w) (e : numAt s ln (loW w) (hiW w) i = some q) : ∃ h1, RD h i = RD h1 q.2 ∧ CM h0 ln (lay3 T c w q.1) k 4 h1 ∧ KN h1 c w ∧ S4 s ln h1 q.2 := by
  unfold numAt at e
  by_cases x : nxt s ln (nI (48 + loW w)) (nI (48 + min (hiW w) 9)) i = true
  · rw [if_pos x] at e
    cases e
    obtain ⟨d1, d2, d3, d4, d5⟩ := fst_true x (W_small (w := w)).1
    obtain ⟨h', e1, m', kn', h6'⟩ := (takes3 hc hw m kn d1).1 x
    obtain ⟨h1, r1, r2, r3, r4⟩ := RD_num (T := T) hsg hl hc hw 60 (dgv s i) (i + 1) h' m' kn' h6' d2 d3
    refine ⟨h1, by rw [RD_yes hsg hl m d1 e1, r1], r2, r3, c, w, _, hc, hw, r3, r4, ?_, ?_, ?_⟩
    · exact Nat.le_trans d2 (numGo_ge 60 (dgv s i) (i + 1))
    · exact (numGo_le 60 (dgv s i) (i + 1) d3).1
    · exact numGo_stuck 60 (dgv s i) (i + 1) (by omega)
  · rw [if_neg x] at e
    cases e
theorem RD_semi {h0 : Hp} {s : Nat → Int32} {ln k i : Nat} {T : Nat → Int32} {h : Hp} (hsg : ∀ i, i < ln → h0 38 i = s i) (hl : ln ≤ 60) (m : CM h0 ln T k 4 h) (e : isS s ln 59 i = true) : ∃ h1, RD h i = RD h1 (i + 1) ∧ CM h0 ln T k 0 h1 := by
  obtain ⟨h', e1, m'⟩ := takes4s m e
  exact ⟨h', RD_yes hsg hl m (isS_lt e) e1, m'⟩
theorem ltr_sign {s : Nat → Int32} {ln i w : Nat} (h : ltr s ln i = some w) : ¬ isS s ln 59 i = true ∧ ¬ isD s ln i = true := by
  have key : ∀ n : Nat, n < 2 ^ 31 → n ≠ 59 → 57 < n → isS s ln (nI n) i = true → ¬ isS s ln 59 i = true ∧ ¬ isD s ln i = true := by
    intro n hn h1 h2 z
    have e := isS_true z
    refine ⟨fun y => ?_, fun y => ?_⟩
    · have e2 := isS_true y
      rw [e] at e2
      exact h1 ((eq_iff (b := 59) hn (by decide)).mp e2)
    · obtain ⟨d1, d2, d3⟩ := isD_true y
      rw [e] at d3
      have := (eq_iff hn (by omega)).mp d3
      omega
  unfold ltr at h
  split at h
  · exact key 112 (by decide) (by decide) (by decide) (by assumption)
  · split at h
    · exact key 100 (by decide) (by decide) (by decide) (by assumption)
    · split at h
      · exact key 102 (by decide) (by decide) (by decide) (by assumption)
      · split at h
        · exact key 104 (by decide) (by decide) (by decide) (by assumption)
        · cases h
theorem RD_letter {h0 : Hp} {s : Nat → Int32} {ln c w w2 k i : Nat} {T : Nat → Int32} {h : Hp} (hsg : ∀ i, i < ln → h0 38 i = s i) (hl : ln ≤ 60) (m : CM h0 ln T k 4 h) (kn : KN h c w) (e : ltr s ln i = some w2) : ∃ h1, RD h i = RD h1 (i + 1) ∧ CM h0 ln T k 3 h1 ∧ KN h1 c w2 := by
  obtain ⟨l1, l2⟩ := ltr_lt e
  obtain ⟨n1, n2⟩ := ltr_sign e
  obtain ⟨h', e1, m', a4, a5⟩ := takes4l m l2 n1 n2
  rw [e] at e1
  exact ⟨h', RD_yes hsg hl m l2 e1, m', by rw [a4]; exact kn.1, a5 w2 e⟩
theorem RD_bad {h0 : Hp} {s : Nat → Int32} {ln k i : Nat} {T : Nat → Int32} {h : Hp} (hsg : ∀ i, i < ln → h0 38 i = s i) (hl : ln ≤ 60) (m : CM h0 ln T k 4 h) (st : S4 s ln h i) (hi : i < ln) (e1 : ¬ isS s ln 59 i = true) (e2 : ltr s ln i = none) : ∃ h1, RD h i = some (nI i, h1) ∧ FRM h0 ln h1 := by
  obtain ⟨c, w, v, hc, hw, kn, h6, v1, v2, stk⟩ := st
  by_cases hd : isD s ln i = true
  · obtain ⟨h', e3, m'⟩ := (takes4d hc hw m kn h6 v1 v2 hi hd).1 (stk hd)
    exact ⟨h', RD_no hsg hl m hi e3, CM_FRM m'⟩
  · obtain ⟨h', e3, m', -, -⟩ := takes4l m hi e1 hd
    rw [e2] at e3
    exact ⟨h', RD_no hsg hl m hi e3, CM_FRM m'⟩
