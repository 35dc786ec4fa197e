/-! the two sides amid a day -/
def FX (r : Nat → Int32) (c : Nat) (h hm : Hp) : Prop := ttAt h (50 + 3 * c + 1) (cb r c) (cd r c) (cf r c) (nI (ch r c)) ∧ ttAtM hm c (cb r c) (cd r c) (cf r c) ∧ h (50 + 3 * c) 1 = nI (cd r c) ∧ (∃ n : Nat, n ≤ (tt (cb r c) (cd r c) (cf r c)).length ∧ h (50 + 3 * c) 7 = nI n ∧ hm 10 c = nI n) ∧
  (hm 1 (6 + 10 * c + 4) = r (6 + 10 * c + 4) + h (50 + 3 * c) 7 ∧ hm 1 (6 + 10 * c + 5) = r (6 + 10 * c + 5) + h (50 + 3 * c) 8 ∧ hm 1 (6 + 10 * c + 6) = r (6 + 10 * c + 6) + h (50 + 3 * c) 9 ∧ hm 1 (6 + 10 * c + 7) = r (6 + 10 * c + 7) + h (50 + 3 * c) 10) ∧ ∀ j, j < 10 → (j < 4 ∨ 8 ≤ j) → hm 1 (6 + 10 * c + j) = r (6 + 10 * c + j)
def GX (c t : Nat) (h hm : Hp) : Prop := ∃ g : Nat, g ≤ t ∧ h (50 + 3 * c) 8 = nI g ∧ hm 11 c = nI g
def FR (r : Nat → Int32) (c t : Nat) (h hm : Hp) : Prop := FX r c h hm ∧ GX c t h hm ∧
  ((∃ (p : Bool) (dep : Nat), dep ≤ 21 ∧ dep < t ∧ t ≤ dep + 2 ∧ h (50 + 3 * c) 3 = 1 ∧ h (50 + 3 * c) 2 = b2i p ∧ h (50 + 3 * c) 4 = nI dep ∧ hm 8 c = b2i (!p) ∧ hm 9 c = nI (dep + 2)) ∨
   (∃ p : Bool, h (50 + 3 * c) 3 = 0 ∧ h (50 + 3 * c) 2 = b2i p ∧ hm 8 c = b2i p ∧ (hm 9 c = -1 ∨ ∃ a : Nat, a < t ∧ hm 9 c = nI a)))
def MR (r : Nat → Int32) (c t : Nat) (h hm : Hp) (w p ar : Bool) : Prop := FX r c h hm ∧ GX c (t + 1) h hm ∧ (h (50 + 3 * c) 6 = b2i w ∧ h (50 + 3 * c) 2 = b2i p ∧ h (50 + 3 * c) 5 = b2i ar) ∧ (w = true → t ≤ 21 ∧ h (50 + 3 * c) 3 = 0 ∧ ∃ n : Nat, n < (tt (cb r c) (cd r c) (cf r c)).length ∧ h (50 + 3 * c) 7 = nI n) ∧
  ((h (50 + 3 * c) 3 = 1 ∧ ∃ dep : Nat, dep ≤ 21 ∧ dep ≤ t ∧ t < dep + 2 ∧ h (50 + 3 * c) 4 = nI dep ∧ hm 8 c = b2i (!p) ∧ hm 9 c = nI (dep + 2)) ∨
   (h (50 + 3 * c) 3 = 0 ∧ hm 8 c = b2i p ∧ (hm 9 c = -1 ∨ ∃ a : Nat, a ≤ t ∧ hm 9 c = nI a)))
/-- what the captain c's ferry is made of stays -/
def FV (c : Nat) (h h' hm hm' : Hp) : Prop := (h' (50 + 3 * c) = h (50 + 3 * c) ∧ h' (50 + 3 * c + 1) = h (50 + 3 * c + 1) ∧ h' (50 + 3 * c + 1 + 1) = h (50 + 3 * c + 1 + 1)) ∧ (hm' 6 = hm 6 ∧ hm' 7 = hm 7) ∧ (hm' 8 c = hm 8 c ∧ hm' 9 c = hm 9 c ∧ hm' 10 c = hm 10 c ∧ hm' 11 c = hm 11 c) ∧ ∀ j, j < 10 → hm' 1 (6 + 10 * c + j) = hm 1 (6 + 10 * c + j)
theorem FX_frame {r : Nat → Int32} {c : Nat} {h h' hm hm' : Hp} (v : FV c h h' hm hm') (f : FX r c h hm) : FX r c h' hm' := by
  obtain ⟨⟨v0, v1, v2⟩, ⟨v6, v7⟩, ⟨-, -, v10, -⟩, vr⟩ := v
  obtain ⟨f1, f2, f3, ⟨n, n1, n2, n3⟩, ⟨q4, q5, q6, q7⟩, f6⟩ := f
  refine ⟨tt_at_keep f1 v1 v2, ?_, by rw [v0]; exact f3, ⟨n, n1, by rw [v0]; exact n2, by rw [v10]; exact n3⟩, ⟨?_, ?_, ?_, ?_⟩, fun j hj hj2 => by rw [vr j hj]; exact f6 j hj hj2⟩
  · unfold ttAtM
    rw [v6, v7]
    exact f2
  · rw [vr 4 (by decide), v0]; exact q4
  · rw [vr 5 (by decide), v0]; exact q5
  · rw [vr 6 (by decide), v0]; exact q6
  · rw [vr 7 (by decide), v0]; exact q7
theorem FR_frame {r : Nat → Int32} {c t : Nat} {h h' hm hm' : Hp} (v : FV c h h' hm hm') (f : FR r c t h hm) : FR r c t h' hm' := by
  have v' := v
  obtain ⟨⟨v0, v1, v2⟩, ⟨v6, v7⟩, ⟨v8, v9, v10, v11⟩, vr⟩ := v
  obtain ⟨f1, f2, f3⟩ := f
  refine ⟨FX_frame v' f1, ?_, ?_⟩
  · unfold GX
    rw [v0, v11]
    exact f2
  · rw [v0, v8, v9]
    exact f3
theorem MR_frame {r : Nat → Int32} {c t : Nat} {h h' hm hm' : Hp} {w p ar : Bool} (v : FV c h h' hm hm') (f : MR r c t h hm w p ar) : MR r c t h' hm' w p ar := by
  have v' := v
  obtain ⟨⟨v0, v1, v2⟩, ⟨v6, v7⟩, ⟨v8, v9, v10, v11⟩, vr⟩ := v
  obtain ⟨f1, f2, f3, f4, f5⟩ := f
  refine ⟨FX_frame v' f1, ?_, ?_, ?_, ?_⟩
  · unfold GX
    rw [v0, v11]
    exact f2
  · rw [v0]
    exact f3
  · rw [v0]
    exact f4
  · rw [v0, v8, v9]
    exact f5
/-- the hour ends -/
theorem MR_end {r : Nat → Int32} {c t : Nat} {h hm : Hp} {w p ar : Bool} (f : MR r c t h hm w p ar) : FR r c (t + 1) h hm := by
  obtain ⟨f1, f2, ⟨-, f3, -⟩, -, f5⟩ := f
  refine ⟨f1, f2, ?_⟩
  rcases f5 with ⟨a1, dep, a2, a3, a4, a5, a6, a7⟩ | ⟨a1, a2, a3⟩
  · exact Or.inl ⟨p, dep, a2, by omega, by omega, a1, f3, a5, a6, a7⟩
  · refine Or.inr ⟨p, a1, f3, a2, ?_⟩
    rcases a3 with a | ⟨a, h1, h2⟩
    · exact Or.inl a
    · exact Or.inr ⟨a, by omega, h2⟩
/-- a ferry stays -/
theorem MR_stay {r : Nat → Int32} {c t : Nat} {h hm : Hp} {w p ar cr : Bool} (f : MR r c t h hm w p ar) : MR r c t (stayH h (50 + 3 * c) cr) (stayM hm c cr) w p ar := by
  have q9 : stayH h (50 + 3 * c) cr (50 + 3 * c) 9 = h (50 + 3 * c) 9 + 1 := by cases cr <;> simp [stayH, hs]
  have q10 : stayH h (50 + 3 * c) cr (50 + 3 * c) 10 = h (50 + 3 * c) 10 + b2i cr := by cases cr <;> simp [stayH, hs, b2i]
  have qo : ∀ j, j ≠ 9 → j ≠ 10 → stayH h (50 + 3 * c) cr (50 + 3 * c) j = h (50 + 3 * c) j := by
    intro j h9 h10
    cases cr <;> simp [stayH, hs, h9, h10]
  have qc : ∀ a, a ≠ 50 + 3 * c → stayH h (50 + 3 * c) cr a = h a := by
    intro a ha
    funext j
    cases cr <;> simp [stayH, hs, ha]
  have m6 : stayM hm c cr 1 (6 + 10 * c + 6) = hm 1 (6 + 10 * c + 6) + 1 := by simp [stayM, hs]
  have m7 : stayM hm c cr 1 (6 + 10 * c + 7) = hm 1 (6 + 10 * c + 7) + b2i cr := by simp [stayM, hs]
  have mo : ∀ j, j ≠ 6 + 10 * c + 6 → j ≠ 6 + 10 * c + 7 → stayM hm c cr 1 j = hm 1 j := by
    intro j h1 h2
    simp [stayM, hs, h1, h2]
  have mc : ∀ a, a ≠ 1 → stayM hm c cr a = hm a := by
    intro a ha
    funext j
    simp [stayM, hs, ha]
  obtain ⟨⟨f1, f2, f3, ⟨n, n1, n2, n3⟩, ⟨e4, e5, e6, e7⟩, f6⟩, ⟨g, g1, g2, g3⟩, ⟨p1, p2, p3⟩, w1, w2⟩ := f
  refine ⟨⟨tt_at_keep f1 (qc _ (by omega)) (qc _ (by omega)), ?_, by rw [qo 1 (by decide) (by decide)]; exact f3, ⟨n, n1, by rw [qo 7 (by decide) (by decide)]; exact n2, by rw [mc 10 (by decide)]; exact n3⟩, ⟨?_, ?_, ?_, ?_⟩, fun j hj hj2 => by rw [mo _ (by omega) (by omega)]; exact f6 j hj hj2⟩, ⟨g, g1, by rw [qo 8 (by decide) (by decide)]; exact g2, by rw [mc 11 (by decide)]; exact g3⟩, ⟨by rw [qo 6 (by decide) (by decide)]; exact p1, by rw [qo 2 (by decide) (by decide)]; exact p2, by rw [qo 5 (by decide) (by decide)]; exact p3⟩, ?_, ?_⟩
  · unfold ttAtM
    rw [mc 6 (by decide), mc 7 (by decide)]
    exact f2
  · rw [mo _ (by omega) (by omega), qo 7 (by decide) (by decide)]; exact e4
  · rw [mo _ (by omega) (by omega), qo 8 (by decide) (by decide)]; exact e5
  · rw [m6, q9, e6, Int32.add_assoc]
  · rw [m7, q10, e7, Int32.add_assoc]
  · rw [qo 3 (by decide) (by decide), qo 7 (by decide) (by decide)]
    exact w1
  · rw [qo 3 (by decide) (by decide), qo 4 (by decide) (by decide), mc 8 (by decide), mc 9 (by decide)]
    exact w2
theorem flip_m : ∀ p : Bool, (1 : Int32) - b2i p = b2i (!p) := by decide
/-- a ferry departs -/
theorem MR_dep {r : Nat → Int32} {c t : Nat} {h hm : Hp} {p ar : Bool} (f : MR r c t h hm true p ar) : MR r c t (depH h (50 + 3 * c) (nI t)) (depM hm c t) false p ar := by
  have q3 : depH h (50 + 3 * c) (nI t) (50 + 3 * c) 3 = 1 := by simp [depH, hs]
  have q6 : depH h (50 + 3 * c) (nI t) (50 + 3 * c) 6 = 0 := by simp [depH, hs]
  have q4 : depH h (50 + 3 * c) (nI t) (50 + 3 * c) 4 = nI t := by simp [depH, hs]
  have q7 : depH h (50 + 3 * c) (nI t) (50 + 3 * c) 7 = h (50 + 3 * c) 7 + 1 := by simp [depH, hs]
  have qo : ∀ j, j ≠ 3 → j ≠ 6 → j ≠ 4 → j ≠ 7 → depH h (50 + 3 * c) (nI t) (50 + 3 * c) j = h (50 + 3 * c) j := by
    intro j h1 h2 h3 h4
    simp [depH, hs, h1, h2, h3, h4]
  have qc : ∀ a, a ≠ 50 + 3 * c → depH h (50 + 3 * c) (nI t) a = h a := by
    intro a ha
    funext j
    simp [depH, hs, ha]
  have m8 : depM hm c t 8 c = 1 - hm 8 c := by simp [depM, depM2, depM1, hs]
  have m9 : depM hm c t 9 c = nI (t + 2) := by simp [depM, depM2, depM1, hs]
  have m10 : depM hm c t 10 c = hm 10 c + 1 := by simp [depM, depM2, depM1, hs]
  have m4 : depM hm c t 1 (6 + 10 * c + 4) = hm 1 (6 + 10 * c + 4) + 1 := by simp [depM, depM2, depM1, hs]
  have mo : ∀ j, j ≠ 6 + 10 * c + 4 → depM hm c t 1 j = hm 1 j := by
    intro j h1
    simp [depM, depM2, depM1, hs, h1]
  have mc : ∀ a, a ≠ 1 → a ≠ 8 → a ≠ 9 → a ≠ 10 → depM hm c t a = hm a := by
    intro a h1 h8 h9 h10
    funext j
    simp [depM, depM2, depM1, hs, h1, h8, h9, h10]
  obtain ⟨⟨f1, f2, f3, ⟨n, n1, n2, n3⟩, ⟨e4, e5, e6, e7⟩, f6⟩, ⟨g, g1, g2, g3⟩, ⟨p1, p2, p3⟩, w1, w2⟩ := f
  obtain ⟨w3, w4, n', w5, w6⟩ := w1 rfl
  have hlen := tt_len (cb r c) (cd r c) (cf r c)
  have hnn : n = n' := (eq_iff (by omega) (by omega)).mp (n2.symm.trans w6)
  subst hnn
  have h8 : hm 8 c = b2i p := by
    rcases w2 with ⟨z, -⟩ | ⟨-, z, -⟩
    · rw [w4] at z
      exact absurd z (by decide)
    · exact z
  refine ⟨⟨tt_at_keep f1 (qc _ (by omega)) (qc _ (by omega)), ?_, by rw [qo 1 (by decide) (by decide) (by decide) (by decide)]; exact f3, ⟨n + 1, w5, by rw [q7, n2, nI_1], by rw [m10, n3, nI_1]⟩, ⟨?_, ?_, ?_, ?_⟩, fun j hj hj2 => by rw [mo _ (by omega)]; exact f6 j hj hj2⟩, ⟨g, g1, by rw [qo 8 (by decide) (by decide) (by decide) (by decide)]; exact g2, by rw [mc 11 (by decide) (by decide) (by decide) (by decide)]; exact g3⟩, ⟨q6, by rw [qo 2 (by decide) (by decide) (by decide) (by decide)]; exact p2, by rw [qo 5 (by decide) (by decide) (by decide) (by decide)]; exact p3⟩, fun z => (by cases z), Or.inl ⟨q3, t, w3, Nat.le_refl t, by omega, q4, by rw [m8, h8, flip_m], m9⟩⟩
  · unfold ttAtM
    rw [mc 6 (by decide) (by decide) (by decide) (by decide), mc 7 (by decide) (by decide) (by decide) (by decide)]
    exact f2
  · rw [m4, q7, e4, Int32.add_assoc]
  · rw [mo _ (by omega), qo 8 (by decide) (by decide) (by decide) (by decide)]; exact e5
  · rw [mo _ (by omega), qo 9 (by decide) (by decide) (by decide) (by decide)]; exact e6
  · rw [mo _ (by omega), qo 10 (by decide) (by decide) (by decide) (by decide)]; exact e7
theorem MR_act {r : Nat → Int32} {c t : Nat} {h hm : Hp} {w p ar pp d cr : Bool} (f : MR r c t h hm w p ar) : MR r c t (cAct h c (w && (p == pp)) d t cr) (mAct hm c (w && (p == pp)) d t cr) (w && !((w && (p == pp)) && d)) p ar := by
  cases hs : (w && (p == pp))
  · simp only [Bool.false_and, Bool.not_false, Bool.and_true]
    exact f
  · have hw : w = true := by
      cases w
      · simp at hs
      · rfl
    subst hw
    cases d
    · simp only [Bool.and_false, Bool.not_false, Bool.and_true]
      exact MR_stay f
    · simp only [Bool.and_true, Bool.not_true]
      exact MR_dep f
/-- what an act of another ferry leaves -/
theorem act_FV {c c' t : Nat} {h hm : Hp} {s d cr : Bool} (hne : c' ≠ c) : FV c' h (cAct h c s d t cr) hm (mAct hm c s d t cr) := by
  refine ⟨⟨cAct_ne (by omega), cAct_ne (by omega), cAct_ne (by omega)⟩, ?_⟩
  have m : ∀ a j, (a ≠ 1 ∨ ∀ k, k < 10 → j ≠ 6 + 10 * c + k) → (a = 8 ∨ a = 9 ∨ a = 10 → j ≠ c) → mAct hm c s d t cr a j = hm a j := by
    intro a j h1 h2
    unfold mAct
    cases s
    · rfl
    · cases d
      · have z : ¬ (a = 1 ∧ j = 6 + 10 * c + 6) ∧ ¬ (a = 1 ∧ j = 6 + 10 * c + 7) := by
          rcases h1 with h1 | h1
          · exact ⟨fun z => h1 z.1, fun z => h1 z.1⟩
          · exact ⟨fun z => h1 6 (by decide) z.2, fun z => h1 7 (by decide) z.2⟩
        simp [stayM, hs, z.1, z.2]
      · have z : ¬ (a = 1 ∧ j = 6 + 10 * c + 4) := by
          rcases h1 with h1 | h1
          · exact fun z => h1 z.1
          · exact fun z => h1 4 (by decide) z.2
        have z8 : ¬ (a = 8 ∧ j = c) := fun y => h2 (Or.inl y.1) y.2
        have z9 : ¬ (a = 9 ∧ j = c) := fun y => h2 (Or.inr (Or.inl y.1)) y.2
        have z10 : ¬ (a = 10 ∧ j = c) := fun y => h2 (Or.inr (Or.inr y.1)) y.2
        simp [depM, depM2, depM1, hs, z, z8, z9, z10]
  refine ⟨⟨funext fun j => m 6 j (Or.inl (by decide)) (fun z => by omega), funext fun j => m 7 j (Or.inl (by decide)) (fun z => by omega)⟩, ⟨m 8 c' (Or.inl (by decide)) (fun _ => hne), m 9 c' (Or.inl (by decide)) (fun _ => hne), m 10 c' (Or.inl (by decide)) (fun _ => hne), m 11 c' (Or.inl (by decide)) (fun _ => hne)⟩, fun j hj => m 1 _ (Or.inr (fun k hk => by omega)) (fun z => by omega)⟩
