theorem cnt_i : ∀ a b c : Bool, ((0 : Int32) + b2i a + b2i b + b2i c) = nI (cnt3 a b c) := by decide +kernel
theorem cnt3_le (a b c : Bool) : cnt3 a b c ≤ 3 := by cases a <;> cases b <;> cases c <;> decide
def arr3 (ar p : Nat → Bool) (pp : Bool) : Bool := (ar 0 && (p 0 == pp)) || (ar 1 && (p 1 == pp)) || (ar 2 && (p 2 == pp))
theorem C_gp_head {h : Hp} {t : Nat} {w p ar : Nat → Bool} {pp : Bool} (hw : FW h w p ar) : f_X4_givePier h (b2i pp) (nI t) = f_X4_givePier_83 h (b2i pp) (nI t) (nI (cnt3 (w 0 && (p 0 == pp)) (w 1 && (p 1 == pp)) (w 2 && (p 2 == pp)))) (b2i (arr3 ar p pp)) (b2i (!arr3 ar p pp && decide (2 ≤ cnt3 (w 0 && (p 0 == pp)) (w 1 && (p 1 == pp)) (w 2 && (p 2 == pp))))) := by
  show f_X4_givePier_19 (196 + 1 + 1 + 1 + 1) h (b2i pp) (nI t) (0 : Int32) (b2i false) (nI 3) (nI 0) = _
  have hc3 := cnt3_le (w 0 && (p 0 == pp)) (w 1 && (p 1 == pp)) (w 2 && (p 2 == pp))
  rw [C_cnt_step h (c := 0) (by decide) _ _ (hw 0 (by decide)).1 (hw 0 (by decide)).2.1 (hw 0 (by decide)).2.2, C_cnt_step h (c := 0 + 1) (by decide) _ _ (hw 1 (by decide)).1 (hw 1 (by decide)).2.1 (hw 1 (by decide)).2.2, C_cnt_step h (c := 0 + 1 + 1) (by decide) _ _ (hw 2 (by decide)).1 (hw 2 (by decide)).2.1 (hw 2 (by decide)).2.2, f_X4_givePier_19_s, if_pos (by decide), cnt_i, Bool.false_or, show ((ar 0 && (p 0 == pp)) || (ar 1 && (p 1 == pp)) || (ar 2 && (p 2 == pp))) = arr3 ar p pp from rfl]
  unfold f_X4_givePier_82
  cases arr3 ar p pp
  · rw [if_pos b2f]
    by_cases e : 2 ≤ cnt3 (w 0 && (p 0 == pp)) (w 1 && (p 1 == pp)) (w 2 && (p 2 == pp))
    · rw [L1, if_neg (fun z => by have := (le_iff (by omega) (by decide)).mp z; omega), decide_eq_true e]
      rfl
    · rw [L1, if_pos ((le_iff (by omega) (by decide)).mpr (by omega)), decide_eq_false e]
      rfl
  · rw [if_neg b2t]
    rfl
theorem FW_draw {h : Hp} {w p ar : Nat → Bool} (hw : FW h w p ar) (L : Nat) : FW (drawH h L) w p ar := by
  intro c hc
  unfold drawH
  rw [hs_k (by omega), hs_k (by omega), hs_k (by omega), hs_k (by omega), hs_k (by omega), hs_k (by omega)]
  exact hw c hc
theorem C_gp_f {h : Hp} {t N : Nat} {w p ar : Nat → Bool} {pp A : Bool} (hw : FW h w p ar) : f_X4_givePier_83 h (b2i pp) (nI t) (nI N) (b2i A) (b2i false) = some (cAll h (fun c => w c && (p c == pp)) (fun c => !A && decide (rnk (fun c => w c && (p c == pp)) c = 0)) t false) := by
  unfold f_X4_givePier_83 f_X4_givePier_99
  rw [if_pos b2f]
  exact C_gp_all h (ix := 0) (by decide) hw
theorem C_gp_t {h : Hp} {t N L : Nat} {w p ar : Nat → Bool} {pp A : Bool} (hw : FW h w p ar) (hL : L < 65537) (h48 : h 48 1 = nI L) (h0 : 0 < N) (hN : N < 100) : f_X4_givePier_83 h (b2i pp) (nI t) (nI N) (b2i A) (b2i true) = some (cAll (drawH h L) (fun c => w c && (p c == pp)) (fun c => !A && decide (rnk (fun c => w c && (p c == pp)) c = lotN L % N)) t true) := by
  unfold f_X4_givePier_83 f_X4_givePier_99
  rw [if_neg b2t, C_drawLot hL h48 h0 hN, ob_s]
  exact C_gp_all (drawH h L) (Nat.lt_trans (Nat.mod_lt _ h0) hN) (FW_draw hw L)
/-! the reference's heads -/
theorem us_0 : ∀ a b c : Bool, cnt3 a b c = 0 → US3 a b c = 0 := by decide
theorem us_n : ∀ a b c : Bool, cnt3 a b c ≠ 0 → ¬ US3 a b c = 0 := by decide
theorem M_gp_head {hm : Hp} {t : Nat} (s : Nat → Bool) (A : Bool) : f_X8_givePier hm (US3 (s 0) (s 1) (s 2)) (b2i A) (nI t) = f_X8_givePier_17 hm (US3 (s 0) (s 1) (s 2)) (b2i A) (nI t) (b2i (!A && decide (2 ≤ cnt3 (s 0) (s 1) (s 2)))) := by
  unfold f_X8_givePier f_X8_givePier_16
  have hc3 := cnt3_le (s 0) (s 1) (s 2)
  cases A
  · rw [if_pos b2f, bc_M, ob_s]
    simp only []
    rw [show (s 0).toNat + (s 1).toNat + (s 2).toNat = cnt3 (s 0) (s 1) (s 2) from rfl]
    by_cases e : 2 ≤ cnt3 (s 0) (s 1) (s 2)
    · rw [if_neg (fun (z : nI (cnt3 (s 0) (s 1) (s 2)) ≤ (1 : Int32)) => by have := (le_iff (b := 1) (by omega) (by decide)).mp z; omega), decide_eq_true e]
      rfl
    · rw [if_pos (show nI (cnt3 (s 0) (s 1) (s 2)) ≤ (1 : Int32) from (le_iff (b := 1) (by omega) (by decide)).mpr (by omega)), decide_eq_false e]
      rfl
  · rw [if_neg b2t]
    rfl
/-- who departs, as a number; -5 where nobody does -/
theorem one_sel : ∀ a b c : Bool, cnt3 a b c = 1 → (a = true → (0 = 0) ∧ nI 0 = US3 a b c / 2) ∧ (b = true → (0 + a.toNat = 0) ∧ nI 1 = US3 a b c / 2) ∧ (c = true → (0 + a.toNat + b.toNat = 0) ∧ nI 2 = US3 a b c / 2) := by decide +kernel
theorem rk_sel : ∀ a b c : Bool, ∀ i, i < 3 → i < cnt3 a b c → (a = true → (0 = i ↔ 0 = sel3 a b c i)) ∧ (b = true → (0 + a.toNat = i ↔ 1 = sel3 a b c i)) ∧ (c = true → (0 + a.toNat + b.toNat = i ↔ 2 = sel3 a b c i)) := by
  intro a b c i h3 hc
  rcases (show i = 0 ∨ i = 1 ∨ i = 2 by omega) with rfl | rfl | rfl <;> cases a <;> cases b <;> cases c <;> first
    | (exact absurd hc (by decide))
    | decide
theorem sel3_lt : ∀ a b c : Bool, ∀ i, sel3 a b c i < 3 := by
  intro a b c i
  unfold sel3
  repeat' split
  all_goals decide
theorem s_pos {s : Nat → Bool} {c : Nat} (hc : c < 3) (h : s c = true) : cnt3 (s 0) (s 1) (s 2) ≠ 0 := by
  unfold cnt3
  rcases (show c = 0 ∨ c = 1 ∨ c = 2 by omega) with rfl | rfl | rfl <;> rw [h] <;> simp
theorem GP {h hm : Hp} {L t : Nat} {w p ar : Nat → Bool} {pp : Bool} {s : Nat → Bool} (es : s = fun c => w c && (p c == pp)) (hw : FW h w p ar) (hL : L < 65537) (h48 : h 48 1 = nI L) (h12 : hm 1 2 = nI L) : ∃ d cr hl hml, f_X4_givePier h (b2i pp) (nI t) = some (cAll hl s d t cr) ∧ f_X8_givePier hm (US3 (s 0) (s 1) (s 2)) (b2i (arr3 ar p pp)) (nI t) = some (mAll hml s d t cr) ∧ ((hl = h ∧ hml = hm) ∨ (hl = drawH h L ∧ hml = drawM hm L)) := by
  rw [C_gp_head hw, M_gp_head s]
  have e0 : (w 0 && (p 0 == pp)) = s 0 := by rw [es]
  have e1 : (w 1 && (p 1 == pp)) = s 1 := by rw [es]
  have e2 : (w 2 && (p 2 == pp)) = s 2 := by rw [es]
  rw [e0, e1, e2]
  have hc3 := cnt3_le (s 0) (s 1) (s 2)
  cases hA : arr3 ar p pp
  · by_cases hN : 2 ≤ cnt3 (s 0) (s 1) (s 2)
    · rw [decide_eq_true hN]
      simp only [Bool.not_false, Bool.and_true]
      rw [C_gp_t hw hL h48 (by omega) (by omega), ← es]
      unfold f_X8_givePier_17 f_X8_givePier_48
      rw [if_pos b2f, if_neg (us_n _ _ _ (by omega)), if_neg b2t, M_draw hL h12 (by omega), ob_s]
      simp only []
      rw [M_gp_all _ s true]
      refine ⟨fun c => decide (nI c = nI (sel3 (s 0) (s 1) (s 2) (lotN L % cnt3 (s 0) (s 1) (s 2)))), true, drawH h L, drawM hm L, ?_, rfl, Or.inr ⟨rfl, rfl⟩⟩
      congr 1
      refine cAll_same (fun c hc hsc => ?_)
      have hlt : lotN L % cnt3 (s 0) (s 1) (s 2) < cnt3 (s 0) (s 1) (s 2) := Nat.mod_lt _ (by omega)
      obtain ⟨q0, q1, q2⟩ := rk_sel (s 0) (s 1) (s 2) _ (by omega) hlt
      have hs3 := sel3_lt (s 0) (s 1) (s 2) (lotN L % cnt3 (s 0) (s 1) (s 2))
      rw [show decide (nI c = nI (sel3 (s 0) (s 1) (s 2) (lotN L % cnt3 (s 0) (s 1) (s 2)))) = decide (c = sel3 (s 0) (s 1) (s 2) (lotN L % cnt3 (s 0) (s 1) (s 2))) from decide_eq_decide.mpr (eq_iff (by omega) (by omega))]
      simp only [Bool.not_false, Bool.true_and]
      apply decide_eq_decide.mpr
      rcases (show c = 0 ∨ c = 1 ∨ c = 2 by omega) with rfl | rfl | rfl
      · exact q0 hsc
      · exact q1 hsc
      · exact q2 hsc
    · rw [decide_eq_false hN]
      simp only [Bool.not_false, Bool.and_false]
      rw [C_gp_f hw, ← es]
      unfold f_X8_givePier_17 f_X8_givePier_27 f_X8_givePier_48
      rw [if_pos b2f]
      by_cases hz : cnt3 (s 0) (s 1) (s 2) = 0
      · rw [if_pos (us_0 _ _ _ hz), M_gp_all _ s false]
        refine ⟨fun c => decide (nI c = (-5 : Int32)), false, h, hm, ?_, rfl, Or.inl ⟨rfl, rfl⟩⟩
        congr 1
        exact cAll_same (fun c hc hsc => absurd hz (s_pos hc hsc))
      · have h1 : cnt3 (s 0) (s 1) (s 2) = 1 := by omega
        rw [if_neg (us_n _ _ _ hz), if_pos b2f, M_gp_all _ s false]
        refine ⟨fun c => decide (nI c = US3 (s 0) (s 1) (s 2) / (2 : Int32)), false, h, hm, ?_, rfl, Or.inl ⟨rfl, rfl⟩⟩
        congr 1
        refine cAll_same (fun c hc hsc => ?_)
        obtain ⟨q0, q1, q2⟩ := one_sel (s 0) (s 1) (s 2) h1
        rcases (show c = 0 ∨ c = 1 ∨ c = 2 by omega) with rfl | rfl | rfl
        · obtain ⟨x1, x2⟩ := q0 hsc
          rw [decide_eq_true x2]
          rfl
        · obtain ⟨x1, x2⟩ := q1 hsc
          rw [decide_eq_true x2, show rnk s 1 = 0 from x1]
          rfl
        · obtain ⟨x1, x2⟩ := q2 hsc
          rw [decide_eq_true x2, show rnk s 2 = 0 from x1]
          rfl
  · simp only [Bool.not_true, Bool.false_and]
    rw [C_gp_f hw, ← es]
    unfold f_X8_givePier_17 f_X8_givePier_27 f_X8_givePier_48
    rw [if_neg b2t, M_gp_all _ s false]
    refine ⟨fun c => decide (nI c = (-5 : Int32)), false, h, hm, ?_, rfl, Or.inl ⟨rfl, rfl⟩⟩
    exact congrArg some (cAll_same (fun c hc hsc => (decide_eq_false (nI_ne5 (by omega))).symm))
