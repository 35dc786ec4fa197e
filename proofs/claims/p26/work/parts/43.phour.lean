/-! an hour begins -/
def hwn (h : Hp) (k : Nat) (w0 wet : Bool) : Hp := if w0 = true then (if wet = true then hs h k 6 1 else hs (hs (hs h k 6 1) k 8 (hs h k 6 1 k 8 + 1)) k 6 0) else hs h k 6 0
def wn0 (sea : Bool) (t n : Nat) (l : List Nat) : Bool := !sea && decide (t ≤ 21) && decide (n < l.length) && decide (l.getD n 0 ≤ t)
theorem C_98_0 (h : Hp) (k : Nat) (x2 : Int32) : f_X3_beginHour_97 k h x2 = some (hs h k 6 0) := by
  unfold f_X3_beginHour_97 f_X3_beginHour_98
  rw [if_pos isb_0, hs_at, if_pos z00]
theorem C_98_1 (h : Hp) {k d lv : Nat} (hd : d ≤ 6) (hl : lv ≤ 6) (h1 : h k 1 = nI d) : f_X3_beginHour_98 k h (nI lv) (1 : Int32) = some (hwn h k true (decide (d ≤ lv))) := by
  unfold f_X3_beginHour_98 f_X3_beginHour_126
  rw [if_pos isb_1, hs_at, if_neg n10, hs_j (by decide), h1]
  by_cases e : d ≤ lv
  · rw [if_pos ((le_iff (by omega) (by omega)).mpr e), decide_eq_true e]
    rfl
  · rw [if_neg (fun z => e ((le_iff (by omega) (by omega)).mp z)), decide_eq_false e]
    rfl
theorem C_50 {h : Hp} {k b d f n t lv : Nat} {v : Int32} {sea : Bool} (ht : t < 24) (hd : d ≤ 6) (hl : lv ≤ 6) (h1 : h k 1 = nI d) (h3 : h k 3 = b2i sea) (h7 : h k 7 = nI n) (hn : n ≤ (tt b d f).length) (T : ttAt h (k + 1) b d f v) : f_X3_beginHour_50 k h (nI t) (nI lv) = some (hwn h k (wn0 sea t n (tt b d f)) (decide (d ≤ lv))) := by
  unfold f_X3_beginHour_50
  have hlen := tt_len b d f
  rw [h3]
  cases sea
  · rw [if_pos b2f]
    unfold wn0
    by_cases e1 : t ≤ 21
    · rw [if_neg (fun (z : (21 : Int32) < nI t) => by have := (lt_iff (a := 21) (by decide) (by omega)).mp z; omega), h7, C_has h hlen T.1 (by omega), ob_s]
      simp only []
      by_cases e2 : n < (tt b d f).length
      · have hX := @tt_le b d f n e2
        rw [if_pos e2, if_neg n10, h7, C_hourOf h hlen T.1 e2, ob_s]
        simp only []
        rw [T.2.2 n e2]
        by_cases e3 : (tt b d f).getD n 0 ≤ t
        · rw [if_neg (fun z => by have := (lt_iff (by omega) (by omega)).mp z; omega), C_98_1 h hd hl h1, decide_eq_true e1, decide_eq_true e2, decide_eq_true e3]
          rfl
        · rw [if_pos ((lt_iff (by omega) (by omega)).mpr (by omega)), C_98_0, decide_eq_false e3]
          simp [hwn]
      · rw [if_neg e2, if_pos z00, C_98_0, decide_eq_false e2]
        simp [hwn]
    · rw [if_pos (show (21 : Int32) < nI t from (lt_iff (a := 21) (by decide) (by omega)).mpr (by omega)), C_98_0, decide_eq_false e1]
      simp [hwn]
  · rw [if_neg b2t, C_98_0]
    rfl
/-- the heap after the arrival -/
def arH (h : Hp) (k : Nat) (ar p : Bool) : Hp := if ar = true then hs (hs (hs h k 5 1) k 3 0) k 2 (b2i p) else hs h k 5 0
theorem flip_i : ∀ p : Bool, (b2i p + (1 : Int32)) - (b2i p + (1 : Int32)) / (2 : Int32) * (2 : Int32) = b2i (!p) := by decide
theorem C_begin_port {h : Hp} {k t lv : Nat} (h3 : h k 3 = 0) : f_X3_beginHour h k (nI t) (nI lv) = f_X3_beginHour_50 k (arH h k false false) (nI t) (nI lv) := by
  unfold f_X3_beginHour f_X3_beginHour_22 f_X3_beginHour_23
  rw [if_pos h3, if_pos isb_0, hs_at, if_pos z00]
  rfl
theorem C_begin_sea {h : Hp} {k t lv dep : Nat} {p : Bool} (ht : t < 24) (hdep : dep ≤ 21) (h3 : h k 3 = 1) (h4 : h k 4 = nI dep) (h2 : h k 2 = b2i p) : f_X3_beginHour h k (nI t) (nI lv) = f_X3_beginHour_50 k (arH h k (decide (t = dep + 2)) (!p)) (nI t) (nI lv) := by
  unfold f_X3_beginHour f_X3_beginHour_22 f_X3_beginHour_23 f_X3_beginHour_38
  rw [h3, if_neg n10, h4, show nI dep + (2 : Int32) = nI (dep + 2) from nI_add dep 2]
  by_cases e : t = dep + 2
  · rw [if_pos ((eq_iff (by omega) (by omega)).mpr e), if_pos isb_1, hs_at, if_neg n10, hs_j (by decide), hs_j (by decide), h2, flip_i, decide_eq_true e]
    rfl
  · rw [if_neg (fun z => e ((eq_iff (by omega) (by omega)).mp z)), if_pos isb_0, hs_at, if_pos z00, decide_eq_false e]
    rfl
/-! the reference -/
theorem M_wants {hm : Hp} {c b d f n t : Nat} {sea : Bool} (hc : c < 3) (ht : t < 24) (hs9 : nI t < hm 9 c ↔ sea = true) (h10 : hm 10 c = nI n) (hn : n ≤ (tt b d f).length) (T : ttAtM hm c b d f) : f_X8_wants hm (nI c) (nI t) = some (b2i (wn0 sea t n (tt b d f)), hm) := by
  unfold f_X8_wants
  have hlen := tt_len b d f
  rw [if_pos (inb_nI hc (by decide)), if_pos (inb_nI hc (by decide)), if_pos (inb_nI hc (by decide)), if_pos (inb_nI hc (by decide)), nc (by omega), h10, T.1]
  unfold wn0
  cases sea
  · rw [if_neg (fun z => by have := hs9.mp z; cases this)]
    by_cases e2 : n < (tt b d f).length
    · have hX := @tt_le b d f n e2
      rw [if_neg (fun z => by have := (le_iff (by omega) (by omega)).mp z; omega), M_hourOf hm hc (by omega), ob_s]
      simp only []
      rw [T.2 n e2]
      by_cases e3 : (tt b d f).getD n 0 ≤ t
      · rw [if_neg (fun z => by have := (lt_iff (by omega) (by omega)).mp z; omega), show nI t + (2 : Int32) = nI (t + 2) from nI_add t 2]
        by_cases e1 : t ≤ 21
        · rw [if_neg (fun (z : (23 : Int32) < nI (t + 2)) => by have := (lt_iff (a := 23) (by decide) (by omega)).mp z; omega), decide_eq_true e1, decide_eq_true e2, decide_eq_true e3]
          rfl
        · rw [if_pos (show (23 : Int32) < nI (t + 2) from (lt_iff (a := 23) (by decide) (by omega)).mpr (by omega)), decide_eq_false e1]
          simp [b2i]
      · rw [if_pos ((lt_iff (by omega) (by omega)).mpr (by omega)), decide_eq_false e3]
        simp [b2i]
    · rw [if_pos ((le_iff (by omega) (by omega)).mpr (by omega)), decide_eq_false e2]
      simp [b2i]
  · rw [if_pos (hs9.mpr rfl)]
    rfl
def mB (hm : Hp) (c : Nat) (g : Bool) : Hp := if g = true then hs (hs hm 1 (6 + 10 * c + 5) (hm 1 (6 + 10 * c + 5) + 1)) 11 c (hs hm 1 (6 + 10 * c + 5) (hm 1 (6 + 10 * c + 5) + 1) 11 c + 1) else hm
def arO (ar q : Bool) (x : Int32) : Int32 := if ar = true then x ||| ((1 : Int32) <<< (b2i q &&& 31)) else x
theorem M_begin {hm : Hp} {c bt b d f n t N : Nat} {sea ar q : Bool} {x2 x3 x4 : Int32} (hc : c < 3) (ht : t < 24) (hbt : bt < 12) (hd : d ≤ 6) (hs9 : nI t < hm 9 c ↔ sea = true) (ha9 : hm 9 c = nI t ↔ ar = true) (h8 : hm 8 c = b2i q) (h10 : hm 10 c = nI n) (hn : n ≤ (tt b d f).length) (T : ttAtM hm c b d f) (hph : hm 1 1 = nI bt) (h1 : hm 1 (6 + 10 * c + 1) = nI d) :
    f_X8_goOn_10 (N + 1) hm (nI t) x2 x3 x4 (nI c) = f_X8_goOn_10 N (mB hm c (wn0 sea t n (tt b d f) && !decide (d ≤ lvl bt t))) (nI t) (orI (wn0 sea t n (tt b d f) && decide (d ≤ lvl bt t) && !q) c x2) (orI (wn0 sea t n (tt b d f) && decide (d ≤ lvl bt t) && q) c x3) (arO ar q x4) (nI (c + 1)) := by
  have key : ∀ x4' : Int32, f_X8_goOn_41 (f_X8_goOn_10 N) hm (nI t) x2 x3 x4' (nI c) = f_X8_goOn_10 N (mB hm c (wn0 sea t n (tt b d f) && !decide (d ≤ lvl bt t))) (nI t) (orI (wn0 sea t n (tt b d f) && decide (d ≤ lvl bt t) && !q) c x2) (orI (wn0 sea t n (tt b d f) && decide (d ≤ lvl bt t) && q) c x3) x4' (nI (c + 1)) := by
    intro x4'
    unfold f_X8_goOn_41 f_X8_goOn_120
    rw [M_wants hc ht hs9 h10 hn T, ob_s]
    simp only []
    cases hw0 : wn0 sea t n (tt b d f)
    · rw [if_pos b2f, nI_1]
      rfl
    · have hsea : sea = false := by
        cases sea
        · rfl
        · simp [wn0] at hw0
      have hnlt : ¬ nI t < hm 9 c := fun z => by rw [hs9.mp z] at hsea; cases hsea
      rw [if_neg b2t, if_pos (show inb (1 : Int32) 36 = true from inb_nI (a := 1) (by decide) (by decide)), show (1 : Int32).toNatClampNeg = 1 from rfl, hph, M_isEnough hm hc hbt (by omega) hd h1, ob_s]
      simp only []
      by_cases e : d ≤ lvl bt t
      · rw [if_pos e, if_neg n10, decide_eq_true e]
        unfold f_X8_isThere
        rw [if_pos (inb_nI hc (by decide)), if_pos (inb_nI hc (by decide)), nc (by omega), h8, if_neg hnlt]
        cases q
        · rw [if_pos b2f, ob_s]
          simp only []
          rw [if_neg n10, nI_1]
          rfl
        · rw [if_neg b2t, ob_s]
          simp only []
          rw [if_pos trivial, nI_1]
          rfl
      · rw [if_neg e, if_pos z00, decide_eq_false e, show f_X8_more hm (nI c) (5 : Int32) (1 : Int32) = _ from M_more hm hc (w := 5) (by decide) 1, ob_s, if_pos (inb_nI hc (by decide)), if_pos (inb_nI hc (by decide)), nc (by omega), nI_1]
        rfl
  rw [f_X8_goOn_10_s, L3, if_neg (fun z => by have := (le_iff (by decide) (by omega)).mp z; omega), if_pos (inb_nI hc (by decide)), if_pos (inb_nI hc (by decide)), nc (by omega), h8, key, key]
  by_cases e : hm 9 c = nI t
  · rw [if_pos e, ha9.mp e]
    rfl
  · have : ar = false := by
      cases ar
      · rfl
      · exact absurd (ha9.mpr rfl) e
    rw [if_neg e, this]
    rfl
