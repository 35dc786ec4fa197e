/-! a pier is given, on both sides -/
def b2i (b : Bool) : Int32 := if b = true then 1 else 0
theorem b2f : b2i false = 0 := rfl
theorem b2t : ¬ b2i true = 0 := by decide
theorem C_wantsFrom (h : Hp) {k : Nat} {w p pp : Bool} (h6 : h k 6 = b2i w) (h2 : h k 2 = b2i p) : f_X3_wantsFrom h k (b2i pp) = some (b2i (w && (p == pp)), h) := by
  unfold f_X3_wantsFrom
  rw [h6, h2]
  cases w <;> cases p <;> cases pp <;> rfl
theorem C_arrivedAt (h : Hp) {k : Nat} {w p pp : Bool} (h5 : h k 5 = b2i w) (h2 : h k 2 = b2i p) : f_X3_arrivedAt h k (b2i pp) = some (b2i (w && (p == pp)), h) := by
  unfold f_X3_arrivedAt
  rw [h5, h2]
  cases w <;> cases p <;> cases pp <;> rfl
def depH (h : Hp) (k : Nat) (t : Int32) : Hp := hs (hs (hs (hs h k 3 1) k 6 0) k 4 t) k 7 ((hs (hs (hs h k 3 1) k 6 0) k 4 t) k 7 + 1)
theorem C_depart (h : Hp) (k : Nat) (t : Int32) : f_X3_depart h k t = some (depH h k t) := rfl
def stayH (h : Hp) (k : Nat) (cr : Bool) : Hp := if cr = true then hs (hs h k 9 (h k 9 + 1)) k 10 ((hs h k 9 (h k 9 + 1)) k 10 + 1) else hs h k 9 (h k 9 + 1)
theorem C_stay (h : Hp) (k : Nat) (cr : Bool) : f_X3_stay h k (b2i cr) = some (stayH h k cr) := by
  cases cr
  · unfold f_X3_stay
    rw [if_pos b2f]
    rfl
  · unfold f_X3_stay
    rw [if_neg b2t]
    rfl
def cAct (h : Hp) (c : Nat) (s d : Bool) (t : Nat) (cr : Bool) : Hp := if s = true then (if d = true then depH h (50 + 3 * c) (nI t) else stayH h (50 + 3 * c) cr) else h
theorem cAct_ne {h : Hp} {c : Nat} {s d : Bool} {t : Nat} {cr : Bool} {a : Nat} (ha : a ≠ 50 + 3 * c) : cAct h c s d t cr a = h a := by
  unfold cAct depH stayH
  cases s
  · rfl
  · cases d
    · cases cr
      · show hs h (50 + 3 * c) 9 _ a = h a
        rw [hs_r ha]
      · show hs (hs h (50 + 3 * c) 9 _) (50 + 3 * c) 10 _ a = h a
        rw [hs_r ha, hs_r ha]
    · show hs (hs (hs (hs h (50 + 3 * c) 3 1) (50 + 3 * c) 6 0) (50 + 3 * c) 4 _) (50 + 3 * c) 7 _ a = h a
      rw [hs_r ha, hs_r ha, hs_r ha, hs_r ha]
theorem C_gp_step (h : Hp) {n c rk ix t : Nat} (hc : c < 3) (hrk : rk < 100) (hix : ix < 100) {w p pp A cr : Bool} (h6 : h (50 + 3 * c) 6 = b2i w) (h2 : h (50 + 3 * c) 2 = b2i p) : f_X4_givePier_118 (n + 1) h (b2i pp) (nI t) (b2i A) (b2i cr) (nI ix) (nI rk) (nI 3) (nI c) = f_X4_givePier_118 n (cAct h c (w && (p == pp)) (!A && decide (rk = ix)) t cr) (b2i pp) (nI t) (b2i A) (b2i cr) (nI ix) (nI (rk + (w && (p == pp)).toNat)) (nI 3) (nI (c + 1)) := by
  rw [f_X4_givePier_118_s, if_neg (fun z => by have := (le_iff (by decide) (by omega)).mp z; omega), if_pos (inb_nI hc (by decide)), nc (by omega), C_wantsFrom h h6 h2, ob_s]
  unfold f_X4_givePier_162 f_X4_givePier_169 f_X4_givePier_172
  cases (w && (p == pp))
  · simp only []
    rw [if_pos b2f, nI_1]
    rfl
  · simp only []
    rw [if_neg b2t]
    cases A
    · rw [if_pos b2f]
      by_cases e : rk = ix
      · rw [if_pos ((eq_iff (by omega) (by omega)).mpr e), C_depart, ob_s, nI_1, nI_1, decide_eq_true e]
        rfl
      · rw [if_neg (fun z => e ((eq_iff (by omega) (by omega)).mp z)), C_stay, ob_s, nI_1, nI_1, decide_eq_false e]
        rfl
    · rw [if_neg b2t, C_stay, ob_s, nI_1, nI_1]
      rfl
theorem C_cnt_step (h : Hp) {n c t : Nat} (hc : c < 3) {w p pp ar : Bool} (x3 : Int32) (A : Bool) (h6 : h (50 + 3 * c) 6 = b2i w) (h2 : h (50 + 3 * c) 2 = b2i p) (h5 : h (50 + 3 * c) 5 = b2i ar) : f_X4_givePier_19 (n + 1) h (b2i pp) (nI t) x3 (b2i A) (nI 3) (nI c) = f_X4_givePier_19 n h (b2i pp) (nI t) (x3 + b2i (w && (p == pp))) (b2i (A || (ar && (p == pp)))) (nI 3) (nI (c + 1)) := by
  rw [f_X4_givePier_19_s, if_neg (fun z => by have := (le_iff (by decide) (by omega)).mp z; omega), if_pos (inb_nI hc (by decide)), nc (by omega), C_wantsFrom h h6 h2, ob_s]
  unfold f_X4_givePier_48 f_X4_givePier_62
  rw [C_arrivedAt h h5 h2, ob_s, ob_s, nI_1]
  cases (w && (p == pp)) <;> cases (ar && (p == pp)) <;> cases A <;> (try simp only []) <;> first
    | (rw [if_pos b2f, if_pos b2f]; rfl)
    | (rw [if_pos b2f, if_neg b2t]; rfl)
    | (rw [if_neg b2t, if_pos b2f]; rfl)
    | (rw [if_neg b2t, if_neg b2t]; rfl)
/-! the reference -/
theorem M_more (h : Hp) {c w : Nat} (hc : c < 3) (hw : w < 10) (v : Int32) : f_X8_more h (nI c) (nI w) v = some (hs h 1 (6 + 10 * c + w) (h 1 (6 + 10 * c + w) + v)) := by
  unfold f_X8_more
  rw [M_of h hc hw, ob_s]
  simp only []
  rw [M_put h hc hw, ob_s]
def depM1 (h : Hp) (c t : Nat) : Hp := hs (hs h 8 c (1 - h 8 c)) 9 c (nI (t + 2))
def depM2 (h : Hp) (c t : Nat) : Hp := hs (depM1 h c t) 10 c (depM1 h c t 10 c + 1)
def depM (h : Hp) (c t : Nat) : Hp := hs (depM2 h c t) 1 (6 + 10 * c + 4) (depM2 h c t 1 (6 + 10 * c + 4) + 1)
theorem M_depart (h : Hp) {c t : Nat} (hc : c < 3) : f_X8_depart h (nI c) (nI t) = some (depM h c t) := by
  unfold f_X8_depart f_X8_depart_23
  rw [if_pos (inb_nI hc (by decide)), if_pos (inb_nI hc (by decide)), if_pos (inb_nI hc (by decide)), if_pos (inb_nI hc (by decide)), if_pos (inb_nI hc (by decide)), nc (by omega), show nI t + (2 : Int32) = nI (t + 2) from nI_add t 2]
  rw [show ∀ v : Hp, f_X8_more v (nI c) (4 : Int32) (1 : Int32) = _ from fun v => M_more v hc (w := 4) (by decide) 1, ob_s]
  rfl
def stayM (h : Hp) (c : Nat) (cr : Bool) : Hp := hs (hs h 1 (6 + 10 * c + 6) (h 1 (6 + 10 * c + 6) + 1)) 1 (6 + 10 * c + 7) (hs h 1 (6 + 10 * c + 6) (h 1 (6 + 10 * c + 6) + 1) 1 (6 + 10 * c + 7) + b2i cr)
def mAct (h : Hp) (c : Nat) (s d : Bool) (t : Nat) (cr : Bool) : Hp := if s = true then (if d = true then depM h c t else stayM h c cr) else h
theorem bit3 : ∀ a b c : Bool, ((US3 a b c >>> (nI 0 &&& 31)) &&& (1 : Int32)) = b2i a ∧ ((US3 a b c >>> (nI 1 &&& 31)) &&& (1 : Int32)) = b2i b ∧ ((US3 a b c >>> (nI 2 &&& 31)) &&& (1 : Int32)) = b2i c := by decide +kernel
theorem bitc (s : Nat → Bool) {c : Nat} (hc : c < 3) : ((US3 (s 0) (s 1) (s 2) >>> (nI c &&& 31)) &&& (1 : Int32)) = b2i (s c) := by
  obtain ⟨a, b, d⟩ := bit3 (s 0) (s 1) (s 2)
  rcases (show c = 0 ∨ c = 1 ∨ c = 2 by omega) with rfl | rfl | rfl
  · exact a
  · exact b
  · exact d
theorem M_gp_step (h : Hp) {n c t : Nat} (hc : c < 3) (s : Nat → Bool) (cr : Bool) (wn : Int32) : f_X8_givePier_53 (n + 1) h (US3 (s 0) (s 1) (s 2)) (nI t) (b2i cr) wn (nI c) = f_X8_givePier_53 n (mAct h c (s c) (decide (nI c = wn)) t cr) (US3 (s 0) (s 1) (s 2)) (nI t) (b2i cr) wn (nI (c + 1)) := by
  rw [f_X8_givePier_53_s, L3, if_neg (fun z => by have := (le_iff (by decide) (by omega)).mp z; omega), bitc s hc]
  unfold f_X8_givePier_112 f_X8_givePier_115
  cases s c
  · rw [if_pos b2f, nI_1]
    rfl
  · rw [if_neg b2t]
    by_cases e : nI c = wn
    · rw [if_pos e, M_depart h hc, ob_s, nI_1, decide_eq_true e]
      rfl
    · rw [if_neg e, show f_X8_more h (nI c) (6 : Int32) (1 : Int32) = _ from M_more h hc (w := 6) (by decide) 1, ob_s, decide_eq_false e]
      cases cr
      · rw [if_pos b2f, show f_X8_more (hs h 1 (6 + 10 * c + 6) (h 1 (6 + 10 * c + 6) + 1)) (nI c) (7 : Int32) (0 : Int32) = _ from M_more _ hc (w := 7) (by decide) 0, ob_s, nI_1]
        rfl
      · rw [if_neg b2t, show f_X8_more (hs h 1 (6 + 10 * c + 6) (h 1 (6 + 10 * c + 6) + 1)) (nI c) (7 : Int32) (1 : Int32) = _ from M_more _ hc (w := 7) (by decide) 1, ob_s, nI_1]
        rfl
def cAll (h : Hp) (s d : Nat → Bool) (t : Nat) (cr : Bool) : Hp := cAct (cAct (cAct h 0 (s 0) (d 0) t cr) 1 (s 1) (d 1) t cr) 2 (s 2) (d 2) t cr
def mAll (h : Hp) (s d : Nat → Bool) (t : Nat) (cr : Bool) : Hp := mAct (mAct (mAct h 0 (s 0) (d 0) t cr) 1 (s 1) (d 1) t cr) 2 (s 2) (d 2) t cr
theorem M_gp_all (h : Hp) {t : Nat} (s : Nat → Bool) (cr : Bool) (wn : Int32) : f_X8_givePier_53 FU h (US3 (s 0) (s 1) (s 2)) (nI t) (b2i cr) wn (0 : Int32) = some (mAll h s (fun c => decide (nI c = wn)) t cr) := by
  show f_X8_givePier_53 (196 + 1 + 1 + 1 + 1) h (US3 (s 0) (s 1) (s 2)) (nI t) (b2i cr) wn (nI 0) = _
  rw [M_gp_step h (by decide) s, M_gp_step _ (by decide) s, M_gp_step _ (by decide) s, f_X8_givePier_53_s, if_pos (by decide)]
  rfl
/-- who has a rank -/
def rnk (s : Nat → Bool) : Nat → Nat
  | 0 => 0
  | n + 1 => rnk s n + (s n).toNat
theorem rnk_lt (s : Nat → Bool) : ∀ c, rnk s c ≤ c := by
  intro c
  induction c with
  | zero => exact Nat.le_refl 0
  | succ c ih =>
    have : (s c).toNat ≤ 1 := by cases s c <;> decide
    show rnk s c + (s c).toNat ≤ c + 1
    omega
/-- what the class's ferries are before a pier is given -/
def FW (h : Hp) (w p ar : Nat → Bool) : Prop := ∀ c, c < 3 → h (50 + 3 * c) 6 = b2i (w c) ∧ h (50 + 3 * c) 2 = b2i (p c) ∧ h (50 + 3 * c) 5 = b2i (ar c)
theorem C_gp_all (h : Hp) {ix t : Nat} (hix : ix < 100) {w p ar : Nat → Bool} {pp A cr : Bool} (hw : FW h w p ar) : f_X4_givePier_118 FU h (b2i pp) (nI t) (b2i A) (b2i cr) (nI ix) (0 : Int32) (3 : Int32) (0 : Int32) = some (cAll h (fun c => w c && (p c == pp)) (fun c => !A && decide (rnk (fun c => w c && (p c == pp)) c = ix)) t cr) := by
  show f_X4_givePier_118 (196 + 1 + 1 + 1 + 1) h (b2i pp) (nI t) (b2i A) (b2i cr) (nI ix) (nI (rnk (fun c => w c && (p c == pp)) 0)) (nI 3) (nI 0) = _
  have r1 := rnk_lt (fun c => w c && (p c == pp)) 1
  have r2 := rnk_lt (fun c => w c && (p c == pp)) 2
  rw [C_gp_step h (c := 0) (by decide) (Nat.lt_of_le_of_lt (rnk_lt _ 0) (by decide)) hix (hw 0 (by decide)).1 (hw 0 (by decide)).2.1]
  show f_X4_givePier_118 (196 + 1 + 1 + 1) _ (b2i pp) (nI t) (b2i A) (b2i cr) (nI ix) (nI (rnk (fun c => w c && (p c == pp)) 1)) (nI 3) (nI 1) = _
  rw [C_gp_step _ (c := 1) (by decide) (by omega) hix (w := w 1) (p := p 1) (by rw [cAct_ne (by decide)]; exact (hw 1 (by decide)).1) (by rw [cAct_ne (by decide)]; exact (hw 1 (by decide)).2.1)]
  show f_X4_givePier_118 (196 + 1 + 1) _ (b2i pp) (nI t) (b2i A) (b2i cr) (nI ix) (nI (rnk (fun c => w c && (p c == pp)) 2)) (nI 3) (nI 2) = _
  rw [C_gp_step _ (c := 2) (by decide) (by omega) hix (w := w 2) (p := p 2) (by rw [cAct_ne (by decide), cAct_ne (by decide)]; exact (hw 2 (by decide)).1) (by rw [cAct_ne (by decide), cAct_ne (by decide)]; exact (hw 2 (by decide)).2.1), f_X4_givePier_118_s, if_pos (by decide)]
  rfl
theorem cAct_same {h : Hp} {c t : Nat} {s d d' cr : Bool} (hd : s = true → d = d') : cAct h c s d t cr = cAct h c s d' t cr := by
  unfold cAct
  cases s
  · rfl
  · rw [hd rfl]
theorem cAll_same {h : Hp} {s d d' : Nat → Bool} {t : Nat} {cr : Bool} (hd : ∀ c, c < 3 → s c = true → d c = d' c) : cAll h s d t cr = cAll h s d' t cr := by
  unfold cAll
  rw [cAct_same (hd 0 (by decide)), cAct_same (hd 1 (by decide)), cAct_same (hd 2 (by decide))]
/-! the lot -/
def lotN (L : Nat) : Nat := (75 * L + 74) % 65537
theorem lotN_lt (L : Nat) : lotN L < 65537 := Nat.mod_lt _ (by decide)
theorem lot_int {L : Nat} (hL : L < 65537) : ((75 : Int32) * nI L + (74 : Int32)) - ((75 : Int32) * nI L + (74 : Int32)) / (65537 : Int32) * (65537 : Int32) = nI (lotN L) := by
  rw [show (75 : Int32) * nI L = nI (75 * L) from pk_mul 75 L, show nI (75 * L) + (74 : Int32) = nI (75 * L + 74) from nI_add _ 74]
  exact pk_rem (d := 65537) (by omega) (by decide) (by decide)
def drawH (h : Hp) (L : Nat) : Hp := hs (hs h 48 1 (nI (lotN L))) 48 2 (h 48 2 + 1)
theorem C_drawLot {h : Hp} {L N : Nat} (hL : L < 65537) (h48 : h 48 1 = nI L) (h0 : 0 < N) (hN : N < 100) : f_X4_drawLot h (nI N) = some (nI (lotN L % N), drawH h L) := by
  unfold f_X4_drawLot f_X4_drawLot_27
  have hl := lotN_lt L
  rw [h48, lot_int hL, hs_j (by decide), hs_j (by decide), hs_at, if_neg (nI_nle h0 (by omega)), if_pos (nI_ne0 h0 (by omega)), pk_rem (by omega) h0 (by omega)]
  rfl
def drawM (h : Hp) (L : Nat) : Hp := hs (hs h 1 2 (nI (lotN L))) 1 5 (h 1 5 + 1)
/-- the i-th of a set -/
def sel3 (a b c : Bool) (i : Nat) : Nat := if a = true then (if i = 0 then 0 else if b = true then (if i = 1 then 1 else 2) else 2) else (if b = true then (if i = 0 then 1 else 2) else 2)
def cnt3 (a b c : Bool) : Nat := a.toNat + b.toNat + c.toNat
theorem M_draw_go (h : Hp) : ∀ a b c : Bool, ∀ i, i < cnt3 a b c → f_X8_draw_45 FU h (US3 a b c) (nI i) (0 : Int32) = some (nI (sel3 a b c i), h) := by
  have st1 : ∀ (n : Nat) (x1 x2 x3 : Int32), ((x1 >>> (x3 &&& 31)) &&& (1 : Int32)) = 0 → f_X8_draw_45 (n + 1) h x1 x2 x3 = f_X8_draw_45 n h x1 (x2 - 0) (x3 + 1) := by
    intro n x1 x2 x3 e
    rw [f_X8_draw_45_s, if_pos e]
    unfold f_X8_draw_57
    rw [e]
  have st2 : ∀ (n : Nat) (x1 x2 x3 : Int32), ((x1 >>> (x3 &&& 31)) &&& (1 : Int32)) = 1 → ¬ x2 ≤ 0 → f_X8_draw_45 (n + 1) h x1 x2 x3 = f_X8_draw_45 n h x1 (x2 - 1) (x3 + 1) := by
    intro n x1 x2 x3 e e2
    rw [f_X8_draw_45_s, if_neg (by rw [e]; decide), if_neg e2]
    unfold f_X8_draw_57
    rw [e]
  have st3 : ∀ (n : Nat) (x1 x2 x3 : Int32), ((x1 >>> (x3 &&& 31)) &&& (1 : Int32)) = 1 → x2 ≤ 0 → f_X8_draw_45 (n + 1) h x1 x2 x3 = some (x3, h) := by
    intro n x1 x2 x3 e e2
    rw [f_X8_draw_45_s, if_neg (by rw [e]; decide), if_pos e2]
  intro a b c i hi
  rw [show FU = 196 + 1 + 1 + 1 + 1 from rfl]
  have hi3 : i = 0 ∨ i = 1 ∨ i = 2 := by
    have : cnt3 a b c ≤ 3 := by cases a <;> cases b <;> cases c <;> decide
    omega
  rcases hi3 with rfl | rfl | rfl <;> cases a <;> cases b <;> cases c <;> first
    | (exact absurd hi (by decide))
    | (rw [st3 _ _ _ _ (by decide) (by decide)]; rfl)
    | (rw [st1 _ _ _ _ (by decide), st3 _ _ _ _ (by decide) (by decide)]; rfl)
    | (rw [st2 _ _ _ _ (by decide) (by decide), st3 _ _ _ _ (by decide) (by decide)]; rfl)
    | (rw [st1 _ _ _ _ (by decide), st1 _ _ _ _ (by decide), st3 _ _ _ _ (by decide) (by decide)]; rfl)
    | (rw [st1 _ _ _ _ (by decide), st2 _ _ _ _ (by decide) (by decide), st3 _ _ _ _ (by decide) (by decide)]; rfl)
    | (rw [st2 _ _ _ _ (by decide) (by decide), st1 _ _ _ _ (by decide), st3 _ _ _ _ (by decide) (by decide)]; rfl)
    | (rw [st2 _ _ _ _ (by decide) (by decide), st2 _ _ _ _ (by decide) (by decide), st3 _ _ _ _ (by decide) (by decide)]; rfl)
theorem M_draw {h : Hp} {L : Nat} (hL : L < 65537) (h12 : h 1 2 = nI L) {a b c : Bool} (hN : 0 < cnt3 a b c) : f_X8_draw h (US3 a b c) = some (nI (sel3 a b c (lotN L % cnt3 a b c)), drawM h L) := by
  unfold f_X8_draw f_X8_draw_31
  have hl := lotN_lt L
  have hc3 : cnt3 a b c ≤ 3 := by cases a <;> cases b <;> cases c <;> decide
  rw [if_pos (by decide), if_pos (by decide), if_pos (by decide), if_pos (by decide), if_pos (by decide), show (2 : Int32).toNatClampNeg = 2 from rfl, show (5 : Int32).toNatClampNeg = 5 from rfl, h12, lot_int hL, hs_j (by decide), hs_j (by decide), hs_at, bc_M, ob_s]
  simp only []
  rw [show a.toNat + b.toNat + c.toNat = cnt3 a b c from rfl, if_pos (nI_ne0 hN (by omega)), pk_rem (by omega) hN (by omega)]
  exact M_draw_go _ a b c _ (Nat.mod_lt _ hN)
